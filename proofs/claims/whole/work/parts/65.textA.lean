/-! tokens of a tape -/
def isL (x : Int32) : Bool := decide ((97 : Int32) ≤ x ∧ x ≤ 122)
def isD (x : Int32) : Bool := decide ((48 : Int32) ≤ x ∧ x ≤ 57)
def rnF (b : Nat → Bool) (T i : Nat) : Nat := i + fa_first (fun d => !(b (i + d))) (T - i)
theorem rn_spec (b : Nat → Bool) {T i : Nat} (h : i ≤ T) : i ≤ rnF b T i ∧ rnF b T i ≤ T ∧ (∀ j, i ≤ j → j < rnF b T i → b j = true) ∧ (rnF b T i < T → b (rnF b T i) = false) := by
  have f1 := fa_first_le (fun d => !(b (i + d))) (T - i)
  have f2 := fa_first_no (fun d => !(b (i + d))) (T - i)
  have f3 := fa_first_yes (fun d => !(b (i + d))) (T - i)
  unfold rnF
  generalize fa_first (fun d => !(b (i + d))) (T - i) = N at f1 f2 f3 ⊢
  refine ⟨by omega, by omega, fun j h1 h2 => ?_, fun h1 => ?_⟩
  · have := f2 (j - i) (by omega)
    rw [show i + (j - i) = j by omega] at this
    simpa using this
  · have := f3 (by omega)
    simpa using this
def skF (t : Nat → Int32) (T i : Nat) : Nat := rnF (fun j => decide (t j = 32)) T i
def te (t : Nat → Int32) (T f : Nat) : Nat := if T ≤ f then f else if isL (t f) then rnF (fun j => isL (t j)) T (f + 1) else if isD (t f) then rnF (fun j => isD (t j)) T (f + 1) else f + 1
def kdF (t : Nat → Int32) (T f : Nat) : Int32 := if T ≤ f then 0 else if isL (t f) then 1 else if isD (t f) then 2 else if t f = 59 then 3 else 4
def vF (t : Nat → Int32) (f : Nat) : Nat → Int32
  | 0 => 0
  | j + 1 => zz_min (10 * vF t f j + t (f + j) - 48) 1000
def vl (t : Nat → Int32) (T f : Nat) : Int32 := vF t f (te t T f - f)
theorem te_bd (t : Nat → Int32) {T f : Nat} (h : f ≤ T) : f ≤ te t T f ∧ te t T f ≤ T ∧ (f < T → f < te t T f) := by
  unfold te
  by_cases h1 : T ≤ f
  · rw [if_pos h1]; omega
  · rw [if_neg h1]
    by_cases h2 : isL (t f) = true
    · rw [if_pos h2]
      have := rn_spec (fun j => isL (t j)) (T := T) (i := f + 1) (by omega)
      omega
    · rw [if_neg h2]
      by_cases h3 : isD (t f) = true
      · rw [if_pos h3]
        have := rn_spec (fun j => isD (t j)) (T := T) (i := f + 1) (by omega)
        omega
      · rw [if_neg h3]; omega
theorem te_L {t : Nat → Int32} {T f : Nat} (h : f < T) (hl : isL (t f) = true) : (∀ j, f ≤ j → j < te t T f → isL (t j) = true) ∧ (te t T f < T → isL (t (te t T f)) = false) := by
  unfold te
  rw [if_neg (by omega), if_pos hl]
  obtain ⟨a1, a2, a3, a4⟩ := rn_spec (fun j => isL (t j)) (T := T) (i := f + 1) (by omega)
  refine ⟨fun j h1 h2 => ?_, a4⟩
  by_cases e : j = f
  · subst e; exact hl
  · exact a3 j (by omega) h2
theorem te_D {t : Nat → Int32} {T f : Nat} (h : f < T) (hl : ¬ isL (t f) = true) (hd : isD (t f) = true) : (∀ j, f ≤ j → j < te t T f → isD (t j) = true) ∧ (te t T f < T → isD (t (te t T f)) = false) := by
  unfold te
  rw [if_neg (by omega), if_neg hl, if_pos hd]
  obtain ⟨a1, a2, a3, a4⟩ := rn_spec (fun j => isD (t j)) (T := T) (i := f + 1) (by omega)
  refine ⟨fun j h1 h2 => ?_, a4⟩
  by_cases e : j = f
  · subst e; exact hd
  · exact a3 j (by omega) h2
theorem c_isL (x : Int32) (h : zz_H) (post : Int32 → Prop) : wX3_isLetter x h post = post (if isL x then 1 else 0) := by
  have := within_eq x 97 122 h post
  unfold wX4_within at this
  unfold wX3_isLetter
  refine Eq.trans this ?_
  unfold isL
  simp only [decide_eq_true_eq]
theorem c_isD (x : Int32) (h : zz_H) (post : Int32 → Prop) : wX3_isDigit x h post = post (if isD x then 1 else 0) := by
  have := within_eq x 48 57 h post
  unfold wX4_within at this
  unfold wX3_isDigit
  refine Eq.trans this ?_
  unfold isD
  simp only [decide_eq_true_eq]
theorem m_isL (x : Int32) (h : zz_H) (post : Int32 → Prop) : wX5_isLetter x h post = post (if isL x then 1 else 0) := by
  rw [m_isLetter]
  unfold isL
  simp only [decide_eq_true_eq]
theorem m_isD (x : Int32) (h : zz_H) (post : Int32 → Prop) : wX5_isDigit x h post = post (if isD x then 1 else 0) := by
  rw [m_isDigit]
  unfold isD
  simp only [decide_eq_true_eq]
/-- the class at a token -/
def TC (c : zz_H) (t : Nat → Int32) (T f : Nat) : Prop := c 29 3 = nI f ∧ c 29 4 = nI (te t T f) ∧ c 29 2 = kdF t T f ∧ (kdF t T f = 2 → c 29 5 = vl t T f)
set_option maxHeartbeats 4000000 in
theorem c_step {c : zz_H} {t : Nat → Int32} {T e : Nat} (hT : T ≤ 120) (e1 : c 29 1 = nI T) (hb : ∀ i, i < T → c 30 i = t i) (e4 : c 29 4 = nI e) (he : e ≤ T) (post : Int32 → zz_H → Prop) (k : ∀ c', (∀ j, j ≠ 29 → c' j = c j) → c' 29 1 = nI T → TC c' t T (skF t T e) → post 0 c') : wX3_step c post := by
  unfold wX3_step
  rw [sto_eq, e4]
  obtain ⟨s1, s2, s3, s4⟩ := rn_spec (fun j => decide (t j = 32)) he
  have ef : skF t T e = rnF (fun j => decide (t j = 32)) T e := rfl
  rw [← ef] at s1 s2 s3 s4
  have tb := te_bd t s2
  have tL := fun h => te_L (t := t) (T := T) (f := skF t T e) h
  have tD := fun h => te_D (t := t) (T := T) (f := skF t T e) h
  generalize skF t T e = f at s1 s2 s3 s4 tb tL tD k
  clear ef
  -- at the token
  have tok : ∀ h : zz_H, (∀ j, j ≠ 29 → h j = c j) → h 29 1 = nI T → h 29 3 = nI f → wX3_step_j46 post h := by
    intro h ho h1 h3
    unfold wX3_step_j46
    rw [sto_eq, h3]
    have g0 : ∀ j, j ≠ 29 → zz_st h 29 (upd (h 29) 4 (nI f)) j = c j := fun j hj => by rw [zz_st_ne _ _ hj]; exact ho j hj
    have g1 : zz_st h 29 (upd (h 29) 4 (nI f)) 29 1 = nI T := by rw [zz_st_self, pk_un (by decide)]; exact h1
    have g3 : zz_st h 29 (upd (h 29) 4 (nI f)) 29 3 = nI f := by rw [zz_st_self, pk_un (by decide)]; exact h3
    have g4 : zz_st h 29 (upd (h 29) 4 (nI f)) 29 4 = nI f := by rw [zz_st_self, pk_us]
    generalize zz_st h 29 (upd (h 29) 4 (nI f)) = d at g0 g1 g3 g4 ⊢
    rw [g1, g3, g0 30 (by decide)]
    by_cases hfT : f < T
    case neg =>
      refine ⟨fun w => absurd w (nI_nlt (by omega) (by omega)), fun _ => ?_⟩
      rw [sto_eq]
      have ek : kdF t T f = 0 := if_pos (by omega)
      have ete : te t T f = f := by omega
      refine k _ (fun j hj => by rw [zz_st_ne _ _ hj]; exact g0 j hj) (by rw [zz_st_self, pk_un (by decide)]; exact g1) ⟨?_, ?_, ?_, fun w => ?_⟩
      · rw [zz_st_self, pk_un (by decide)]; exact g3
      · rw [zz_st_self, pk_un (by decide), ete]; exact g4
      · rw [zz_st_self, pk_us, ek]
      · rw [ek] at w; exact absurd w (by decide)
    refine ⟨fun _ => ?_, fun w => absurd (nI_lt hfT (by omega)) w⟩
    have vf : vp_in (nI f) 120 := in_nI (by omega) (by decide)
    rw [nI_clamp (show f < 2 ^ 31 by omega), hb f hfT, c_isL]
    refine ⟨vf, ?_⟩
    by_cases hl : isL (t f) = true
    · rw [if_pos hl]
      refine ⟨fun w => absurd w (by decide), fun _ => ?_⟩
      rw [sto_eq]
      have ek : kdF t T f = 1 := by unfold kdF; rw [if_neg (by omega), if_pos hl]
      obtain ⟨l1, l2⟩ := tL hfT hl
      generalize he' : te t T f = e' at tb l1 l2
      refine lp_inv (e' - f) (fun i z => (∀ j, j ≠ 29 → z j = c j) ∧ z 29 1 = nI T ∧ z 29 3 = nI f ∧ z 29 4 = nI (f + i) ∧ z 29 2 = 1) ⟨fun j hj => by rw [zz_st_ne _ _ hj]; exact g0 j hj, by rw [zz_st_self, pk_un (by decide)]; exact g1, by rw [zz_st_self, pk_un (by decide)]; exact g3, by rw [zz_st_self, pk_un (by decide)]; exact g4, by rw [zz_st_self, pk_us]⟩ ?_ ?_
      · intro i z K hi hz hK
        obtain ⟨z0, z1, z3, z4, z2⟩ := hz
        unfold wX3_step_b93
        rw [z1, z4, z0 30 (by decide), nI_clamp (by omega), hb (f + i) (by omega), c_isL, if_pos (l1 (f + i) (by omega) (by omega)), sto_eq, nI_1]
        refine ⟨fun w => absurd w (lt_nle (by omega) (by omega)), fun _ => ⟨in_nI (by omega) (by decide), fun w => absurd w (by decide), fun _ => hK _ ⟨fun j hj => ?_, ?_, ?_, ?_, ?_⟩⟩⟩
        · rw [zz_st_ne _ _ hj]; exact z0 j hj
        · rw [zz_st_self, pk_un (by decide)]; exact z1
        · rw [zz_st_self, pk_un (by decide)]; exact z3
        · rw [zz_st_self, pk_us]; rfl
        · rw [zz_st_self, pk_un (by decide)]; exact z2
      · intro z K hz
        obtain ⟨z0, z1, z3, z4, z2⟩ := hz
        have e5 : f + (e' - f) = e' := by omega
        rw [e5] at z4
        have kk := k z z0 z1 ⟨z3, by rw [he']; exact z4, by rw [ek]; exact z2, fun w => by rw [ek] at w; exact absurd w (by decide)⟩
        unfold wX3_step_b93
        rw [z1, z4, z0 30 (by decide), nI_clamp (by omega)]
        refine ⟨fun _ => kk, fun w => ?_⟩
        have q : e' < T := Nat.lt_of_not_le (fun v => w (nI_le v (by omega)))
        rw [hb e' q, c_isL, l2 q]
        exact ⟨in_nI (by omega) (by decide), fun _ => kk, fun v => absurd rfl v⟩
    · rw [if_neg hl, c_isD]
      refine ⟨fun _ => ⟨vf, ?_⟩, fun w => absurd rfl w⟩
      by_cases hd : isD (t f) = true
      · rw [if_pos hd]
        refine ⟨fun w => absurd w (by decide), fun _ => ?_⟩
        rw [sto_eq]
        unfold wX3_stepOverDigits
        rw [sto_eq]
        have ek : kdF t T f = 2 := by unfold kdF; rw [if_neg (by omega), if_neg hl, if_pos hd]
        obtain ⟨l1, l2⟩ := tD hfT hl hd
        have ev : vl t T f = vF t f (te t T f - f) := rfl
        generalize he' : te t T f = e' at tb l1 l2 ev
        refine lp_inv (e' - f) (fun i z => (∀ j, j ≠ 29 → z j = c j) ∧ z 29 1 = nI T ∧ z 29 3 = nI f ∧ z 29 4 = nI (f + i) ∧ z 29 2 = 2 ∧ z 29 5 = vF t f i) ⟨fun j hj => by rw [zz_st_ne _ _ hj, zz_st_ne _ _ hj]; exact g0 j hj, by rw [zz_st_self, pk_un (by decide), zz_st_self, pk_un (by decide)]; exact g1, by rw [zz_st_self, pk_un (by decide), zz_st_self, pk_un (by decide)]; exact g3, by rw [zz_st_self, pk_un (by decide), zz_st_self, pk_un (by decide)]; exact g4, by rw [zz_st_self, pk_un (by decide), zz_st_self, pk_us], by rw [zz_st_self, pk_us]; rfl⟩ ?_ ?_
        · intro i z K hi hz hK
          obtain ⟨z0, z1, z3, z4, z2, z5⟩ := hz
          unfold wX3_stepOverDigits_b5
          rw [z1, z4, z0 30 (by decide), nI_clamp (by omega), hb (f + i) (by omega), c_isD, if_pos (l1 (f + i) (by omega) (by omega)), sto_eq, sto_eq, z5]
          refine ⟨fun w => absurd w (lt_nle (by omega) (by omega)), fun _ => ⟨in_nI (by omega) (by decide), fun w => absurd w (by decide), fun _ => ⟨in_nI (by omega) (by decide), hK _ ⟨fun j hj => ?_, ?_, ?_, ?_, ?_, ?_⟩⟩⟩⟩
          · rw [zz_st_ne _ _ hj, zz_st_ne _ _ hj]; exact z0 j hj
          · rw [zz_st_self, pk_un (by decide), zz_st_self, pk_un (by decide)]; exact z1
          · rw [zz_st_self, pk_un (by decide), zz_st_self, pk_un (by decide)]; exact z3
          · rw [zz_st_self, pk_us, zz_st_self, pk_un (by decide), z4, nI_1]; rfl
          · rw [zz_st_self, pk_un (by decide), zz_st_self, pk_un (by decide)]; exact z2
          · rw [zz_st_self, pk_un (by decide), zz_st_self, pk_us]; rfl
        · intro z K hz
          obtain ⟨z0, z1, z3, z4, z2, z5⟩ := hz
          have e5 : f + (e' - f) = e' := by omega
          rw [e5] at z4
          have kk := k z z0 z1 ⟨z3, by rw [he']; exact z4, by rw [ek]; exact z2, fun _ => by rw [ev]; exact z5⟩
          unfold wX3_stepOverDigits_b5
          rw [z1, z4, z0 30 (by decide), nI_clamp (by omega)]
          refine ⟨fun _ => kk, fun w => ?_⟩
          have q : e' < T := Nat.lt_of_not_le (fun v => w (nI_le v (by omega)))
          rw [hb e' q, c_isD, l2 q]
          exact ⟨in_nI (by omega) (by decide), fun _ => kk, fun v => absurd rfl v⟩
      · rw [if_neg hd]
        refine ⟨fun _ => ⟨vf, ?_⟩, fun w => absurd rfl w⟩
        have ete : te t T f = f + 1 := by unfold te; rw [if_neg (by omega), if_neg hl, if_neg hd]
        have lf : ∀ y, kdF t T f = y → y ≠ 2 → wX3_step_j179 post d y := by
          intro y ek hy
          unfold wX3_step_j179
          rw [sto_eq, sto_eq]
          refine k _ (fun j hj => by rw [zz_st_ne _ _ hj, zz_st_ne _ _ hj]; exact g0 j hj) (by rw [zz_st_self, pk_un (by decide), zz_st_self, pk_un (by decide)]; exact g1) ⟨?_, ?_, ?_, fun w => ?_⟩
          · rw [zz_st_self, pk_un (by decide), zz_st_self, pk_un (by decide)]; exact g3
          · rw [zz_st_self, pk_us, zz_st_self, pk_un (by decide), g4, nI_1, ete]
          · rw [zz_st_self, pk_un (by decide), zz_st_self, pk_us, ek]
          · rw [ek] at w; exact absurd w hy
        refine ⟨fun w => lf 4 ?_ (by decide), fun w => lf 3 ?_ (by decide)⟩
        · unfold kdF; rw [if_neg (by omega), if_neg hl, if_neg hd, if_neg w]
        · unfold kdF; rw [if_neg (by omega), if_neg hl, if_neg hd, if_pos w]
  refine lp_inv (f - e) (fun i z => (∀ j, j ≠ 29 → z j = c j) ∧ z 29 1 = nI T ∧ z 29 3 = nI (e + i)) ⟨fun j hj => zz_st_ne _ _ hj, by rw [zz_st_self, pk_un (by decide)]; exact e1, by rw [zz_st_self, pk_us]; rfl⟩ ?_ ?_
  · intro i z K hi hz hK
    obtain ⟨z0, z1, z3⟩ := hz
    unfold wX3_step_b8
    have := s3 (e + i) (by omega) (by omega)
    have w32 : t (e + i) = 32 := of_decide_eq_true this
    rw [z1, z3, z0 30 (by decide), nI_clamp (by omega), hb (e + i) (by omega), sto_eq, nI_1]
    refine ⟨fun w => absurd w (lt_nle (by omega) (by omega)), fun _ => ⟨in_nI (by omega) (by decide), fun w => absurd w32 w, fun _ => hK _ ⟨fun j hj => ?_, ?_, ?_⟩⟩⟩
    · rw [zz_st_ne _ _ hj]; exact z0 j hj
    · rw [zz_st_self, pk_un (by decide)]; exact z1
    · rw [zz_st_self, pk_us]; rfl
  · intro z K hz
    obtain ⟨z0, z1, z3⟩ := hz
    rw [show e + (f - e) = f by omega] at z3
    have kk := tok z z0 z1 z3
    unfold wX3_step_b8
    rw [z1, z3, z0 30 (by decide), nI_clamp (by omega)]
    refine ⟨fun _ => kk, fun w => ?_⟩
    have q : f < T := Nat.lt_of_not_le (fun v => w (nI_le v (by omega)))
    have := s4 q
    have n32 : ¬ t f = 32 := of_decide_eq_false this
    rw [hb f q]
    exact ⟨in_nI (by omega) (by decide), fun _ => kk, fun v => absurd v n32⟩
