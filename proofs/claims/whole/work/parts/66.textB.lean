def bt (t : Nat → Int32) (T i : Nat) : Int32 := if T ≤ i then -1 else t i
def MP (m : zz_H) (t : Nat → Int32) (T : Nat) : Prop := T ≤ 120 ∧ m 0 7 = nI T ∧ ∀ i, i < T → m 6 i = t i
/-- the reference at a token -/
def MT (m : zz_H) (t : Nat → Int32) (T f : Nat) : Prop := m 0 8 = nI f ∧ m 0 9 = nI (te t T f) ∧ m 0 11 = 0 ∧ f ≤ T
def nx (t : Nat → Int32) (T f : Nat) : Nat := skF t T (te t T f)
theorem m_byteAt {m : zz_H} {t : Nat → Int32} {T i : Nat} (h : MP m t T) (hi : i < 1000) (post : Int32 → Prop) (k : post (bt t T i)) : wX5_byteAt (nI i) m post := by
  obtain ⟨h1, h2, h3⟩ := h
  unfold wX5_byteAt
  unfold bt at k
  rw [h2, nI_clamp (by omega)]
  by_cases e : T ≤ i
  · rw [if_pos e] at k
    exact ⟨fun _ => k, fun w => absurd (nI_le e (by omega)) w⟩
  · rw [if_neg e] at k
    refine ⟨fun w => absurd w (lt_nle (by omega) (by omega)), fun _ => ⟨in_nI (by omega) (by decide), ?_⟩⟩
    rw [h3 i (by omega)]
    exact k
theorem bt_lt {t : Nat → Int32} {T i : Nat} (h : i < T) : bt t T i = t i := if_neg (by omega)
theorem bt_ge {t : Nat → Int32} {T i : Nat} (h : T ≤ i) : bt t T i = -1 := if_pos h
theorem LnD {x : Int32} (h : isL x = true) : isD x = false := by
  unfold isL at h
  unfold isD
  have h := of_decide_eq_true h
  refine decide_eq_false (fun w => ?_)
  have a := (fa_le _ _).mp h.1
  have b := (fa_le _ _).mp w.2
  have c1 : (97 : Int32).toInt = 97 := rfl
  have c2 : (57 : Int32).toInt = 57 := rfl
  omega
theorem MP.cong {m m' : zz_H} {t : Nat → Int32} {T : Nat} (h : MP m t T) (e7 : m' 0 7 = m 0 7) (e6 : m' 6 = m 6) : MP m' t T := by
  unfold MP at h ⊢
  rw [e7, e6]
  exact h
set_option maxHeartbeats 4000000 in
theorem m_token {m : zz_H} {t : Nat → Int32} {T e : Nat} (hp : MP m t T) (e9 : m 0 9 = nI e) (he : e ≤ T) (post : Int32 → zz_H → Prop) (k : ∀ m', (∀ j, j ≠ 0 → m' j = m j) → (∀ i, i ≠ 8 → i ≠ 9 → m' 0 i = m 0 i) → m' 0 8 = nI (skF t T e) → m' 0 9 = nI (te t T (skF t T e)) → post 0 m') : wX5_token m post := by
  unfold wX5_token
  rw [sto_eq, e9]
  obtain ⟨s1, s2, s3, s4⟩ := rn_spec (fun j => decide (t j = 32)) he
  have ef : skF t T e = rnF (fun j => decide (t j = 32)) T e := rfl
  rw [← ef] at s1 s2 s3 s4
  have tb := te_bd t s2
  have tL := fun h => te_L (t := t) (T := T) (f := skF t T e) h
  have tD := fun h => te_D (t := t) (T := T) (f := skF t T e) h
  generalize skF t T e = f at s1 s2 s3 s4 tb tL tD k
  clear ef
  have hT := hp.1
  have tok : ∀ h : zz_H, (∀ j, j ≠ 0 → h j = m j) → (∀ i, i ≠ 8 → i ≠ 9 → h 0 i = m 0 i) → h 0 8 = nI f → wX5_token_j34 post h := by
    intro h ho h1 h8
    have hq : MP h t T := hp.cong (h1 7 (by decide) (by decide)) (ho 6 (by decide))
    unfold wX5_token_j34
    rw [h8]
    refine m_byteAt hq (by omega) _ ?_
    rw [m_isL]
    refine m_byteAt hq (by omega) _ ?_
    rw [m_isD, hq.2.1]
    -- the loop from y on
    have lp : ∀ (y : Nat) (r6 r8 : Int32), y ≤ te t T f → (∀ i, y ≤ i → i < te t T f → (¬ r6 = 0 ∧ isL (t i) = true) ∨ (r6 = 0 ∧ ¬ r8 = 0 ∧ isD (t i) = true)) → ((r6 = 0 ∨ isL (bt t T (te t T f)) = false) ∧ (r8 = 0 ∨ isD (bt t T (te t T f)) = false)) → wX5_token_j83 post h r6 r8 (nI y) := by
      intro y r6 r8 hy hrun hend
      unfold wX5_token_j83
      rw [sto_eq]
      have tb2 := tb.2.1
      generalize he' : te t T f = e' at hy hrun hend tb2
      refine lp_inv (e' - y) (fun i z => (∀ j, j ≠ 0 → z j = m j) ∧ (∀ i, i ≠ 8 → i ≠ 9 → z 0 i = m 0 i) ∧ z 0 8 = nI f ∧ z 0 9 = nI (y + i)) ⟨fun j hj => by rw [zz_st_ne _ _ hj]; exact ho j hj, fun i a b => by rw [zz_st_self, pk_un b]; exact h1 i a b, by rw [zz_st_self, pk_un (by decide)]; exact h8, by rw [zz_st_self, pk_us]; rfl⟩ ?_ ?_
      · intro i z K hi hz hK
        obtain ⟨z0, z1, z8, z9⟩ := hz
        have zq : MP z t T := hp.cong (z1 7 (by decide) (by decide)) (z0 6 (by decide))
        have nxt : K (zz_st z 0 (upd (z 0) 9 (nI (y + i) + 1))) := by
          refine hK _ ⟨fun j hj => ?_, fun i a b => ?_, ?_, ?_⟩
          · rw [zz_st_ne _ _ hj]; exact z0 j hj
          · rw [zz_st_self, pk_un b]; exact z1 i a b
          · rw [zz_st_self, pk_un (by decide)]; exact z8
          · rw [zz_st_self, pk_us, nI_1]; rfl
        unfold wX5_token_b86 wX5_token_j104
        rw [z9]
        rcases hrun (y + i) (by omega) (by omega) with ⟨a, b⟩ | ⟨a, a2, b⟩
        · refine ⟨fun w => absurd w a, fun _ => m_byteAt zq (by omega) _ ?_⟩
          rw [bt_lt (by omega), m_isL, b]
          exact ⟨fun _ => nxt, fun w => absurd w (by decide)⟩
        · refine ⟨fun _ => ⟨fun w => absurd w a2, fun _ => m_byteAt zq (by omega) _ ?_⟩, fun w => absurd a w⟩
          rw [bt_lt (by omega), m_isD, b]
          exact ⟨fun w => absurd w (by decide), fun _ => nxt⟩
      · intro z K hz
        obtain ⟨z0, z1, z8, z9⟩ := hz
        have zq : MP z t T := hp.cong (z1 7 (by decide) (by decide)) (z0 6 (by decide))
        rw [show y + (e' - y) = e' by omega] at z9
        have kk := k z z0 z1 z8 (by rw [he']; exact z9)
        have jj : wX5_token_j104 post r8 z K := by
          unfold wX5_token_j104
          rw [z9]
          refine ⟨fun _ => kk, fun w => m_byteAt zq (by omega) _ ?_⟩
          rw [m_isD]
          rcases hend.2 with q | q
          · exact absurd q w
          · rw [q]; exact ⟨fun _ => kk, fun v => absurd rfl v⟩
        unfold wX5_token_b86
        rw [z9]
        refine ⟨fun _ => jj, fun w => m_byteAt zq (by omega) _ ?_⟩
        rw [m_isL]
        rcases hend.1 with q | q
        · exact absurd q w
        · rw [q]; exact ⟨fun v => absurd rfl v, fun _ => jj⟩
    by_cases hfT : f < T
    case neg =>
      have ete : te t T f = f := by omega
      refine ⟨fun _ => lp f _ _ (by omega) (fun i a b => absurd b (by omega)) ?_, fun w => absurd (nI_le (by omega) (by omega)) w⟩
      rw [ete, bt_ge (by omega)]
      exact ⟨Or.inr rfl, Or.inr rfl⟩
    refine ⟨fun w => absurd w (lt_nle hfT (by omega)), fun _ => ?_⟩
    rw [nI_1, bt_lt hfT]
    have t3 := tb.2.2 hfT
    have endB : ∀ b : Int32 → Bool, b (-1) = false → (te t T f < T → b (t (te t T f)) = false) → b (bt t T (te t T f)) = false := by
      intro b b1 b2
      by_cases q : te t T f < T
      · rw [bt_lt q]; exact b2 q
      · rw [bt_ge (by omega)]; exact b1
    by_cases hl : isL (t f) = true
    · obtain ⟨l1, l2⟩ := tL hfT hl
      rw [if_pos hl, LnD hl]
      exact lp (f + 1) _ _ (by omega) (fun i a b => Or.inl ⟨by decide, l1 i (by omega) b⟩) ⟨Or.inr (endB isL rfl l2), Or.inl rfl⟩
    · rw [if_neg hl]
      by_cases hd : isD (t f) = true
      · obtain ⟨l1, l2⟩ := tD hfT hl hd
        rw [if_pos hd]
        exact lp (f + 1) _ _ (by omega) (fun i a b => Or.inr ⟨rfl, by decide, l1 i (by omega) b⟩) ⟨Or.inl rfl, Or.inr (endB isD rfl l2)⟩
      · rw [if_neg hd]
        have ete : te t T f = f + 1 := by unfold te; rw [if_neg (by omega), if_neg hl, if_neg hd]
        exact lp (f + 1) _ _ (by omega) (fun i a b => absurd b (by omega)) ⟨Or.inl rfl, Or.inl rfl⟩
  refine lp_inv (f - e) (fun i z => (∀ j, j ≠ 0 → z j = m j) ∧ (∀ i, i ≠ 8 → i ≠ 9 → z 0 i = m 0 i) ∧ z 0 8 = nI (e + i)) ⟨fun j hj => zz_st_ne _ _ hj, fun i a b => by rw [zz_st_self, pk_un a], by rw [zz_st_self, pk_us]; rfl⟩ ?_ ?_
  · intro i z K hi hz hK
    obtain ⟨z0, z1, z8⟩ := hz
    have zq : MP z t T := hp.cong (z1 7 (by decide) (by decide)) (z0 6 (by decide))
    unfold wX5_token_b8
    have w32 : t (e + i) = 32 := of_decide_eq_true (s3 (e + i) (by omega) (by omega))
    rw [z8]
    refine m_byteAt zq (by omega) _ ?_
    rw [bt_lt (by omega), sto_eq]
    refine ⟨fun w => absurd w32 w, fun _ => hK _ ⟨fun j hj => ?_, fun i a b => ?_, ?_⟩⟩
    · rw [zz_st_ne _ _ hj]; exact z0 j hj
    · rw [zz_st_self, pk_un a]; exact z1 i a b
    · rw [zz_st_self, pk_us, nI_1]; rfl
  · intro z K hz
    obtain ⟨z0, z1, z8⟩ := hz
    have zq : MP z t T := hp.cong (z1 7 (by decide) (by decide)) (z0 6 (by decide))
    rw [show e + (f - e) = f by omega] at z8
    have kk := tok z z0 z1 z8
    unfold wX5_token_b8
    rw [z8]
    refine m_byteAt zq (by omega) _ ⟨fun _ => kk, fun w => ?_⟩
    exfalso
    by_cases q : f < T
    · rw [bt_lt q] at w
      exact of_decide_eq_false (s4 q) w
    · rw [bt_ge (by omega)] at w
      exact absurd w (by decide)
theorem nx_le {t : Nat → Int32} {T f : Nat} (h : f ≤ T) : nx t T f ≤ T ∧ te t T f ≤ nx t T f := by
  have a := te_bd t h
  have b := rn_spec (fun j => decide (t j = 32)) a.2.1
  exact ⟨b.2.1, b.1⟩
theorem m_needs1 {m : zz_H} {t : Nat → Int32} {T f : Nat} (hp : MP m t T) (hm : MT m t T f) {y : Int32} (hy : ¬ y = 0) (post : Int32 → zz_H → Prop) (k : ∀ m', (∀ j, j ≠ 0 → m' j = m j) → (∀ i, i ≠ 8 → i ≠ 9 → m' 0 i = m 0 i) → MT m' t T (nx t T f) → post 0 m') : wX5_needs y m post := by
  obtain ⟨h8, h9, h11, hf⟩ := hm
  unfold wX5_needs
  refine ⟨fun w => absurd h11 w, fun _ => ⟨fun _ => ?_, fun w => absurd w hy⟩⟩
  have e : upd (m 0) 11 0 = m 0 := by rw [← h11]; exact upd_id _ _
  rw [sto_eq, e, st_id]
  refine ⟨fun w => absurd h11 w, fun _ => m_token hp h9 (te_bd t hf).2.1 _ (fun m' a b c d => k m' a b ⟨c, d, ?_, (nx_le hf).1⟩)⟩
  rw [b 11 (by decide) (by decide)]
  exact h11
theorem m_needs0 {m : zz_H} (h11 : m 0 11 = 0) (post : Int32 → zz_H → Prop) (k : ∀ m', (∀ j, j ≠ 0 → m' j = m j) → (∀ i, i ≠ 11 → m' 0 i = m 0 i) → m' 0 11 = 1 → post 0 m') : wX5_needs 0 m post := by
  unfold wX5_needs wX5_needs_j12
  refine ⟨fun w => absurd h11 w, fun _ => ⟨fun w => absurd rfl w, fun _ => ?_⟩⟩
  rw [sto_eq]
  have e : zz_st m 0 (upd (m 0) 11 1) 0 11 = 1 := by rw [zz_st_self, pk_us]
  rw [e]
  exact ⟨fun _ => k _ (fun j hj => zz_st_ne _ _ hj) (fun i hi => by rw [zz_st_self, pk_un hi]) e, fun w => absurd w (by decide)⟩
/-- nothing happens any more -/
theorem m_needsW {m : zz_H} (h11 : m 0 11 = 1) (y : Int32) (post : Int32 → zz_H → Prop) (k : post 0 m) : wX5_needs y m post := by
  unfold wX5_needs wX5_needs_j12
  have n0 : ¬ m 0 11 = 0 := by rw [h11]; decide
  have e : upd (m 0) 11 1 = m 0 := by rw [← h11]; exact upd_id _ _
  rw [sto_eq, e, st_id]
  exact ⟨fun _ => ⟨fun _ => k, fun w => absurd w n0⟩, fun w => absurd w n0⟩
theorem m_numberW {m : zz_H} (h11 : m 0 11 = 1) (a b : Int32) (post : Int32 → zz_H → Prop) (k : post 0 m) : wX5_number a b m post := by
  unfold wX5_number
  have n0 : ¬ m 0 11 = 0 := by rw [h11]; decide
  exact ⟨fun w => absurd w n0, fun _ => k⟩
/-! numbers -/
def wv (t : Nat → Int32) (f : Nat) : Nat → Int32
  | 0 => 0
  | j + 1 => if wv t f j ≤ 999 then 10 * wv t f j + t (f + j) - 48 else wv t f j
theorem wv_zb {t : Nat → Int32} {f : Nat} : ∀ j, (∀ i, i < j → isD (t (f + i)) = true) → (∃ a : Nat, a ≤ 9999 ∧ wv t f j = nI a ∧ vF t f j = nI (min a 1000))
  | 0, _ => ⟨0, by decide, rfl, rfl⟩
  | j + 1, h => by
    obtain ⟨a, ha, e1, e2⟩ := wv_zb j (fun i hi => h i (by omega))
    have hd := h j (by omega)
    unfold isD at hd
    have hd := of_decide_eq_true hd
    obtain ⟨d, hd1, ed⟩ : ∃ d : Nat, d ≤ 9 ∧ t (f + j) = nI (48 + d) := by
      have a1 := (fa_le _ _).mp hd.1
      have a2 := (fa_le _ _).mp hd.2
      have c1 : (48 : Int32).toInt = 48 := rfl
      have c2 : (57 : Int32).toInt = 57 := rfl
      obtain ⟨x, hx, ex⟩ := zb_nI (x := t (f + j)) (n := 57) ⟨by omega, by omega⟩
      rw [ex, nI_toInt (by omega)] at a1
      exact ⟨x - 48, by omega, by rw [ex]; congr 1; omega⟩
    have st : ∀ b : Nat, 10 * nI b + t (f + j) - 48 = nI (10 * b + d) := by
      intro b
      rw [ed]
      show nI 10 * nI b + nI (48 + d) - nI 48 = _
      rw [pk_mul, nI_add, show 10 * b + (48 + d) = (10 * b + d) + 48 by omega, ← nI_add]
      grind
    have m1 : ∀ x : Nat, x < 100000 → zz_min (nI x) 1000 = nI (min x 1000) := by
      intro x hx
      unfold zz_min
      by_cases q : 1000 < x
      · rw [if_pos (show (1000 : Int32) < nI x from nI_lt (a := 1000) q (by omega)), show min x 1000 = 1000 by omega]
        rfl
      · rw [if_neg (show ¬ (1000 : Int32) < nI x from nI_nlt (b := x) (a := 1000) (by omega) (by omega)), show min x 1000 = x by omega]
    show ∃ a : Nat, a ≤ 9999 ∧ (if wv t f j ≤ 999 then 10 * wv t f j + t (f + j) - 48 else wv t f j) = nI a ∧ zz_min (10 * vF t f j + t (f + j) - 48) 1000 = nI (min a 1000)
    rw [e1, e2, st, st]
    by_cases q : a ≤ 999
    · rw [if_pos (show nI a ≤ 999 from nI_le (b := 999) q (by decide))]
      refine ⟨10 * a + d, by omega, rfl, ?_⟩
      rw [show min a 1000 = a by omega]
      exact m1 _ (by omega)
    · rw [if_neg (show ¬ nI a ≤ 999 from nI_ge (a := 999) (by omega) (by omega))]
      refine ⟨a, ha, rfl, ?_⟩
      rw [show min a 1000 = 1000 by omega, m1 _ (by omega)]
      congr 1
      omega
def numB (t : Nat → Int32) (T f : Nat) (lim : Int32) : Bool := decide (kdF t T f = 2 ∧ vl t T f ≤ lim)
theorem kd2 {t : Nat → Int32} {T f : Nat} : kdF t T f = 2 ↔ (f < T ∧ isD (t f) = true) := by
  unfold kdF
  by_cases h1 : T ≤ f
  · rw [if_pos h1]
    exact ⟨fun w => absurd w (by decide), fun w => absurd w.1 (by omega)⟩
  · rw [if_neg h1]
    by_cases h2 : isL (t f) = true
    · rw [if_pos h2]
      refine ⟨fun w => absurd w (by decide), fun w => ?_⟩
      rw [LnD h2] at w
      exact absurd w.2 (by decide)
    · rw [if_neg h2]
      by_cases h3 : isD (t f) = true
      · rw [if_pos h3]
        exact ⟨fun _ => ⟨by omega, h3⟩, fun _ => rfl⟩
      · rw [if_neg h3]
        refine ⟨fun w => ?_, fun w => absurd w.2 h3⟩
        split at w <;> exact absurd w (by decide)
theorem c_isNumber {c : zz_H} {t : Nat → Int32} {T f : Nat} (h : TC c t T f) (lim : Int32) (post : Int32 → Prop) : wX3_isNumber lim c post = post (if numB t T f lim then 1 else 0) := by
  obtain ⟨-, -, h2, h5⟩ := h
  unfold wX3_isNumber numB
  rw [h2]
  apply propext
  by_cases e : kdF t T f = 2
  · rw [h5 e]
    by_cases q : lim < vl t T f
    · rw [if_neg (by simpa [e] using (fa_of_lt q).2.1)]
      exact ⟨fun w => (w.2 e).1 q, fun w => ⟨fun v => absurd e v, fun _ => ⟨fun _ => w, fun v => absurd q v⟩⟩⟩
    · rw [if_pos (by simpa [e] using fa_of_nlt q)]
      exact ⟨fun w => (w.2 e).2 q, fun w => ⟨fun v => absurd e v, fun _ => ⟨fun v => absurd v q, fun _ => w⟩⟩⟩
  · rw [if_neg (by simp [e])]
    exact ⟨fun w => w.1 e, fun w => ⟨fun _ => w, fun v => absurd v e⟩⟩
set_option maxHeartbeats 4000000 in
theorem m_number {m : zz_H} {t : Nat → Int32} {T f : Nat} (hp : MP m t T) (hm : MT m t T f) {lim : Int32} (hlim : zb lim 0 400) (post : Int32 → zz_H → Prop)
    (k1 : numB t T f lim = true → ∀ m', (∀ j, j ≠ 0 → m' j = m j) → (∀ i, i ≠ 8 → i ≠ 9 → i ≠ 10 → m' 0 i = m 0 i) → m' 0 10 = vl t T f → MT m' t T (nx t T f) → post 0 m')
    (k2 : numB t T f lim = false → ∀ m', (∀ j, j ≠ 0 → m' j = m j) → (∀ i, i ≠ 10 → i ≠ 11 → m' 0 i = m 0 i) → m' 0 11 = 1 → post 0 m') : wX5_number 0 lim m post := by
  obtain ⟨h8, h9, h11, hf⟩ := id hm
  have hT := hp.1
  have tb := te_bd t hf
  unfold wX5_number
  refine ⟨fun _ => ?_, fun w => absurd h11 w⟩
  rw [h8]
  refine m_byteAt hp (by omega) _ ?_
  rw [m_isD]
  have bad : ∀ r2 x3 : Int32, numB t T f lim = false → (¬ r2 = 0 → ¬ ((0 : Int32) ≤ x3 ∧ x3 ≤ lim)) → wX5_number_j79 0 lim m post r2 x3 := by
    intro r2 x3 hn hr
    unfold wX5_number_j79
    rw [sto_eq]
    have nd : wX5_needs 0 (zz_st m 0 (upd (m 0) 10 x3)) (fun _ h7 => post 0 h7) := by
      refine m_needs0 (by rw [zz_st_self, pk_un (by decide)]; exact h11) _ (fun m' a b c => k2 hn m' (fun j hj => ?_) (fun i i1 i2 => ?_) c)
      · rw [a j hj, zz_st_ne _ _ hj]
      · rw [b i i2, zz_st_self, pk_un i1]
    refine ⟨fun _ => nd, fun w => ?_⟩
    rw [in_eq]
    simp only [show (0 : Int32).toInt64 = (0 : Int64) by decide, wl_ge0, wl_ww]
    rw [if_neg (hr w)]
    exact ⟨fun _ => nd, fun v => absurd rfl v⟩
  by_cases hd : f < T ∧ isD (t f) = true
  case neg =>
    have nn : numB t T f lim = false := decide_eq_false (fun w => hd (kd2.mp w.1))
    have eb : isD (bt t T f) = false := by
      by_cases q : f < T
      · rw [bt_lt q]
        cases hx : isD (t f)
        · rfl
        · exact absurd ⟨q, hx⟩ hd
      · rw [bt_ge (by omega)]; rfl
    rw [eb]
    refine ⟨1, fun _ => bad _ _ nn (fun w => absurd rfl w), fun _ => ⟨fun _ => bad _ _ nn (fun w => absurd rfl w), fun w => absurd rfl w⟩⟩
  obtain ⟨hfT, hdd⟩ := hd
  have hl : ¬ isL (t f) = true := fun w => by rw [LnD w] at hdd; exact absurd hdd (by decide)
  obtain ⟨l1, l2⟩ := te_D hfT hl hdd
  have hk : kdF t T f = 2 := kd2.mpr ⟨hfT, hdd⟩
  rw [bt_lt hfT, hdd]
  have ev : vl t T f = vF t f (te t T f - f) := rfl
  obtain ⟨a, ha, ea, eb⟩ := wv_zb (t := t) (f := f) (te t T f - f) (fun i hi => l1 (f + i) (by omega) (by omega))
  rw [← ev] at eb
  have hnx : nx t T f = skF t T (te t T f) := rfl
  generalize he' : te t T f = e' at tb l1 l2 ea h9
  refine lp_for (e' - f) (fun j => (wv t f j, nI (f + j))) ?_ ?_
  · intro j hj K hK
    have hK : K (if wv t f j ≤ 999 then 10 * wv t f j + t (f + j) - 48 else wv t f j, nI (f + (j + 1))) := hK
    unfold wX5_number_b29
    dsimp only
    rw [h9, nI_1, nI_clamp (by omega), hp.2.2 (f + j) (by omega)]
    refine ⟨fun w => absurd w (lt_nle (by omega) (by omega)), fun _ => ⟨fun w => absurd w (by decide), fun _ => ⟨fun w => ⟨in_nI (by omega) (by decide), ?_⟩, fun w => ?_⟩⟩⟩
    · rw [if_pos w] at hK; exact hK
    · rw [if_neg w] at hK; exact hK
  · intro K
    unfold wX5_number_b29
    dsimp only
    rw [h9, show f + (e' - f) = e' by omega]
    refine ⟨fun _ => ?_, fun w => absurd (nI_le (Nat.le_refl e') (by omega)) w⟩
    obtain ⟨l, hl4, rfl⟩ := zb_nI (x := lim) (n := 400) hlim
    rw [ea]
    by_cases q : a ≤ l
    · have hv : vl t T f = nI a := by rw [eb, show min a 1000 = a by omega]
      have hn : numB t T f (nI l) = true := decide_eq_true ⟨hk, by rw [hv]; exact nI_le q (by omega)⟩
      unfold wX5_number_j79
      rw [sto_eq]
      refine ⟨fun w => absurd w (by decide), fun _ => ?_⟩
      rw [in_eq]
      simp only [show (0 : Int32).toInt64 = (0 : Int64) by decide, wl_ge0, wl_ww]
      rw [if_pos ⟨nI_pos' (by omega), nI_le q (by omega)⟩]
      refine ⟨fun w => absurd w (by decide), fun _ => ?_⟩
      have hm' : MT (zz_st m 0 (upd (m 0) 10 (nI a))) t T f := ⟨by rw [zz_st_self, pk_un (by decide)]; exact h8, by rw [zz_st_self, pk_un (by decide), he']; exact h9, by rw [zz_st_self, pk_un (by decide)]; exact h11, hf⟩
      have hp' : MP (zz_st m 0 (upd (m 0) 10 (nI a))) t T := hp.cong (by rw [zz_st_self, pk_un (by decide)]) (zz_st_ne _ _ (by decide))
      refine m_needs1 hp' hm' (by decide) _ (fun m' b1 b2 b3 => k1 hn m' (fun j hj => ?_) (fun i i1 i2 i3 => ?_) ?_ b3)
      · rw [b1 j hj, zz_st_ne _ _ hj]
      · rw [b2 i i1 i2, zz_st_self, pk_un i3]
      · rw [b2 10 (by decide) (by decide), zz_st_self, pk_us, hv]
    · have hv : ¬ vl t T f ≤ nI l := by
        rw [eb]
        exact nI_ge (by omega) (by omega)
      exact bad _ _ (decide_eq_false (fun w => hv w.2)) (fun _ w => absurd w.2 (nI_ge (by omega) (by omega)))
