/-! pupil items -/
def pbS (p q : Nat) (v : Int32) (s : Nat → Int32) : Nat → Int32 := upd (upd s (20 + 17 * p + 8 * 0 + q) v) (20 + 17 * p + 8 * 1 + q) v
theorem pbS_q {p q i : Nat} {v : Int32} {s : Nat → Int32} (h : i < 20) : pbS p q v s i = s i := by
  unfold pbS
  rw [pk_un (by omega), pk_un (by omega)]
theorem WF.both {s : Nat → Int32} {P C p q : Nat} {v : Int32} (h : WF s P C) (hp : p < P) (hq : q < 8) (hv : zb v 0 (s q).toInt) : WF (pbS p q v s) P C := by
  have h1 := h.point hp hq (k0 := 0) (by decide) hv
  refine h1.point hp hq (k0 := 1) (by decide) ?_
  rw [pk_un (by omega)]
  exact hv
theorem PM.both {c : zz_H} {a : Nat} {s : Nat → Int32} {P C p q : Nat} (h : PM c a s P C) (v : Int32) (hP : P ≤ 12) (hC : C ≤ 6) (hp : p < P) (hq : q < 8) : PM (zz_st c (a + 4) (sbS p q v (c (a + 4)) 2)) a (pbS p q v s) P C := by
  have h1 := h.point v hP hC hp hq (k0 := 0) (by decide)
  have h2 := h1.point v hP hC hp hq (k0 := 1) (by decide)
  rw [zz_st_self, st_st] at h2
  exact h2
def pL (t : Nat → Int32) (T p : Nat) : Nat → Nat → Nat → (Nat → Int32) → Bool × Nat × (Nat → Int32)
  | 0, _, f, s => (true, f, s)
  | n + 1, i, f, s => if kdF t T f = 2 then (if numB t T f (s i) then pL t T p n (i + 1) (nx t T f) (pbS p i (vl t T f) s) else (false, f, s)) else (true, f, s)
theorem pL_s (t : Nat → Int32) (T p n i f : Nat) (s : Nat → Int32) : pL t T p (n + 1) i f s = if kdF t T f = 2 then (if numB t T f (s i) then pL t T p n (i + 1) (nx t T f) (pbS p i (vl t T f) s) else (false, f, s)) else (true, f, s) := rfl
theorem num_w {t s : Nat → Int32} {T f P C i : Nat} (hf : f ≤ T) (hW : WF s P C) (hi : i < 8) (h : numB t T f (s i) = true) : zb (vl t T f) 0 (s i).toInt := by
  obtain ⟨l, hl, e⟩ := zb_nI (n := 40) (hW.2.2.2.2.1 i hi)
  rw [e] at h ⊢
  obtain ⟨v, hv, ev⟩ := num_v (l := l) (by omega) hf h
  rw [ev]
  unfold zb
  rw [nI_toInt (by omega), nI_toInt (by omega)]
  omega
theorem RC.ok {c0 c : zz_H} {t s : Nat → Int32} {T f P C : Nat} (h : OKc c0 c t T f s P C) : RC c0 c t T (true, f, s) := ⟨fun _ => ⟨P, C, h⟩, fun w => absurd (show true = false from w) (fun h => Bool.false_ne_true h.symm)⟩
theorem RC.no {c0 c : zz_H} {t s : Nat → Int32} {T f : Nat} (h : BDc c0 c T f) : RC c0 c t T (false, f, s) := ⟨fun w => absurd (show false = true from w) Bool.false_ne_true, fun _ => h⟩
theorem RM.ok {c0 c : zz_H} {t s : Nat → Int32} {T f P C : Nat} (h : OKm c0 c t T f s P C) : RM c0 c t T (true, f, s) := ⟨fun _ => ⟨P, C, h⟩, fun w => absurd (show true = false from w) (fun h => Bool.false_ne_true h.symm)⟩
theorem RM.no {c0 c : zz_H} {t s : Nat → Int32} {T f : Nat} (h : BDm c0 c f) : RM c0 c t T (false, f, s) := ⟨fun w => absurd (show false = true from w) Bool.false_ne_true, fun _ => h⟩
theorem c_pL {c0 : zz_H} {t : Nat → Int32} {T P C p : Nat} (hT : T ≤ 120) (hb : ∀ i, i < T → c0 30 i = t i) (hp : p < P) (post : Int32 → zz_H → Prop) : ∀ (n i f : Nat) (s : Nat → Int32) (c : zz_H), i + n = 8 → OKc c0 c t T f s P C → (∀ c', RC c0 c' t T (pL t T p n i f s) → post (if (pL t T p n i f s).1 then 1 else 0) c') → zz_lp (fun K (s : Int32 × zz_H) => wX3_readPupil_b40 17 post (nI p) K s.1 s.2) (n + 1) (nI i, c) := by
  intro n
  induction n with
  | zero =>
    intro i f s c hi h k
    have e : i = 8 := by omega
    subst e
    refine ⟨fun _ => ?_, fun w => absurd (show nI 8 ≤ nI 8 from nI_le (Nat.le_refl 8) (by decide)) w⟩
    exact k c (RC.ok h)
  | succ n ih =>
    intro i f s c hi h k
    rw [pL_s] at k
    refine ⟨fun w => absurd w (lt_nle (N := 8) (by omega) (by decide)), fun _ => ?_⟩
    dsimp only
    have hf := h.2.2.2.1
    have bP : P ≤ 12 := h.2.2.2.2.1.2.1
    have bC : C ≤ 6 := h.2.2.2.2.1.2.2.2.1
    rw [show c 29 2 = kdF t T f from h.2.2.1.2.2.1]
    by_cases e : kdF t T f = 2
    case neg =>
      rw [if_neg e] at k
      exact ⟨fun _ => k c (RC.ok h), fun w => absurd w e⟩
    rw [if_pos e] at k
    refine ⟨fun w => absurd e w, fun _ => ⟨in_nI (by omega) (by decide), ?_⟩⟩
    rw [nI_clamp (by omega), show c (17 + 1) i = s i from h.2.2.2.2.2.2.2.2.1 i (by omega), c_isNumber h.2.2.1]
    refine br' (fun w1 => ?_) (fun w1 => ?_)
    case refine_2 =>
      rw [if_neg (by rw [w1]; exact Bool.false_ne_true)] at k
      exact k c (RC.no h.bd)
    rw [if_pos w1] at k
    rw [h.2.2.1.2.2.2 e]
    have hv := num_w hf h.2.2.2.2.1 (i := i) (by omega) w1
    obtain ⟨a1, a2, a3, a4, a5, a6⟩ := h
    refine c_setBoth (by omega) (by omega) _ _ ?_
    have h2 : OKc c0 (zz_st c (17 + 4) (sbS p i (vl t T f) (c (17 + 4)) 2)) t T f (pbS p i (vl t T f) s) P C := by
      have e29 : zz_st c (17 + 4) (sbS p i (vl t T f) (c (17 + 4)) 2) 29 = c 29 := zz_st_ne _ _ (by decide)
      exact ⟨fun j j1 j2 => by rw [zz_st_ne _ _ (by omega)]; exact a1 j j1 j2, by rw [e29]; exact a2, by unfold TC; rw [e29]; exact a3, a4, a5.both hp (by omega) hv, a6.both _ bP bC hp (by omega)⟩
    refine h2.step hT hb _ (fun c3 h3 => ?_)
    rw [nI_1]
    exact ih (i + 1) _ _ c3 (by omega) h3 k
theorem kd_bt {t : Nat → Int32} {T f : Nat} : kdF t T f = 2 ↔ isD (bt t T f) = true := by
  rw [kd2]
  by_cases q : f < T
  · rw [bt_lt q]
    exact ⟨fun w => w.2, fun w => ⟨q, w⟩⟩
  · rw [bt_ge (by omega)]
    exact ⟨fun w => absurd w.1 q, fun w => absurd w (by decide)⟩
theorem m_pL {m0 : zz_H} {t : Nat → Int32} {T P C p : Nat} (hp' : MP m0 t T) (hp : p < P) (post : Int32 → zz_H → Prop) : ∀ (n i f : Nat) (s : Nat → Int32) (m : zz_H), i + n = 8 → OKm m0 m t T f s P C → (∀ m', RM m0 m' t T (pL t T p n i f s) → post 0 m') → zz_lp (fun K (s : Int32 × zz_H) => wX5_pupilItem_b46 post (nI p) K s.1 s.2) (n + 1) (nI i, m) := by
  intro n
  induction n with
  | zero =>
    intro i f s m hi h k
    have e : i = 8 := by omega
    subst e
    refine ⟨fun _ => ?_, fun w => absurd (show nI 8 ≤ nI 8 from nI_le (Nat.le_refl 8) (by decide)) w⟩
    exact k m (RM.ok h)
  | succ n ih =>
    intro i f s m hi h k
    rw [pL_s] at k
    have hT := hp'.1
    have hf := h.2.2.1.2.2.2
    have bP : P ≤ 12 := h.2.2.2.2.2.1
    refine ⟨fun w => absurd w (lt_nle (N := 8) (by omega) (by decide)), fun _ => ⟨fun w => absurd h.2.2.1.2.2.1 w, fun _ => ?_⟩⟩
    dsimp only
    rw [h.2.2.1.1]
    refine m_byteAt (h.mp hp') (by omega) _ ?_
    rw [m_isD]
    refine br (fun w => ?_) (fun w => ?_)
    case refine_2 =>
      have e : ¬ kdF t T f = 2 := fun v => by rw [kd_bt.mp v] at w; exact absurd w (by decide)
      rw [if_neg e] at k
      exact k m (RM.ok h)
    rw [if_pos (kd_bt.mpr w)] at k
    rw [ix_0, nI_clamp (by omega), show m 1 i = s i by rw [h.2.2.2.1]]
    have hz := h.2.2.2.2.2.2.2.2.1 i (by omega)
    refine ⟨in_nI (by omega) (by decide), h.number hp' ⟨hz.1, by have := hz.2; omega⟩ _ (fun w1 m2 h2 e2 => ?_) (fun w1 m2 h2 => ?_)⟩
    case refine_2 =>
      rw [if_neg (by rw [w1]; exact Bool.false_ne_true)] at k
      refine ⟨fun _ => ?_, fun w => absurd w (n11 h2.pass)⟩
      have kk := k m2 (RM.no h2)
      exact ⟨fun _ => kk, fun _ => ⟨fun _ => kk, fun w => absurd h2.pass (by rw [show m2 0 11 = 0 from w]; decide)⟩⟩
    rw [if_pos w1] at k
    have hv := num_w hf h.2.2.2.2 (i := i) (by omega) w1
    refine ⟨fun w => absurd h2.2.2.1.2.2.1 w, fun _ => ?_⟩
    obtain ⟨a1, a2, a3, a4, a5⟩ := h2
    have e10 : zz_st m2 1 (upd (m2 1) (20 + 17 * p + 8 * 0 + i) (vl t T f)) 0 10 = vl t T f := by rw [zz_st_ne _ _ (by decide)]; exact e2
    rw [at_eq, ix_a0, nI_clamp (by omega), e2, sto_eq, at_eq, ix_a1, nI_clamp (by omega), sto_eq, e10, zz_st_self, st_st, nI_1, a4]
    refine ⟨in_nI (by omega) (by decide), in_nI (by omega) (by decide), ?_⟩
    refine ih (i + 1) _ _ _ (by omega) ⟨fun j j0 j1 => ?_, fun i i8 i9 i10 i11 => ?_, ?_, ?_, a5.both hp (by omega) hv⟩ k
    · rw [zz_st_ne _ _ j1]; exact a1 j j0 j1
    · rw [zz_st_ne _ _ (by decide)]; exact a2 i i8 i9 i10 i11
    · unfold MT at a3 ⊢
      rw [zz_st_ne _ _ (by decide)]; exact a3
    · rw [zz_st_self]; rfl
def pS (t : Nat → Int32) (T P f : Nat) (s : Nat → Int32) : Bool × Nat × (Nat → Int32) :=
  if P < 12 then (if numB t T (nx t T f) 3 then pL t T P 8 0 (nx t T (nx t T f)) (nP s P (vl t T (nx t T f))) else (false, nx t T f, s)) else (false, f, s)
theorem c_pupilI {c0 c : zz_H} {t s : Nat → Int32} {T f P C : Nat} (hT : T ≤ 120) (hb : ∀ i, i < T → c0 30 i = t i) (h : OKc c0 c t T f s P C) (post : Int32 → zz_H → Prop) (k : ∀ c', RC c0 c' t T (pS t T P f s) → post (if (pS t T P f s).1 then 1 else 0) c') : wX3_readPupil 17 c post := by
  have bP : P ≤ 12 := h.2.2.2.2.1.2.1
  have bC : C ≤ 6 := h.2.2.2.2.1.2.2.2.1
  unfold wX3_readPupil
  unfold pS at k
  rw [show c 17 7 = nI P from h.2.2.2.2.2.1]
  by_cases q : P < 12
  case neg =>
    rw [if_neg q] at k
    exact ⟨fun w => absurd w (by rw [show P = 12 by omega]; decide), fun _ => k c (RC.no h.bd)⟩
  rw [if_pos q] at k
  refine ⟨fun _ => ?_, fun w => absurd (nI_lt (a := P) (b := 12) q (by decide)) w⟩
  refine h.step hT hb _ (fun c1 h1 => ?_)
  rw [c_isNumber h1.2.2.1]
  generalize nx t T f = f1 at h1 k ⊢
  refine br' (fun w1 => ?_) (fun w1 => ?_)
  case refine_2 =>
    rw [if_neg (by rw [w1]; exact Bool.false_ne_true)] at k
    exact k c1 (RC.no h1.bd)
  rw [if_pos w1] at k
  obtain ⟨v1, hv1, e1⟩ := num_v (l := 3) (by decide) h1.2.2.2.1 w1
  rw [h1.2.2.1.2.2.2 (of_decide_eq_true w1).1]
  obtain ⟨a1, a2, a3, a4, a5, a6⟩ := h1
  refine c_addPupil a6 q bC _ _ (fun c2 ho hm => ?_)
  have e29 : c2 29 = c1 29 := ho 29 (by omega)
  have h2 : OKc c0 c2 t T f1 (nP s P (vl t T f1)) (P + 1) C := ⟨fun j j1 j2 => by rw [ho j (by omega)]; exact a1 j j1 j2, by rw [e29]; exact a2, by unfold TC; rw [e29]; exact a3, a4, a5.newP q (by rw [e1]; exact nI_zb (by omega) (by omega)), hm⟩
  exact h2.step hT hb _ (fun c3 h3 => ⟨9, c_pL hT hb (by omega) _ 8 0 _ _ c3 (by omega) h3 k⟩)
theorem m_pupilI {m0 m : zz_H} {t s : Nat → Int32} {T f P C : Nat} (hp : MP m0 t T) (h : OKm m0 m t T f s P C) (post : Int32 → zz_H → Prop) (k : ∀ m', RM m0 m' t T (pS t T P f s) → post 0 m') : wX5_pupilItem m post := by
  have bP : P ≤ 12 := h.2.2.2.2.2.1
  unfold wX5_pupilItem
  unfold pS at k
  rw [show m 1 17 = nI P by rw [h.2.2.2.1]; exact h.2.2.2.2.1]
  by_cases q : P < 12
  case neg =>
    rw [if_neg q] at k
    refine ⟨fun _ => ?_, fun w => absurd (nI_le (a := 12) (b := P) (by omega) (by omega)) w⟩
    unfold wX5_pupilItem_j18
    exact h.needs0 _ (fun m1 h1 => m_numberW h1.pass _ _ _ ⟨fun w => absurd w (n11 h1.pass), fun _ => k m1 (RM.no h1)⟩)
  rw [if_pos q] at k
  refine ⟨fun w => absurd w (nI_ge (a := P) (b := 12) q (by decide)), fun _ => ?_⟩
  unfold wX5_pupilItem_j18
  refine h.needs1 hp (by decide) _ (fun m1 h1 _ => ?_)
  refine h1.number hp (by exact ⟨by decide, by decide⟩) _ (fun w1 m2 h2 e2 => ?_) (fun w1 m2 h2 => ?_)
  case refine_2 =>
    rw [if_neg (by rw [w1]; exact Bool.false_ne_true)] at k
    exact ⟨fun w => absurd w (n11 h2.pass), fun _ => k m2 (RM.no h2)⟩
  rw [if_pos w1] at k
  obtain ⟨v1, hv1, e1⟩ := num_v (l := 3) (by decide) h1.2.2.1.2.2.2 w1
  refine ⟨fun _ => ?_, fun w => absurd h2.2.2.1.2.2.1 w⟩
  obtain ⟨a1, a2, a3, a4, a5⟩ := h2
  rw [e2]
  refine m_newPupil (by rw [a4]; exact a5.1) q _ _ ⟨9, m_pL hp (by omega) _ 8 0 _ _ _ (by omega) ⟨fun j j0 j1 => ?_, fun i i8 i9 i10 i11 => ?_, ?_, ?_, a5.newP q (by rw [e1]; exact nI_zb (by omega) (by omega))⟩ k⟩
  · rw [zz_st_ne _ _ j1]; exact a1 j j0 j1
  · rw [zz_st_ne _ _ (by decide)]; exact a2 i i8 i9 i10 i11
  · unfold MT at a3 ⊢
    rw [zz_st_ne _ _ (by decide)]; exact a3
  · rw [zz_st_self, a4]
