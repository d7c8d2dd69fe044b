/-! items -/
def OKc (c0 c : zz_H) (t : Nat → Int32) (T f : Nat) (s : Nat → Int32) (P C : Nat) : Prop := (∀ j, j ≠ 29 → (j < 17 ∨ 24 < j) → c j = c0 j) ∧ c 29 1 = nI T ∧ TC c t T f ∧ f ≤ T ∧ WF s P C ∧ PM c 17 s P C
def BDc (c0 c : zz_H) (T f : Nat) : Prop := (∀ j, j ≠ 29 → (j < 17 ∨ 24 < j) → c j = c0 j) ∧ c 29 1 = nI T ∧ c 29 3 = nI f
def RC (c0 c : zz_H) (t : Nat → Int32) (T : Nat) (r : Bool × Nat × (Nat → Int32)) : Prop := (r.1 = true → ∃ P C, OKc c0 c t T r.2.1 r.2.2 P C) ∧ (r.1 = false → BDc c0 c T r.2.1)
def OKm (m0 m : zz_H) (t : Nat → Int32) (T f : Nat) (s : Nat → Int32) (P C : Nat) : Prop := (∀ j, j ≠ 0 → j ≠ 1 → m j = m0 j) ∧ (∀ i, i ≠ 8 → i ≠ 9 → i ≠ 10 → i ≠ 11 → m 0 i = m0 0 i) ∧ MT m t T f ∧ m 1 = s ∧ WF s P C
def BDm (m0 m : zz_H) (f : Nat) : Prop := (∀ j, j ≠ 0 → j ≠ 1 → m j = m0 j) ∧ (∀ i, i ≠ 8 → i ≠ 9 → i ≠ 10 → i ≠ 11 → m 0 i = m0 0 i) ∧ m 0 8 = nI f ∧ m 0 11 = 1
def RM (m0 m : zz_H) (t : Nat → Int32) (T : Nat) (r : Bool × Nat × (Nat → Int32)) : Prop := (r.1 = true → ∃ P C, OKm m0 m t T r.2.1 r.2.2 P C) ∧ (r.1 = false → BDm m0 m r.2.1)
theorem OKc.bd {c0 c : zz_H} {t s : Nat → Int32} {T f P C : Nat} (h : OKc c0 c t T f s P C) : BDc c0 c T f := ⟨h.1, h.2.1, h.2.2.1.1⟩
theorem OKc.step {c0 c : zz_H} {t s : Nat → Int32} {T f P C : Nat} (hT : T ≤ 120) (hb : ∀ i, i < T → c0 30 i = t i) (h : OKc c0 c t T f s P C) (post : Int32 → zz_H → Prop) (k : ∀ c', OKc c0 c' t T (nx t T f) s P C → post 0 c') : wX3_step c post := by
  obtain ⟨h1, h2, h3, h4, h5, h6⟩ := h
  refine c_step hT h2 (by rw [h1 30 (by decide) (by omega)]; exact hb) h3.2.1 (te_bd t h4).2.1 _ (fun c' a b d => k c' ⟨fun j j1 j2 => by rw [a j j1]; exact h1 j j1 j2, b, d, (nx_le h4).1, h5, h6.cong (fun j j1 j2 => a j (by omega))⟩)
theorem OKc.word {c0 c : zz_H} {t s : Nat → Int32} {T f P C j : Nat} (hj : j < 12) (hT : T ≤ 120) (hb : ∀ i, i < T → c0 30 i = t i) (h : OKc c0 c t T f s P C) (post : Int32 → Prop) (k : post (if wdB t T f j then 1 else 0)) : wX3_isWord j c post := c_isWord hj hT h.2.2.2.1 (by rw [h.1 30 (by decide) (by omega)]; exact hb) h.2.2.1 post k
theorem OKm.mp {m0 m : zz_H} {t s : Nat → Int32} {T f P C : Nat} (hp : MP m0 t T) (h : OKm m0 m t T f s P C) : MP m t T := hp.cong (h.2.1 7 (by decide) (by decide) (by decide) (by decide)) (h.1 6 (by decide) (by decide))
theorem OKm.needs1 {m0 m : zz_H} {t s : Nat → Int32} {T f P C : Nat} (hp : MP m0 t T) (h : OKm m0 m t T f s P C) {y : Int32} (hy : ¬ y = 0) (post : Int32 → zz_H → Prop) (k : ∀ m', OKm m0 m' t T (nx t T f) s P C → m' 0 10 = m 0 10 → post 0 m') : wX5_needs y m post := by
  have hq := h.mp hp
  obtain ⟨h1, h2, h3, h4, h5⟩ := h
  refine m_needs1 hq h3 hy _ (fun m' a b d => k m' ⟨fun j j0 j1 => by rw [a j j0]; exact h1 j j0 j1, fun i i8 i9 i10 i11 => by rw [b i i8 i9]; exact h2 i i8 i9 i10 i11, d, by rw [a 1 (by decide)]; exact h4, h5⟩ (b 10 (by decide) (by decide)))
theorem OKm.needs0 {m0 m : zz_H} {t s : Nat → Int32} {T f P C : Nat} (h : OKm m0 m t T f s P C) (post : Int32 → zz_H → Prop) (k : ∀ m', BDm m0 m' f → post 0 m') : wX5_needs 0 m post := by
  obtain ⟨h1, h2, h3, h4, h5⟩ := h
  refine m_needs0 h3.2.2.1 _ (fun m' a b d => k m' ⟨fun j j0 j1 => by rw [a j j0]; exact h1 j j0 j1, fun i i8 i9 i10 i11 => by rw [b i i11]; exact h2 i i8 i9 i10 i11, by rw [b 8 (by decide)]; exact h3.1, d⟩)
theorem OKm.number {m0 m : zz_H} {t s : Nat → Int32} {T f P C : Nat} (hp : MP m0 t T) (h : OKm m0 m t T f s P C) {lim : Int32} (hl : zb lim 0 400) (post : Int32 → zz_H → Prop) (k1 : numB t T f lim = true → ∀ m', OKm m0 m' t T (nx t T f) s P C → m' 0 10 = vl t T f → post 0 m') (k2 : numB t T f lim = false → ∀ m', BDm m0 m' f → post 0 m') : wX5_number 0 lim m post := by
  have hq := h.mp hp
  obtain ⟨h1, h2, h3, h4, h5⟩ := h
  refine m_number hq h3 hl _ (fun w m' a b d e => k1 w m' ⟨fun j j0 j1 => by rw [a j j0]; exact h1 j j0 j1, fun i i8 i9 i10 i11 => by rw [b i i8 i9 i10]; exact h2 i i8 i9 i10 i11, e, by rw [a 1 (by decide)]; exact h4, h5⟩ d) (fun w m' a b d => k2 w m' ⟨fun j j0 j1 => by rw [a j j0]; exact h1 j j0 j1, fun i i8 i9 i10 i11 => by rw [b i i10 i11]; exact h2 i i8 i9 i10 i11, by rw [b 8 (by decide) (by decide)]; exact h3.1, d⟩)
theorem num_v {t : Nat → Int32} {T f l : Nat} (hl : l ≤ 999) (hf : f ≤ T) (h : numB t T f (nI l) = true) : ∃ v : Nat, v ≤ l ∧ vl t T f = nI v := by
  obtain ⟨h1, h2⟩ := of_decide_eq_true h
  obtain ⟨h3, h4⟩ := kd2.mp h1
  have hL : ¬ isL (t f) = true := fun w => by rw [LnD w] at h4; exact absurd h4 (by decide)
  obtain ⟨l1, l2⟩ := te_D h3 hL h4
  obtain ⟨a, ha, ea, eb⟩ := wv_zb (t := t) (f := f) (te t T f - f) (fun i hi => l1 (f + i) (by omega) (by omega))
  have eb : vl t T f = nI (min a 1000) := eb
  rw [eb] at h2 ⊢
  exact ⟨min a 1000, (nI_leI (by omega) (by omega)).mp h2, rfl⟩
def qS (t : Nat → Int32) (T P f : Nat) (s : Nat → Int32) : Bool × Nat × (Nat → Int32) :=
  if numB t T (nx t T f) 7 then (if wdB t T (nx t T (nx t T f)) 3 then (if numB t T (nx t T (nx t T (nx t T f))) 40 then (true, nx t T (nx t T (nx t T (nx t T f))), wpS (vl t T (nx t T f)).toNatClampNeg (vl t T (nx t T (nx t T (nx t T f)))) (upd s (vl t T (nx t T f)).toNatClampNeg (vl t T (nx t T (nx t T (nx t T f))))) P) else (false, nx t T (nx t T (nx t T f)), s)) else (false, nx t T (nx t T f), s)) else (false, nx t T f, s)
theorem c_question {c0 c : zz_H} {t s : Nat → Int32} {T f P C : Nat} (hT : T ≤ 120) (hb : ∀ i, i < T → c0 30 i = t i) (h : OKc c0 c t T f s P C) (post : Int32 → zz_H → Prop) (k : ∀ c', RC c0 c' t T (qS t T P f s) → post (if (qS t T P f s).1 then 1 else 0) c') : wX3_readQuestion 17 c post := by
  have hf := h.2.2.2.1
  unfold wX3_readQuestion
  unfold qS at k
  refine h.step hT hb _ (fun c1 h1 => ?_)
  rw [c_isNumber h1.2.2.1]
  generalize nx t T f = f1 at h1 k ⊢
  refine br' (fun w1 => ?_) (fun w1 => ?_)
  case refine_2 =>
    rw [if_neg (by rw [w1]; exact Bool.false_ne_true)] at k
    exact k c1 ⟨fun w => absurd (show false = true from w) Bool.false_ne_true, fun _ => h1.bd⟩
  rw [if_pos w1] at k
  refine h1.step hT hb _ (fun c2 h2 => h2.word (by decide) hT hb _ ?_)
  generalize nx t T f1 = f2 at h2 k ⊢
  refine br' (fun w2 => ?_) (fun w2 => ?_)
  case refine_2 =>
    rw [if_neg (by rw [w2]; exact Bool.false_ne_true)] at k
    exact k c2 ⟨fun w => absurd (show false = true from w) Bool.false_ne_true, fun _ => h2.bd⟩
  rw [if_pos w2] at k
  refine h2.step hT hb _ (fun c3 h3 => ?_)
  rw [c_isNumber h3.2.2.1]
  generalize nx t T f2 = f3 at h3 k ⊢
  refine br' (fun w3 => ?_) (fun w3 => ?_)
  case refine_2 =>
    rw [if_neg (by rw [w3]; exact Bool.false_ne_true)] at k
    exact k c3 ⟨fun w => absurd (show false = true from w) Bool.false_ne_true, fun _ => h3.bd⟩
  rw [if_pos w3] at k
  obtain ⟨v1, hv1, e1⟩ := num_v (l := 7) (by decide) h1.2.2.2.1 w1
  obtain ⟨v3, hv3, e3⟩ := num_v (l := 40) (by decide) h3.2.2.2.1 w3
  rw [h1.2.2.1.2.2.2 (of_decide_eq_true w1).1, h3.2.2.1.2.2.2 (of_decide_eq_true w3).1]
  rw [e1, nI_clamp (by omega)] at k
  rw [e1]
  obtain ⟨a1, a2, a3, a4, a5, a6⟩ := h3
  refine c_setWorth a6 a5.2.1 a5.2.2.2.1 (by omega) _ _ (fun c4 ho hm => ?_)
  have e29 : c4 29 = c3 29 := ho 29 (by omega)
  have h4 : OKc c0 c4 t T f3 (wpS v1 (vl t T f3) (upd s v1 (vl t T f3)) P) P C := ⟨fun j j1 j2 => by rw [ho j (by omega)]; exact a1 j j1 j2, by rw [e29]; exact a2, by unfold TC; rw [e29]; exact a3, a4, a5.worth (by omega) (by rw [e3]; exact nI_zb (by omega) (by omega)), hm⟩
  exact h4.step hT hb _ (fun c5 h5 => k c5 ⟨fun _ => ⟨P, C, h5⟩, fun w => absurd (show true = false from w) (fun h => Bool.false_ne_true h.symm)⟩)
theorem BDm.pass {m0 m : zz_H} {f : Nat} (h : BDm m0 m f) : m 0 11 = 1 := h.2.2.2
theorem n11 {m : zz_H} (h : m 0 11 = 1) : ¬ m 0 11 = 0 := by rw [h]; decide
theorem m_question {m0 m : zz_H} {t s : Nat → Int32} {T f P C : Nat} (hp : MP m0 t T) (h : OKm m0 m t T f s P C) (post : Int32 → zz_H → Prop) (k : ∀ m', RM m0 m' t T (qS t T P f s) → post 0 m') : wX5_needs 1 m (fun _ h5 => wX5_number 0 7 h5 (fun _ h6 => wX5_isWord 119 111 114 116 104 0 0 0 0 h6 (fun r7 => wX5_needs r7 h6 (fun _ h8 => wX5_number 0 40 h8 (fun _ h9 => ((¬ (h9 0 11) = 0) → (post 0 h9)) ∧ (((h9 0 11) = 0) → (wX5_worths (h6 0 10) (h9 0 10) h9 (fun _ h10 => post 0 h10)))))))) := by
  have hf := h.2.2.1.2.2.2
  unfold qS at k
  refine h.needs1 hp (by decide) _ (fun m1 h1 _ => h1.number hp (by exact ⟨by decide, by decide⟩) _ (fun w1 m2 h2 e2 => ?_) (fun w1 m2 h2 => ?_))
  case refine_2 =>
    rw [if_neg (by rw [w1]; exact Bool.false_ne_true)] at k
    refine m_isWordW h2.pass _ _ _ _ _ _ _ _ _ _ (m_needsW h2.pass _ _ (m_numberW h2.pass _ _ _ ⟨fun _ => k m2 ⟨fun w => absurd (show false = true from w) Bool.false_ne_true, fun _ => h2⟩, fun w => absurd w (n11 h2.pass)⟩))
  rw [if_pos w1] at k
  obtain ⟨v1, hv1, e1⟩ := num_v (l := 7) (by decide) h1.2.2.1.2.2.2 w1
  generalize nx t T f = f1 at h1 h2 k w1 e1 e2
  refine m_w3 (h2.mp hp) h2.2.2.1 _ ?_
  generalize nx t T f1 = f2 at h2 k ⊢
  cases w2 : wdB t T f2 3
  · rw [if_neg (by rw [w2]; exact Bool.false_ne_true)] at k
    refine h2.needs0 _ (fun m3 h3 => m_numberW h3.pass _ _ _ ⟨fun _ => k m3 ⟨fun w => absurd (show false = true from w) Bool.false_ne_true, fun _ => h3⟩, fun w => absurd w (n11 h3.pass)⟩)
  rw [if_pos w2] at k
  refine h2.needs1 hp (by decide) _ (fun m3 h3 _ => h3.number hp (by exact ⟨by decide, by decide⟩) _ (fun w3 m4 h4 e4 => ?_) (fun w3 m4 h4 => ?_))
  case refine_2 =>
    rw [if_neg (by rw [w3]; exact Bool.false_ne_true)] at k
    exact ⟨fun _ => k m4 ⟨fun w => absurd (show false = true from w) Bool.false_ne_true, fun _ => h4⟩, fun w => absurd w (n11 h4.pass)⟩
  rw [if_pos w3] at k
  obtain ⟨v3, hv3, e3⟩ := num_v (l := 40) (by decide) h3.2.2.1.2.2.2 w3
  rw [e1, nI_clamp (by omega)] at k
  rw [e2, e1, e4]
  refine ⟨fun w => absurd h4.2.2.1.2.2.1 w, fun _ => ?_⟩
  obtain ⟨a1, a2, a3, a4, a5⟩ := h4
  refine m_worths (by rw [a4]; exact a5.1) a5.2.1 (by omega) _ _ (k _ ⟨fun _ => ⟨P, C, fun j j0 j1 => ?_, fun i i8 i9 i10 i11 => ?_, ?_, ?_, ?_⟩, fun w => absurd (show true = false from w) (fun h => Bool.false_ne_true h.symm)⟩)
  · rw [zz_st_ne _ _ j1]; exact a1 j j0 j1
  · rw [zz_st_ne _ _ (by decide)]; exact a2 i i8 i9 i10 i11
  · unfold MT at a3 ⊢
    rw [zz_st_ne _ _ (by decide)]; exact a3
  · rw [zz_st_self, a4]
  · exact a5.worth (by omega) (by rw [e3]; exact nI_zb (by omega) (by omega))
def cS (t : Nat → Int32) (T f : Nat) (s : Nat → Int32) : Bool × Nat × (Nat → Int32) :=
  if numB t T (nx t T f) 7 then (if numB t T (nx t T (nx t T f)) 400 then (true, nx t T (nx t T (nx t T f)), upd s (8 + (vl t T (nx t T f)).toNatClampNeg) (vl t T (nx t T (nx t T f)))) else (false, nx t T (nx t T f), s)) else (false, nx t T f, s)
theorem c_common {c0 c : zz_H} {t s : Nat → Int32} {T f P C : Nat} (hT : T ≤ 120) (hb : ∀ i, i < T → c0 30 i = t i) (h : OKc c0 c t T f s P C) (post : Int32 → zz_H → Prop) (k : ∀ c', RC c0 c' t T (cS t T f s) → post (if (cS t T f s).1 then 1 else 0) c') : wX3_readCommon 17 c post := by
  unfold wX3_readCommon
  unfold cS at k
  refine h.step hT hb _ (fun c1 h1 => ?_)
  rw [c_isNumber h1.2.2.1]
  generalize nx t T f = f1 at h1 k ⊢
  refine br' (fun w1 => ?_) (fun w1 => ?_)
  case refine_2 =>
    rw [if_neg (by rw [w1]; exact Bool.false_ne_true)] at k
    exact k c1 ⟨fun w => absurd (show false = true from w) Bool.false_ne_true, fun _ => h1.bd⟩
  rw [if_pos w1] at k
  refine h1.step hT hb _ (fun c3 h3 => ?_)
  rw [c_isNumber h3.2.2.1]
  generalize nx t T f1 = f3 at h3 k ⊢
  refine br' (fun w3 => ?_) (fun w3 => ?_)
  case refine_2 =>
    rw [if_neg (by rw [w3]; exact Bool.false_ne_true)] at k
    exact k c3 ⟨fun w => absurd (show false = true from w) Bool.false_ne_true, fun _ => h3.bd⟩
  rw [if_pos w3] at k
  obtain ⟨v1, hv1, e1⟩ := num_v (l := 7) (by decide) h1.2.2.2.1 w1
  obtain ⟨v3, hv3, e3⟩ := num_v (l := 400) (by decide) h3.2.2.2.1 w3
  rw [h1.2.2.1.2.2.2 (of_decide_eq_true w1).1, h3.2.2.1.2.2.2 (of_decide_eq_true w3).1]
  rw [e1, nI_clamp (by omega)] at k
  rw [e1, nI_clamp (by omega), sto_eq]
  obtain ⟨a1, a2, a3, a4, a5, a6⟩ := h3
  refine ⟨in_nI (by omega) (by decide), ?_⟩
  have e29 : zz_st c3 (17 + 2) (upd (c3 (17 + 2)) v1 (vl t T f3)) 29 = c3 29 := zz_st_ne _ _ (by decide)
  have h4 : OKc c0 (zz_st c3 (17 + 2) (upd (c3 (17 + 2)) v1 (vl t T f3))) t T f3 (upd s (8 + v1) (vl t T f3)) P C := ⟨fun j j1 j2 => by rw [zz_st_ne _ _ (by omega)]; exact a1 j j1 j2, by rw [e29]; exact a2, by unfold TC; rw [e29]; exact a3, a4, a5.old (by omega) (by rw [e3]; exact ⟨by rw [nI_toInt (by omega)]; omega, by rw [nI_toInt (by omega)]; omega⟩), a6.old _ (by omega)⟩
  exact h4.step hT hb _ (fun c5 h5 => k c5 ⟨fun _ => ⟨P, C, h5⟩, fun w => absurd (show true = false from w) (fun h => Bool.false_ne_true h.symm)⟩)
theorem m_common {m0 m : zz_H} {t s : Nat → Int32} {T f P C : Nat} (hp : MP m0 t T) (h : OKm m0 m t T f s P C) (post : Int32 → zz_H → Prop) (k : ∀ m', RM m0 m' t T (cS t T f s) → post 0 m') : wX5_needs 1 m (fun _ h11 => wX5_number 0 7 h11 (fun _ h12 => wX5_number 0 400 h12 (fun _ h13 => ((¬ (h13 0 11) = 0) → (post 0 h13)) ∧ (((h13 0 11) = 0) → (vp_in ((8 : Int32) + (h12 0 10)) 245 ∧ zz_sto h13 1 (upd (h13 1) ((8 : Int32) + (h12 0 10)).toNatClampNeg (h13 0 10)) (fun h14 => post 0 h14)))))) := by
  unfold cS at k
  refine h.needs1 hp (by decide) _ (fun m1 h1 _ => h1.number hp (by exact ⟨by decide, by decide⟩) _ (fun w1 m2 h2 e2 => ?_) (fun w1 m2 h2 => ?_))
  case refine_2 =>
    rw [if_neg (by rw [w1]; exact Bool.false_ne_true)] at k
    refine m_numberW h2.pass _ _ _ ⟨fun _ => k m2 ⟨fun w => absurd (show false = true from w) Bool.false_ne_true, fun _ => h2⟩, fun w => absurd w (n11 h2.pass)⟩
  rw [if_pos w1] at k
  obtain ⟨v1, hv1, e1⟩ := num_v (l := 7) (by decide) h1.2.2.1.2.2.2 w1
  generalize nx t T f = f1 at h1 h2 k w1 e1 e2
  refine h2.number hp (by exact ⟨by decide, by decide⟩) _ (fun w3 m4 h4 e4 => ?_) (fun w3 m4 h4 => ?_)
  case refine_2 =>
    rw [if_neg (by rw [w3]; exact Bool.false_ne_true)] at k
    exact ⟨fun _ => k m4 ⟨fun w => absurd (show false = true from w) Bool.false_ne_true, fun _ => h4⟩, fun w => absurd w (n11 h4.pass)⟩
  rw [if_pos w3] at k
  obtain ⟨v3, hv3, e3⟩ := num_v (l := 400) (by decide) h2.2.2.1.2.2.2 w3
  rw [e1, nI_clamp (by omega)] at k
  rw [e2, e1, e4, ix_old, nI_clamp (by omega), sto_eq]
  refine ⟨fun w => absurd h4.2.2.1.2.2.1 w, fun _ => ⟨in_nI (by omega) (by decide), ?_⟩⟩
  obtain ⟨a1, a2, a3, a4, a5⟩ := h4
  refine k _ ⟨fun _ => ⟨P, C, fun j j0 j1 => ?_, fun i i8 i9 i10 i11 => ?_, ?_, ?_, ?_⟩, fun w => absurd (show true = false from w) (fun h => Bool.false_ne_true h.symm)⟩
  · rw [zz_st_ne _ _ j1]; exact a1 j j0 j1
  · rw [zz_st_ne _ _ (by decide)]; exact a2 i i8 i9 i10 i11
  · unfold MT at a3 ⊢
    rw [zz_st_ne _ _ (by decide)]; exact a3
  · rw [zz_st_self, a4]
  · exact a5.old (by omega) (by rw [e3]; exact ⟨by rw [nI_toInt (by omega)]; omega, by rw [nI_toInt (by omega)]; omega⟩)
def kS (t : Nat → Int32) (T C : Nat) (kd : Int32) (f : Nat) (s : Nat → Int32) : Bool × Nat × (Nat → Int32) :=
  if C < 6 then (if wdB t T (nx t T f) 4 then (if numB t T (nx t T (nx t T f)) 100 then (true, nx t T (nx t T (nx t T f)), nC s C kd (vl t T (nx t T (nx t T f)))) else (false, nx t T (nx t T f), s)) else (true, nx t T f, nC s C kd 0)) else (false, f, s)
theorem c_curveI {c0 c : zz_H} {t s : Nat → Int32} {T f P C : Nat} (hT : T ≤ 120) (hb : ∀ i, i < T → c0 30 i = t i) (h : OKc c0 c t T f s P C) {kd : Int32} (hk : zb kd 0 6) (post : Int32 → zz_H → Prop) (k : ∀ c', RC c0 c' t T (kS t T C kd f s) → post (if (kS t T C kd f s).1 then 1 else 0) c') : wX3_readCurve 17 kd c post := by
  have bC : C ≤ 6 := h.2.2.2.2.1.2.2.2.1
  unfold wX3_readCurve
  unfold kS at k
  rw [show c 17 8 = nI C from h.2.2.2.2.2.2.1]
  by_cases q : C < 6
  case neg =>
    rw [if_neg q] at k
    exact ⟨fun w => absurd w (nI_nlt (b := C) (a := C) (by omega) (by omega) |> fun _ => by rw [show C = 6 by omega]; decide), fun _ => k c ⟨fun w => absurd (show false = true from w) Bool.false_ne_true, fun _ => h.bd⟩⟩
  rw [if_pos q] at k
  refine ⟨fun _ => ?_, fun w => absurd (nI_lt (a := C) (b := 6) q (by decide)) w⟩
  refine h.step hT hb _ (fun c1 h1 => h1.word (by decide) hT hb _ ?_)
  generalize nx t T f = f1 at h1 k ⊢
  have fin : ∀ (d : zz_H) (f' : Nat) (b : Int32), OKc c0 d t T f' s P C → zb b 0 100 → (∀ c', RC c0 c' t T (true, f', nC s C kd b) → post 1 c') → wX0_addCurve 17 kd b d (fun r4 h3 => post (1 : Int32) h3) := by
    intro d f' b h' hb' k'
    obtain ⟨a1, a2, a3, a4, a5, a6⟩ := h'
    rw [c_addCurve a6.2.1 q]
    have o : ∀ j, (j < 17 ∨ 24 < j) → cC d 17 C kd b j = d j := fun j hj => by unfold cC; rw [zz_st_ne _ _ (by omega), zz_st_ne _ _ (by omega), zz_st_ne _ _ (by omega)]
    have e29 := o 29 (by omega)
    exact k' _ ⟨fun _ => ⟨P, C + 1, fun j j1 j2 => by rw [o j j2]; exact a1 j j1 j2, by rw [e29]; exact a2, by unfold TC; rw [e29]; exact a3, a4, a5.newC q hk hb', a6.newC a5.2.1 q kd b⟩, fun w => absurd (show true = false from w) (fun h => Bool.false_ne_true h.symm)⟩
  refine br (fun w1 => ?_) (fun w1 => ?_)
  case refine_2 =>
    rw [if_neg (by rw [w1]; exact Bool.false_ne_true)] at k
    exact fin c1 f1 0 h1 ⟨by decide, by decide⟩ k
  rw [if_pos w1] at k
  refine h1.step hT hb _ (fun c2 h2 => ?_)
  rw [c_isNumber h2.2.2.1]
  generalize nx t T f1 = f2 at h2 k ⊢
  refine br' (fun w2 => ?_) (fun w2 => ?_)
  case refine_2 =>
    rw [if_neg (by rw [w2]; exact Bool.false_ne_true)] at k
    exact k c2 ⟨fun w => absurd (show false = true from w) Bool.false_ne_true, fun _ => h2.bd⟩
  rw [if_pos w2] at k
  obtain ⟨v3, hv3, e3⟩ := num_v (l := 100) (by decide) h2.2.2.2.1 w2
  rw [h2.2.2.1.2.2.2 (of_decide_eq_true w2).1]
  exact h2.step hT hb _ (fun c3 h3 => fin c3 _ _ h3 (by rw [e3]; exact nI_zb (by omega) (by omega)) k)
theorem m_curveI {m0 m : zz_H} {t s : Nat → Int32} {T f P C : Nat} (hp : MP m0 t T) (h : OKm m0 m t T f s P C) {kd : Int32} (hk : zb kd 0 6) (post : Int32 → zz_H → Prop) (k : ∀ m', RM m0 m' t T (kS t T C kd f s) → post 0 m') : wX5_curveItem kd m post := by
  have bC : C ≤ 6 := h.2.2.2.2.2.2.2.1
  unfold wX5_curveItem
  unfold kS at k
  rw [show m 1 18 = nI C by rw [h.2.2.2.1]; exact h.2.2.2.2.2.2.1]
  by_cases q : C < 6
  case neg =>
    rw [if_neg q] at k
    refine ⟨fun _ => ?_, fun w => absurd (nI_le (a := 6) (b := C) (by omega) (by omega)) w⟩
    unfold wX5_curveItem_j18 wX5_curveItem_j58
    exact h.needs0 _ (fun m1 h1 => m_isWordW h1.pass _ _ _ _ _ _ _ _ _ _ ⟨fun _ => ⟨fun _ => k m1 ⟨fun w => absurd (show false = true from w) Bool.false_ne_true, fun _ => h1⟩, fun w => absurd w (n11 h1.pass)⟩, fun w => absurd rfl w⟩)
  rw [if_pos q] at k
  refine ⟨fun w => absurd w (nI_ge (a := C) (b := 6) q (by decide)), fun _ => ?_⟩
  unfold wX5_curveItem_j18
  refine h.needs1 hp (by decide) _ (fun m1 h1 _ => m_w4 (h1.mp hp) h1.2.2.1 _ ?_)
  generalize nx t T f = f1 at h1 k ⊢
  have fin : ∀ (d : zz_H) (f' : Nat) (b : Int32), OKm m0 d t T f' s P C → zb b 0 100 → (∀ m', RM m0 m' t T (true, f', nC s C kd b) → post 0 m') → wX5_curveItem_j58 kd post b d := by
    intro d f' b h' hb' k'
    unfold wX5_curveItem_j58
    obtain ⟨a1, a2, a3, a4, a5⟩ := h'
    refine ⟨fun w => absurd a3.2.2.1 w, fun _ => ?_⟩
    rw [m_newCurve (by rw [a4]; exact a5.2.2.1) q]
    refine k' _ ⟨fun _ => ⟨P, C + 1, fun j j0 j1 => ?_, fun i i8 i9 i10 i11 => ?_, ?_, ?_, ?_⟩, fun w => absurd (show true = false from w) (fun h => Bool.false_ne_true h.symm)⟩
    · rw [zz_st_ne _ _ j1]; exact a1 j j0 j1
    · rw [zz_st_ne _ _ (by decide)]; exact a2 i i8 i9 i10 i11
    · unfold MT at a3 ⊢
      rw [zz_st_ne _ _ (by decide)]; exact a3
    · rw [zz_st_self, a4]
    · exact a5.newC q hk hb'
  refine br (fun w1 => ?_) (fun w1 => ?_)
  case refine_2 =>
    rw [if_neg (by rw [w1]; exact Bool.false_ne_true)] at k
    exact fin m1 f1 0 h1 ⟨by decide, by decide⟩ k
  rw [if_pos w1] at k
  refine h1.needs1 hp (by decide) _ (fun m2 h2 _ => h2.number hp (by exact ⟨by decide, by decide⟩) _ (fun w3 m4 h4 e4 => ?_) (fun w3 m4 h4 => ?_))
  case refine_2 =>
    rw [if_neg (by rw [w3]; exact Bool.false_ne_true)] at k
    unfold wX5_curveItem_j58
    exact ⟨fun _ => k m4 ⟨fun w => absurd (show false = true from w) Bool.false_ne_true, fun _ => h4⟩, fun w => absurd w (n11 h4.pass)⟩
  rw [if_pos w3] at k
  obtain ⟨v3, hv3, e3⟩ := num_v (l := 100) (by decide) h2.2.2.1.2.2.2 w3
  rw [e4]
  exact fin m4 _ _ h4 (by rw [e3]; exact nI_zb (by omega) (by omega)) k
