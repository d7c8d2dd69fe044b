/-! whole papers copied -/
theorem WF.ext {s s' : Nat → Int32} {P C : Nat} (h : WF s P C) (e : ∀ i, i < 245 → s' i = s i) : WF s' P C := by
  obtain ⟨h1, h2, h3, h4, h5, h6, h7, h8, h9, h10⟩ := h
  refine ⟨by rw [e _ (by omega)]; exact h1, h2, by rw [e _ (by omega)]; exact h3, h4, fun q hq => ?_, fun q hq => ?_, fun p hp => ?_, fun p q k hp hq hk => ?_, fun k hk => ?_, fun k hk => ?_⟩
  · rw [e _ (by omega)]; exact h5 q hq
  · rw [e _ (by omega)]; exact h6 q hq
  · rw [e _ (by omega)]; exact h7 p hp
  · rw [e _ (by omega), e _ (by omega)]; exact h8 p q k hp hq hk
  · rw [e _ (by omega), e _ (by omega)]; exact h9 k hk
  · rw [e _ (by omega)]; exact h10 k hk
theorem PM.ext {c : zz_H} {a : Nat} {s s' : Nat → Int32} {P C : Nat} (h : PM c a s P C) (bP : P ≤ 12) (bC : C ≤ 6) (e : ∀ i, i < 245 → s' i = s i) : PM c a s' P C := by
  obtain ⟨h1, h2, h3, h4, h5, h6, h7, h8, h9⟩ := h
  refine ⟨h1, h2, ?_, fun q hq => ?_, fun q hq => ?_, fun p hp => ?_, fun p q k hp hq hk => ?_, fun k hk => ?_, fun k hk => ?_⟩
  · rw [e _ (by omega)]; exact h3
  · rw [e _ (by omega)]; exact h4 q hq
  · rw [e _ (by omega)]; exact h5 q hq
  · rw [e _ (by omega)]; exact h6 p hp
  · rw [e _ (by omega)]; exact h7 p q k hp hq hk
  · rw [e _ (by omega), e _ (by omega)]; exact h8 k hk
  · rw [e _ (by omega)]; exact h9 k hk
theorem cpy_at (f g : Nat → Int32) {n i : Nat} (h : i < n) : va_cpy f g 0 0 n i = f i := by
  unfold va_cpy
  rw [if_pos (by omega)]
  congr 1
  omega
def tkH (c : zz_H) (a b : Nat) : zz_H := fun k =>
  if k = a then upd (upd (upd (c a) 7 (c b 7)) 8 (c b 8)) 9 (c b 9) else if k = a + 1 then va_cpy (c (b + 1)) (c (a + 1)) 0 0 8 else if k = a + 2 then va_cpy (c (b + 2)) (c (a + 2)) 0 0 8 else if k = a + 3 then va_cpy (c (b + 3)) (c (a + 3)) 0 0 12 else if k = a + 4 then va_cpy (c (b + 4)) (c (a + 4)) 0 0 192 else if k = a + 5 then va_cpy (c (b + 5)) (c (a + 5)) 0 0 6 else if k = a + 6 then va_cpy (c (b + 6)) (c (a + 6)) 0 0 6 else if k = a + 7 then va_cpy (c (b + 7)) (c (a + 7)) 0 0 10 else c k
theorem takeFrom_eq {c : zz_H} {a b : Nat} (hab : a + 7 < b ∨ b + 7 < a) (post : Int32 → zz_H → Prop) : wX0_takeFrom a b c post = post 0 (tkH c a b) := by
  unfold wX0_takeFrom
  simp only [sto_eq]
  simp (disch := omega) only [zz_st_ne, zz_st_self]
  congr 1
  funext k
  unfold tkH
  by_cases e0 : k = a
  · subst e0
    rw [if_pos rfl, zz_st_self]
  by_cases e1 : k = a + 1
  · subst e1
    simp (disch := omega) only [zz_st_ne, zz_st_self, if_neg, if_pos]
    rfl
  by_cases e2 : k = a + 2
  · subst e2
    simp (disch := omega) only [zz_st_ne, zz_st_self, if_neg, if_pos]
    rfl
  by_cases e3 : k = a + 3
  · subst e3
    simp (disch := omega) only [zz_st_ne, zz_st_self, if_neg, if_pos]
    rfl
  by_cases e4 : k = a + 4
  · subst e4
    simp (disch := omega) only [zz_st_ne, zz_st_self, if_neg, if_pos]
    rfl
  by_cases e5 : k = a + 5
  · subst e5
    simp (disch := omega) only [zz_st_ne, zz_st_self, if_neg, if_pos]
    rfl
  by_cases e6 : k = a + 6
  · subst e6
    simp (disch := omega) only [zz_st_ne, zz_st_self, if_neg, if_pos]
    rfl
  by_cases e7 : k = a + 7
  · subst e7
    simp (disch := omega) only [zz_st_ne, zz_st_self, if_neg, if_pos]
    rfl
  rw [if_neg e0, if_neg e1, if_neg e2, if_neg e3, if_neg e4, if_neg e5, if_neg e6, if_neg e7, zz_st_ne _ _ e0, zz_st_ne _ _ e0, zz_st_ne _ _ e0, zz_st_ne _ _ e7, zz_st_ne _ _ e6, zz_st_ne _ _ e5, zz_st_ne _ _ e4, zz_st_ne _ _ e3, zz_st_ne _ _ e2, zz_st_ne _ _ e1]
theorem c_takeFrom {c : zz_H} {a b : Nat} {s : Nat → Int32} {P C : Nat} (hab : a + 7 < b ∨ b + 7 < a) (h : PM c b s P C) (bP : P ≤ 12) (bC : C ≤ 6) (post : Int32 → zz_H → Prop) (k : ∀ c', OP a c c' → PM c' a s P C → post 0 c') : wX0_takeFrom a b c post := by
  rw [takeFrom_eq hab]
  obtain ⟨h1, h2, h3, h4, h5, h6, h7, h8, h9⟩ := h
  refine k _ ?_ ?_
  · intro j hj
    unfold tkH
    rw [if_neg (by omega), if_neg (by omega), if_neg (by omega), if_neg (by omega), if_neg (by omega), if_neg (by omega), if_neg (by omega), if_neg (by omega)]
  · have f0 : tkH c a b a = upd (upd (upd (c a) 7 (c b 7)) 8 (c b 8)) 9 (c b 9) := if_pos rfl
    have f1 : tkH c a b (a + 1) = va_cpy (c (b + 1)) (c (a + 1)) 0 0 8 := by unfold tkH; rw [if_neg (by omega), if_pos rfl]
    have f2 : tkH c a b (a + 2) = va_cpy (c (b + 2)) (c (a + 2)) 0 0 8 := by unfold tkH; rw [if_neg (by omega), if_neg (by omega), if_pos rfl]
    have f3 : tkH c a b (a + 3) = va_cpy (c (b + 3)) (c (a + 3)) 0 0 12 := by unfold tkH; rw [if_neg (by omega), if_neg (by omega), if_neg (by omega), if_pos rfl]
    have f4 : tkH c a b (a + 4) = va_cpy (c (b + 4)) (c (a + 4)) 0 0 192 := by unfold tkH; rw [if_neg (by omega), if_neg (by omega), if_neg (by omega), if_neg (by omega), if_pos rfl]
    have f5 : tkH c a b (a + 5) = va_cpy (c (b + 5)) (c (a + 5)) 0 0 6 := by unfold tkH; rw [if_neg (by omega), if_neg (by omega), if_neg (by omega), if_neg (by omega), if_neg (by omega), if_pos rfl]
    have f6 : tkH c a b (a + 6) = va_cpy (c (b + 6)) (c (a + 6)) 0 0 6 := by unfold tkH; rw [if_neg (by omega), if_neg (by omega), if_neg (by omega), if_neg (by omega), if_neg (by omega), if_neg (by omega), if_pos rfl]
    have f7 : tkH c a b (a + 7) = va_cpy (c (b + 7)) (c (a + 7)) 0 0 10 := by unfold tkH; rw [if_neg (by omega), if_neg (by omega), if_neg (by omega), if_neg (by omega), if_neg (by omega), if_neg (by omega), if_neg (by omega), if_pos rfl]
    refine ⟨?_, ?_, ?_, fun q hq => ?_, fun q hq => ?_, fun p hp => ?_, fun p q k hp hq hk => ?_, fun k hk => ?_, fun k hk => ?_⟩
    · rw [f0, pk_un (by decide), pk_un (by decide), pk_us]; exact h1
    · rw [f0, pk_un (by decide), pk_us]; exact h2
    · rw [f0, pk_us]; exact h3
    · rw [f1, cpy_at _ _ hq]; exact h4 q hq
    · rw [f2, cpy_at _ _ hq]; exact h5 q hq
    · rw [f3, cpy_at _ _ (by omega)]; exact h6 p hp
    · rw [f4, cpy_at _ _ (by omega)]; exact h7 p q k hp hq hk
    · rw [f5, f6, cpy_at _ _ (by omega), cpy_at _ _ (by omega)]; exact h8 k hk
    · rw [f7, cpy_at _ _ hk]; exact h9 k hk
def cp (f g : Nat → Int32) : Nat → (Nat → Int32)
  | 0 => g
  | j + 1 => upd (cp f g j) j (f j)
theorem cp_at (f g : Nat → Int32) : ∀ n i, i < n → cp f g n i = f i
  | 0, _, h => absurd h (by omega)
  | n + 1, i, h => by
    show upd (cp f g n) n (f n) i = f i
    by_cases e : i = n
    · subst e; exact pk_us
    · rw [pk_un e]; exact cp_at f g n i (by omega)
theorem op_image {c m : zz_H} (hR : Rel c m) : wX4_image c (fun r c' => wX5_image m (fun r' m' => r = r' ∧ Rel c' m')) := by
  obtain ⟨⟨P, C, hW, hM⟩, hK, hF, hT, hS⟩ := id hR
  unfold wX4_image
  refine c_takeFrom (by omega) hM hW.2.1 hW.2.2.2.1 _ (fun c' ho hm => ?_)
  rw [sto_eq]
  have fin : ∀ post : Int32 → zz_H → Prop, post 1 (zz_st (zz_st m 2 (cp (m 1) (m 2) 245)) 0 (upd (m 0) 4 1)) → wX5_image m post := by
    intro post kk
    have this := lp_for (b := fun K (s : Int32 × zz_H) => wX5_image_b2 post K s.1 s.2) 245 (fun j => (nI j, zz_st m 2 (cp (m 1) (m 2) j))) ?_ ?_
    · have e : zz_st m 2 (cp (m 1) (m 2) 0) = m := st_id m 2
      rw [e] at this
      exact this
    · intro j hj K hK
      refine ⟨fun q => absurd q (lt_nle (N := 245) hj (by decide)), fun _ => ⟨in_nI hj (by decide), in_nI hj (by decide), ?_⟩⟩
      dsimp only
      rw [sto_eq, zz_st_self, zz_st_ne _ _ (by decide), nI_clamp (by omega), st_st, nI_1]
      exact hK
    · intro K
      refine ⟨fun _ => ?_, fun z => absurd (show nI 245 ≤ nI 245 from nI_le (Nat.le_refl 245) (by decide)) z⟩
      rw [sto_eq]
      exact kk
  refine fin _ ⟨rfl, ?_⟩
  have e : ∀ k, k ≠ 0 → (k < 9 ∨ 16 < k) → zz_st c' 0 (upd (c' 0) 9 1) k = c k := fun k h1 h2 => by rw [zz_st_ne _ _ h1]; exact ho k (by omega)
  have f : ∀ k, k ≠ 0 → k ≠ 2 → zz_st (zz_st m 2 (cp (m 1) (m 2) 245)) 0 (upd (m 0) 4 1) k = m k := fun k h1 h2 => by rw [zz_st_ne _ _ h1, zz_st_ne _ _ h2]
  have f2 : zz_st (zz_st m 2 (cp (m 1) (m 2) 245)) 0 (upd (m 0) 4 1) 2 = cp (m 1) (m 2) 245 := by rw [zz_st_ne _ _ (by decide), zz_st_self]
  have ex : ∀ i, i < 245 → cp (m 1) (m 2) 245 i = m 1 i := fun i hi => cp_at _ _ _ _ hi
  refine ⟨⟨P, C, by rw [f 1 (by decide) (by decide)]; exact hW, by rw [f 1 (by decide) (by decide)]; exact hM.cong (fun k a b => e k (by omega) (by omega))⟩, Or.inr ⟨by rw [zz_st_self, pk_us], by rw [zz_st_self, pk_us], P, C, ?_, ?_⟩, ?_, hT.cong (by rw [e 29 (by omega) (by omega)]) (e 30 (by omega) (by omega)) (by rw [zz_st_self, pk_un (by decide)]) (f 6 (by decide) (by decide)), hS.cong (fun k a => e k (by omega) (by omega)) (f 7 (by decide) (by decide)) (f 8 (by decide) (by decide)) (f 9 (by decide) (by decide))⟩
  · rw [f2]; exact hW.ext ex
  · rw [f2]
    refine PM.ext ?_ hW.2.1 hW.2.2.2.1 ex
    exact hm.cong (fun k a b => zz_st_ne _ _ (by omega))
  · intro k hk
    rw [e 34 (by omega) (by omega), f 4 (by decide) (by decide)]
    exact hF k hk
theorem op_undo {c m : zz_H} (hR : Rel c m) : wX4_undo c (fun r c' => wX5_undo m (fun r' m' => r = r' ∧ Rel c' m')) := by
  obtain ⟨⟨P, C, hW, hM⟩, hK, hF, hT, hS⟩ := id hR
  unfold wX4_undo wX5_undo
  rcases hK with ⟨k1, k2⟩ | ⟨k1, k2, P', C', hW', hM'⟩
  · rw [k1, k2]
    refine ⟨fun z => absurd rfl z, fun _ => ?_⟩
    rw [tell3]
    refine ⟨fun z => absurd rfl z, fun _ => ?_⟩
    rw [finds3]
    exact ⟨rfl, hR.find (by decide)⟩
  · rw [k1, k2]
    refine ⟨fun _ => c_takeFrom (by omega) hM' hW'.2.1 hW'.2.2.2.1 _ (fun c' ho hm => ⟨fun _ => ?_, fun z => absurd z (by decide)⟩), fun z => absurd z (by decide)⟩
    have fin : ∀ post : Int32 → zz_H → Prop, post (nI P') (zz_st m 1 (cp (m 2) (m 1) 245)) → ∃ t9, zz_lp (fun K (s : Int32 × zz_H) => wX5_undo_b16 post K s.1 s.2) t9 (0, m) := by
      intro post kk
      have this := lp_for (b := fun K (s : Int32 × zz_H) => wX5_undo_b16 post K s.1 s.2) 245 (fun j => (nI j, zz_st m 1 (cp (m 2) (m 1) j))) ?_ ?_
      · have e : zz_st m 1 (cp (m 2) (m 1) 0) = m := st_id m 1
        rw [e] at this
        exact this
      · intro j hj K hK
        refine ⟨fun q => absurd q (lt_nle (N := 245) hj (by decide)), fun _ => ⟨in_nI hj (by decide), in_nI hj (by decide), ?_⟩⟩
        dsimp only
        rw [sto_eq, zz_st_self, zz_st_ne _ _ (by decide), nI_clamp (by omega), st_st, nI_1]
        exact hK
      · intro K
        have e17 : cp (m 2) (m 1) 245 17 = nI P' := (cp_at _ _ _ _ (by decide)).trans hW'.1
        generalize cp (m 2) (m 1) 245 = g at kk e17 ⊢
        refine ⟨fun _ => ?_, fun z => absurd (show nI 245 ≤ nI 245 from nI_le (Nat.le_refl 245) (by decide)) z⟩
        show post (zz_st m 1 g 1 17) _
        rw [zz_st_self, e17]
        exact kk
    have ex : ∀ i, i < 245 → cp (m 2) (m 1) 245 i = m 2 i := fun i hi => cp_at _ _ _ _ hi
    exact fin _ ⟨hm.1, hR.paper (hW'.ext ex) (hm.ext hW'.2.1 hW'.2.2.2.1 ex) ho⟩
/-! worths -/
theorem PM.worth {c : zz_H} {a : Nat} {s : Nat → Int32} {P C q0 : Nat} (h : PM c a s P C) (v : Int32) (hq0 : q0 < 8) : PM (zz_st c (a + 1) (upd (c (a + 1)) q0 v)) a (upd s q0 v) P C := by
  obtain ⟨h1, h2, h3, h4, h5, h6, h7, h8, h9⟩ := h
  have e : ∀ j, j ≠ a + 1 → zz_st c (a + 1) (upd (c (a + 1)) q0 v) j = c j := fun j hj => zz_st_ne _ _ hj
  refine ⟨?_, ?_, ?_, fun q hq => ?_, fun q hq => ?_, fun p hp => ?_, fun p q k hp hq hk => ?_, fun k hk => ?_, fun k hk => ?_⟩
  · rw [e a (by omega)]; exact h1
  · rw [e a (by omega)]; exact h2
  · rw [e a (by omega), pk_un (by omega)]; exact h3
  · rw [zz_st_self]
    by_cases e2 : q = q0
    · subst e2; rw [pk_us, pk_us]
    · rw [pk_un e2, pk_un (by omega)]; exact h4 q hq
  · rw [e _ (by omega), pk_un (by omega)]; exact h5 q hq
  · rw [e _ (by omega), pk_un (by omega)]; exact h6 p hp
  · rw [e _ (by omega), pk_un (by omega)]; exact h7 p q k hp hq hk
  · rw [e _ (by omega), e _ (by omega), pk_un (by omega), pk_un (by omega)]; exact h8 k hk
  · rw [e _ (by omega), pk_un (by omega)]; exact h9 k hk
def wkS (q p : Nat) (v : Int32) (s : Nat → Int32) : Nat → (Nat → Int32)
  | 0 => s
  | k + 1 => upd (wkS q p v s k) (20 + 17 * p + 8 * k + q) (zz_min (wkS q p v s k (20 + 17 * p + 8 * k + q)) v)
def wpS (q : Nat) (v : Int32) (s : Nat → Int32) : Nat → (Nat → Int32)
  | 0 => s
  | p + 1 => wkS q p v (wpS q v s p) 2
theorem wk_ne {q p : Nat} {v : Int32} {s : Nat → Int32} {i : Nat} : ∀ {j : Nat}, (∀ k, k < j → i ≠ 20 + 17 * p + 8 * k + q) → wkS q p v s j i = s i
  | 0, _ => rfl
  | j + 1, h => by
    show upd (wkS q p v s j) (20 + 17 * p + 8 * j + q) _ i = s i
    rw [pk_un (h j (by omega))]
    exact wk_ne (fun k hk => h k (by omega))
theorem wk_at {q p : Nat} {v : Int32} {s : Nat → Int32} {k : Nat} : ∀ {j : Nat}, k < j → wkS q p v s j (20 + 17 * p + 8 * k + q) = zz_min (s (20 + 17 * p + 8 * k + q)) v
  | 0, h => absurd h (by omega)
  | j + 1, h => by
    show upd (wkS q p v s j) (20 + 17 * p + 8 * j + q) _ (20 + 17 * p + 8 * k + q) = _
    by_cases e : k = j
    · subst e
      rw [pk_us, wk_ne (fun k' hk' => by omega)]
    · rw [pk_un (by omega)]
      exact wk_at (by omega)
theorem wp_ne {q : Nat} {v : Int32} {s : Nat → Int32} {i : Nat} : ∀ {j : Nat}, (∀ p k, p < j → k < 2 → i ≠ 20 + 17 * p + 8 * k + q) → wpS q v s j i = s i
  | 0, _ => rfl
  | j + 1, h => by
    show wkS q j v (wpS q v s j) 2 i = s i
    rw [wk_ne (fun k hk => h j k (by omega) hk)]
    exact wp_ne (fun p k hp hk => h p k (by omega) hk)
theorem wp_at {q : Nat} (hq : q < 8) {v : Int32} {s : Nat → Int32} {p k : Nat} (hk : k < 2) : ∀ {j : Nat}, p < j → wpS q v s j (20 + 17 * p + 8 * k + q) = zz_min (s (20 + 17 * p + 8 * k + q)) v
  | 0, h => absurd h (by omega)
  | j + 1, h => by
    show wkS q j v (wpS q v s j) 2 (20 + 17 * p + 8 * k + q) = _
    by_cases e : p = j
    · subst e
      rw [wk_at hk, wp_ne (fun p' k' hp' hk' => ne_pt hq hq hk hk' (by omega))]
    · rw [wk_ne (fun k' hk' => ne_pt hq hq hk hk' (by omega))]
      exact wp_at hq hk (by omega)
theorem min_zb {x v : Int32} {B : Int} (hx : zb x 0 B) (hv : 0 ≤ v.toInt) : zb (zz_min x v) 0 v.toInt := by
  obtain ⟨h1, h2⟩ := hx
  unfold zb
  rw [min_toInt]
  omega
theorem WF.worth {s : Nat → Int32} {P C q0 : Nat} {v : Int32} (h : WF s P C) (hq0 : q0 < 8) (hv : zb v 0 40) : WF (wpS q0 v (upd s q0 v) P) P C := by
  obtain ⟨h1, h2, h3, h4, h5, h6, h7, h8, h9, h10⟩ := h
  have e : ∀ i, i ≠ q0 → (∀ p k, p < P → k < 2 → i ≠ 20 + 17 * p + 8 * k + q0) → wpS q0 v (upd s q0 v) P i = s i := fun i a b => by rw [wp_ne b, pk_un a]
  refine ⟨by rw [e _ (by omega) (fun p k hp hk => by omega)]; exact h1, h2, by rw [e _ (by omega) (fun p k hp hk => by omega)]; exact h3, h4, fun q hq => ?_, fun q hq => ?_, fun p hp => ?_, fun p q k hp hq hk => ?_, fun k hk => ?_, fun k hk => ?_⟩
  · by_cases eq : q = q0
    · subst eq; rw [wp_ne (fun p k hp hk => by omega), pk_us]; exact hv
    · rw [e _ eq (fun p k hp hk => by omega)]; exact h5 q hq
  · rw [e _ (by omega) (fun p k hp hk => by omega)]; exact h6 q hq
  · rw [e _ (by omega) (fun p k hp hk => ne_pc hq0 hk)]; exact h7 p hp
  · by_cases eq : q = q0
    · subst eq
      rw [wp_at hq hk hp, wp_ne (fun p k hp hk => by omega), pk_us, pk_un (by omega)]
      exact min_zb (h8 p q k hp hq hk) hv.1
    · rw [e _ (by omega) (fun p' k' hp' hk' => ne_pt hq hq0 hk hk' (by omega)), e q eq (fun p k hp hk => by omega)]
      exact h8 p q k hp hq hk
  · rw [e _ (by omega) (fun p k hp hk => by omega), e _ (by omega) (fun p k hp hk => by omega)]; exact h9 k hk
  · rw [e _ (by omega) (fun p k hp hk => by omega)]; exact h10 k hk
theorem c_setWorth {c : zz_H} {a : Nat} {s : Nat → Int32} {P C q : Nat} (hM : PM c a s P C) (bP : P ≤ 12) (bC : C ≤ 6) (hq : q < 8) (v : Int32) (post : Int32 → zz_H → Prop) (k : ∀ c', OP a c c' → PM c' a (wpS q v (upd s q v) P) P C → post 0 c') : wX0_setWorth a (nI q) v c post := by
  refine ⟨in_nI hq (by decide), ?_⟩
  rw [sto_eq, nI_clamp (by omega)]
  refine lp_inv P (fun j z => z.1 = nI j ∧ OP a c z.2 ∧ PM z.2 a (wpS q v (upd s q v) j) P C) ⟨rfl, (OP.rf a c).st (by omega) _, hM.worth v hq⟩ ?_ ?_
  · rintro j ⟨x, h⟩ K hj ⟨e1, ho, hm⟩ hK
    dsimp only at e1 ho hm
    subst e1
    refine ⟨fun z => absurd (show nI P ≤ nI j from hm.1 ▸ z) (lt_nle hj (by omega)), fun _ => ?_⟩
    have hK : ∀ s', (s'.1 = nI (j + 1) ∧ OP a c s'.2 ∧ PM s'.2 a (wkS q j v (wpS q v (upd s q v) j) 2) P C) → K s' := hK
    generalize wpS q v (upd s q v) j = y at hm hK
    refine lp_inv 2 (fun i z => z.1 = nI i ∧ OP a c z.2 ∧ PM z.2 a (wkS q j v y i) P C) ⟨rfl, ho, hm⟩ ?_ ?_
    · rintro i ⟨x, h'⟩ K' hi ⟨e1, ho, hm⟩ hK'
      dsimp only at e1 ho hm
      subst e1
      refine ⟨fun z => absurd z (lt_nle (N := 2) hi (by decide)), fun _ => ?_⟩
      rw [spot_eq, ix_spot, nI_clamp (by omega), sto_eq]
      refine ⟨in_nI (by omega) (by decide), in_nI (by omega) (by decide), hK' _ ⟨nI_1 i, ho.st (by omega) _, ?_⟩⟩
      dsimp only
      show PM _ a (upd (wkS q j v y i) (20 + 17 * j + 8 * i + q) (zz_min (wkS q j v y i (20 + 17 * j + 8 * i + q)) v)) P C
      rw [show h' (a + 4) (16 * j + 2 * q + i) = wkS q j v y i (20 + 17 * j + 8 * i + q) from hm.2.2.2.2.2.2.1 j q i hj hq hi]
      exact hm.point _ bP bC hj hq hi
    · rintro ⟨x, h'⟩ K' ⟨e1, ho, hm⟩
      dsimp only at e1 ho hm
      subst e1
      exact ⟨fun _ => hK _ ⟨nI_1 j, ho, hm⟩, fun z => absurd (show nI 2 ≤ nI 2 from nI_le (Nat.le_refl 2) (by decide)) z⟩
  · rintro ⟨x, h⟩ K ⟨e1, ho, hm⟩
    dsimp only at e1 ho hm
    subst e1
    exact ⟨fun _ => k _ ho hm, fun z => absurd (show h a 7 ≤ nI P from hm.1 ▸ nI_le (Nat.le_refl P) (by omega)) z⟩
theorem m_worths {m : zz_H} {P q : Nat} (e : m 1 17 = nI P) (bP : P ≤ 12) (hq : q < 8) (v : Int32) (post : Int32 → zz_H → Prop) (k : post 0 (zz_st m 1 (wpS q v (upd (m 1) q v) P))) : wX5_worths (nI q) v m post := by
  unfold wX5_worths
  rw [ix_0]
  refine ⟨in_nI (by omega) (by decide), ?_⟩
  rw [sto_eq, nI_clamp (by omega)]
  have e17 : ∀ j, wpS q v (upd (m 1) q v) j 17 = nI P := fun j => by rw [wp_ne (fun p k hp hk => by omega), pk_un (by omega)]; exact e
  refine lp_for P (fun j => (nI j, zz_st m 1 (wpS q v (upd (m 1) q v) j))) ?_ ?_
  · intro j hj K hK
    refine ⟨fun z => ?_, fun _ => ?_⟩
    · have z : zz_st m 1 (wpS q v (upd (m 1) q v) j) 1 17 ≤ nI j := z
      rw [zz_st_self, e17] at z
      exact absurd z (lt_nle hj (by omega))
    have hK : K (nI (j + 1), zz_st m 1 (wkS q j v (wpS q v (upd (m 1) q v) j) 2)) := hK
    generalize wpS q v (upd (m 1) q v) j = y at hK ⊢
    refine lp_for 2 (fun i => (nI i, zz_st m 1 (wkS q j v y i))) ?_ ?_
    · intro i hi K' hK'
      refine ⟨fun z => absurd z (lt_nle (N := 2) hi (by decide)), fun _ => ?_⟩
      have hK' : K' (nI (i + 1), zz_st m 1 (upd (wkS q j v y i) (20 + 17 * j + 8 * i + q) (zz_min (wkS q j v y i (20 + 17 * j + 8 * i + q)) v))) := hK'
      generalize wkS q j v y i = u at hK' ⊢
      simp only [at_eq, sto_eq]
      rw [ix_at, nI_clamp (by omega), zz_st_self, st_st, st_st, nI_1]
      have v1 : vp_in (nI (20 + 17 * j + 8 * i + q)) 245 := in_nI (by omega) (by decide)
      refine ⟨v1, fun z => ⟨v1, v1, ?_⟩, fun z => ⟨v1, ?_⟩⟩
      · unfold zz_min at hK'
        rw [if_neg (fun w => (fa_of_lt w).2.1 z)] at hK'
        exact hK'
      · unfold zz_min at hK'
        rw [if_pos (fa_of_nle z)] at hK'
        exact hK'
    · intro K'
      refine ⟨fun _ => ?_, fun z => absurd (show nI 2 ≤ nI 2 from nI_le (Nat.le_refl 2) (by decide)) z⟩
      show K (nI j + 1, _)
      rw [nI_1]
      exact hK
  · intro K
    refine ⟨fun _ => k, fun z => absurd ?_ z⟩
    show zz_st m 1 (wpS q v (upd (m 1) q v) P) 1 17 ≤ nI P
    rw [zz_st_self, e17]
    exact nI_le (Nat.le_refl P) (by omega)
set_option maxRecDepth 20000 in
set_option maxHeartbeats 4000000 in
theorem op_worth {c m : zz_H} (hR : Rel c m) (p1 : Int32) (p2 : Int32) : wX4_worth p1 p2 c (fun r c' => wX5_worth p1 p2 m (fun r' m' => r = r' ∧ Rel c' m')) := by
  obtain ⟨⟨P, C, hW, hM⟩, hK, hF, hT, hS⟩ := id hR
  have eP : c 1 7 = nI P := hM.1
  have eC : c 1 8 = nI C := hM.2.1
  have eP' : m 1 17 = nI P := hW.1
  have eC' : m 1 18 = nI C := hW.2.2.1
  have bP : P ≤ 12 := hW.2.1
  have bC : C ≤ 6 := hW.2.2.2.1
  unfold wX4_worth wX5_worth 
  by_cases h0 : (0 : Int32) ≤ p1 ∧ p1 ≤ 7
  case neg =>
    simp only [tell0, tell1, tell2, tell3, tell4, tell5, tell6, finds0, finds1, finds2, finds3, finds4, finds5, finds6, c_isQuestion, c_isMarker, c_isKind, c_isBy, c_isLine, c_isSpot, c_isSheet, c_isPupil, c_isCurve, m_isQuestion, m_isLine, m_isOne, m_isPupil, m_isCurve, within_eq, in_eq, wl_ge0, wl_ge1, wl_le1, wl_le3, wl_le4, wl_le5, wl_le6, wl_le7, wl_le9, wl_le12, wl_le40, wl_le100, wl_le400, wl_gem1, wl_ww, zz_10, not_false_eq_true, not_true_eq_false, true_and, and_true, false_implies, true_implies, forall_const, eP, eC, eP', eC', if_neg h0]
    exact hR.find (i := 0) (by decide)
  by_cases h1 : (0 : Int32) ≤ p2 ∧ p2 ≤ 40
  case neg =>
    simp only [tell0, tell1, tell2, tell3, tell4, tell5, tell6, finds0, finds1, finds2, finds3, finds4, finds5, finds6, c_isQuestion, c_isMarker, c_isKind, c_isBy, c_isLine, c_isSpot, c_isSheet, c_isPupil, c_isCurve, m_isQuestion, m_isLine, m_isOne, m_isPupil, m_isCurve, within_eq, in_eq, wl_ge0, wl_ge1, wl_le1, wl_le3, wl_le4, wl_le5, wl_le6, wl_le7, wl_le9, wl_le12, wl_le40, wl_le100, wl_le400, wl_gem1, wl_ww, zz_10, not_false_eq_true, not_true_eq_false, true_and, and_true, false_implies, true_implies, forall_const, eP, eC, eP', eC', if_pos h0, if_neg h1]
    exact hR.find (i := 0) (by decide)
  simp only [tell0, tell1, tell2, tell3, tell4, tell5, tell6, finds0, finds1, finds2, finds3, finds4, finds5, finds6, c_isQuestion, c_isMarker, c_isKind, c_isBy, c_isLine, c_isSpot, c_isSheet, c_isPupil, c_isCurve, m_isQuestion, m_isLine, m_isOne, m_isPupil, m_isCurve, within_eq, in_eq, wl_ge0, wl_ge1, wl_le1, wl_le3, wl_le4, wl_le5, wl_le6, wl_le7, wl_le9, wl_le12, wl_le40, wl_le100, wl_le400, wl_gem1, wl_ww, zz_10, not_false_eq_true, not_true_eq_false, true_and, and_true, false_implies, true_implies, forall_const, eP, eC, eP', eC', if_pos h0, if_pos h1]
  obtain ⟨q, hq, rfl⟩ := idx_le (n := 7) (by decide) h0
  rw [ix_0, nI_clamp (by omega)]
  refine ⟨in_nI (by omega) (by decide), c_setWorth hM bP bC (by omega) p2 _ (fun c' ho hm => ⟨in_nI (by omega) (by decide), m_worths eP' bP (by omega) p2 _ ?_⟩)⟩
  exact ⟨hM.2.2.2.1 q (by omega), hR.paper (hW.worth (by omega) (rng_zb h1 rfl rfl)) hm ho⟩
