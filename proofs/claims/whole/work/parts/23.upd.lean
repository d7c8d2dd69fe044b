/-! places, and how a paper changes -/
theorem ix_spot (p q k : Nat) : (nI p * 8 + nI q) * 2 + nI k = nI (16 * p + 2 * q + k) := by
  show (nI p * nI 8 + nI q) * nI 2 + nI k = _
  rw [pk_mul, nI_add, pk_mul, nI_add]; congr 1; omega
theorem ix_at (p k q : Nat) : (19 : Int32) + 17 * nI p + 1 + 8 * nI k + nI q = nI (20 + 17 * p + 8 * k + q) := by
  show nI 19 + nI 17 * nI p + nI 1 + nI 8 * nI k + nI q = _
  rw [pk_mul, pk_mul, nI_add, nI_add, nI_add, nI_add]; congr 1; omega
theorem ix_kind (k : Nat) : (223 : Int32) + 2 * nI k = nI (223 + 2 * k) := by
  show nI 223 + nI 2 * nI k = _
  rw [pk_mul, nI_add]
theorem ix_by (k : Nat) : (223 : Int32) + 2 * nI k + 1 = nI (224 + 2 * k) := by
  rw [ix_kind]
  show nI (223 + 2 * k) + nI 1 = _
  rw [nI_add]; congr 1; omega
theorem ix_pup (p : Nat) : (19 : Int32) + 17 * nI p = nI (19 + 17 * p) := by
  show nI 19 + nI 17 * nI p = _
  rw [pk_mul, nI_add]
theorem ix_old (q : Nat) : (8 : Int32) + nI q = nI (8 + q) := nI_add 8 q
theorem ix_spt (q : Nat) : (235 : Int32) + nI q = nI (235 + q) := nI_add 235 q
theorem ix_0 (x : Int32) : (0 : Int32) + x = x := Int32.zero_add x
theorem idx_of {x : Int32} {n : Nat} (hn : n < 1000000) (h : 0 ≤ x ∧ x ≤ nI n - 1) : ∃ j : Nat, j < n ∧ x = nI j := by
  obtain ⟨h1, h2⟩ := h
  rw [fa_le] at h1 h2
  have e : (nI n - 1).toInt = (n : Int) - 1 := pk_sub_toInt (a := n) (b := 1) (by omega) (by omega)
  rw [e] at h2
  have h0 : (0 : Int32).toInt = 0 := rfl
  rw [h0] at h1
  obtain ⟨j, h3, h4⟩ := zb_nI (x := x) (n := n - 1) ⟨h1, by omega⟩
  exact ⟨j, by omega, h4⟩
theorem idx_le {x : Int32} {n : Nat} (hn : n < 1000000) (h : 0 ≤ x ∧ x ≤ nI n) : ∃ j : Nat, j ≤ n ∧ x = nI j := by
  obtain ⟨h1, h2⟩ := h
  rw [fa_le] at h1 h2
  rw [nI_toInt (by omega)] at h2
  exact zb_nI ⟨h1, h2⟩
theorem rng_zb {x lo hi : Int32} {l u : Int} (h : lo ≤ x ∧ x ≤ hi) (h1 : lo.toInt = l) (h2 : hi.toInt = u) : zb x l u := by
  obtain ⟨a, b⟩ := h
  rw [fa_le] at a b
  exact ⟨by omega, by omega⟩
theorem zz_10 : ((1 : Int32) = 0) = False := by decide
theorem PM.st {c : zz_H} {a k : Nat} {g : Nat → Int32} {s : Nat → Int32} {P C : Nat} (h : PM c a s P C) (hk : k < a ∨ a + 7 < k) : PM (zz_st c k g) a s P C := h.cong (fun j h1 h2 => zz_st_ne _ _ (by omega))
theorem WF.seed {s : Nat → Int32} {P C : Nat} (h : WF s P C) (v : Int32) : WF (upd s 16 v) P C := by
  obtain ⟨h1, h2, h3, h4, h5, h6, h7, h8, h9, h10⟩ := h
  refine ⟨h1, h2, h3, h4, fun q hq => ?_, fun q hq => ?_, fun p hp => ?_, fun p q k hp hq hk => ?_, fun k hk => ?_, fun k hk => ?_⟩
  · rw [pk_un (by omega)]; exact h5 q hq
  · rw [pk_un (by omega)]; exact h6 q hq
  · rw [pk_un (by omega)]; exact h7 p hp
  · rw [pk_un (by omega), pk_un (by omega)]; exact h8 p q k hp hq hk
  · rw [pk_un (by omega), pk_un (by omega)]; exact h9 k hk
  · rw [pk_un (by omega)]; exact h10 k hk
theorem PM.seed {c : zz_H} {a : Nat} {s : Nat → Int32} {P C : Nat} (h : PM c a s P C) (v : Int32) : PM (zz_st c a (upd (c a) 9 v)) a (upd s 16 v) P C := by
  obtain ⟨h1, h2, h3, h4, h5, h6, h7, h8, h9⟩ := h
  have e : ∀ j, zz_st c a (upd (c a) 9 v) (a + (j + 1)) = c (a + (j + 1)) := fun j => zz_st_ne _ _ (by omega)
  refine ⟨?_, ?_, ?_, fun q hq => ?_, fun q hq => ?_, fun p hp => ?_, fun p q k hp hq hk => ?_, fun k hk => ?_, fun k hk => ?_⟩
  · rw [zz_st_self, pk_un (by decide)]; exact h1
  · rw [zz_st_self, pk_un (by decide)]; exact h2
  · rw [zz_st_self, pk_us, pk_us]
  · rw [e 0, pk_un (by omega)]; exact h4 q hq
  · rw [e 1, pk_un (by omega)]; exact h5 q hq
  · rw [e 2, pk_un (by omega)]; exact h6 p hp
  · rw [e 3, pk_un (by omega)]; exact h7 p q k hp hq hk
  · rw [e 4, e 5, pk_un (by omega), pk_un (by omega)]; exact h8 k hk
  · rw [e 6, pk_un (by omega)]; exact h9 k hk
theorem WF.drop {s : Nat → Int32} {P C : Nat} (h : WF s (P + 1) C) : WF (upd s 17 (nI P)) P C := by
  obtain ⟨h1, h2, h3, h4, h5, h6, h7, h8, h9, h10⟩ := h
  refine ⟨pk_us, by omega, h3, h4, fun q hq => ?_, fun q hq => ?_, fun p hp => ?_, fun p q k hp hq hk => ?_, fun k hk => ?_, fun k hk => ?_⟩
  · rw [pk_un (by omega)]; exact h5 q hq
  · rw [pk_un (by omega)]; exact h6 q hq
  · rw [pk_un (by omega)]; exact h7 p (by omega)
  · rw [pk_un (by omega), pk_un (by omega)]; exact h8 p q k (by omega) hq hk
  · rw [pk_un (by omega), pk_un (by omega)]; exact h9 k hk
  · rw [pk_un (by omega)]; exact h10 k hk
theorem PM.drop {c : zz_H} {a : Nat} {s : Nat → Int32} {P C : Nat} (h : PM c a s (P + 1) C) : PM (zz_st c a (upd (c a) 7 (nI P))) a (upd s 17 (nI P)) P C := by
  obtain ⟨h1, h2, h3, h4, h5, h6, h7, h8, h9⟩ := h
  have e : ∀ j, zz_st c a (upd (c a) 7 (nI P)) (a + (j + 1)) = c (a + (j + 1)) := fun j => zz_st_ne _ _ (by omega)
  refine ⟨?_, ?_, ?_, fun q hq => ?_, fun q hq => ?_, fun p hp => ?_, fun p q k hp hq hk => ?_, fun k hk => ?_, fun k hk => ?_⟩
  · rw [zz_st_self, pk_us]
  · rw [zz_st_self, pk_un (by decide)]; exact h2
  · rw [zz_st_self, pk_un (by decide), pk_un (by decide)]; exact h3
  · rw [e 0, pk_un (by omega)]; exact h4 q hq
  · rw [e 1, pk_un (by omega)]; exact h5 q hq
  · rw [e 2, pk_un (by omega)]; exact h6 p (by omega)
  · rw [e 3, pk_un (by omega)]; exact h7 p q k (by omega) hq hk
  · rw [e 4, e 5, pk_un (by omega), pk_un (by omega)]; exact h8 k hk
  · rw [e 6, pk_un (by omega)]; exact h9 k hk
theorem WF.old {s : Nat → Int32} {P C q0 : Nat} {v : Int32} (h : WF s P C) (hq0 : q0 < 8) (hv : zb v (-1) 400) : WF (upd s (8 + q0) v) P C := by
  obtain ⟨h1, h2, h3, h4, h5, h6, h7, h8, h9, h10⟩ := h
  refine ⟨by rw [pk_un (by omega)]; exact h1, h2, by rw [pk_un (by omega)]; exact h3, h4, fun q hq => ?_, fun q hq => ?_, fun p hp => ?_, fun p q k hp hq hk => ?_, fun k hk => ?_, fun k hk => ?_⟩
  · rw [pk_un (by omega)]; exact h5 q hq
  · by_cases e : q = q0
    · subst e; rw [pk_us]; exact hv
    · rw [pk_un (by omega)]; exact h6 q hq
  · rw [pk_un (by omega)]; exact h7 p hp
  · rw [pk_un (by omega), pk_un (by omega)]; exact h8 p q k hp hq hk
  · rw [pk_un (by omega), pk_un (by omega)]; exact h9 k hk
  · rw [pk_un (by omega)]; exact h10 k hk
theorem PM.old {c : zz_H} {a : Nat} {s : Nat → Int32} {P C q0 : Nat} (h : PM c a s P C) (v : Int32) (hq0 : q0 < 8) : PM (zz_st c (a + 2) (upd (c (a + 2)) q0 v)) a (upd s (8 + q0) v) P C := by
  obtain ⟨h1, h2, h3, h4, h5, h6, h7, h8, h9⟩ := h
  have e : ∀ j, j ≠ a + 2 → zz_st c (a + 2) (upd (c (a + 2)) q0 v) j = c j := fun j hj => zz_st_ne _ _ hj
  refine ⟨?_, ?_, ?_, fun q hq => ?_, fun q hq => ?_, fun p hp => ?_, fun p q k hp hq hk => ?_, fun k hk => ?_, fun k hk => ?_⟩
  · rw [e a (by omega)]; exact h1
  · rw [e a (by omega)]; exact h2
  · rw [e a (by omega), pk_un (by omega)]; exact h3
  · rw [e _ (by omega), pk_un (by omega)]; exact h4 q hq
  · rw [zz_st_self]
    by_cases e2 : q = q0
    · subst e2; rw [pk_us, pk_us]
    · rw [pk_un e2, pk_un (by omega)]; exact h5 q hq
  · rw [e _ (by omega), pk_un (by omega)]; exact h6 p hp
  · rw [e _ (by omega), pk_un (by omega)]; exact h7 p q k hp hq hk
  · rw [e _ (by omega), e _ (by omega), pk_un (by omega), pk_un (by omega)]; exact h8 k hk
  · rw [e _ (by omega), pk_un (by omega)]; exact h9 k hk
theorem WF.kind {s : Nat → Int32} {P C k0 : Nat} {v : Int32} (h : WF s P C) (hk0 : k0 < C) (hv : zb v 0 6) : WF (upd s (223 + 2 * k0) v) P C := by
  obtain ⟨h1, h2, h3, h4, h5, h6, h7, h8, h9, h10⟩ := h
  refine ⟨by rw [pk_un (by omega)]; exact h1, h2, by rw [pk_un (by omega)]; exact h3, h4, fun q hq => ?_, fun q hq => ?_, fun p hp => ?_, fun p q k hp hq hk => ?_, fun k hk => ?_, fun k hk => ?_⟩
  · rw [pk_un (by omega)]; exact h5 q hq
  · rw [pk_un (by omega)]; exact h6 q hq
  · rw [pk_un (by omega)]; exact h7 p hp
  · rw [pk_un (by omega), pk_un (by omega)]; exact h8 p q k hp hq hk
  · rw [pk_un (show 224 + 2 * k ≠ 223 + 2 * k0 by omega)]
    by_cases e : k = k0
    · subst e; rw [pk_us]; exact ⟨hv, (h9 k hk).2⟩
    · rw [pk_un (by omega)]; exact h9 k hk
  · rw [pk_un (by omega)]; exact h10 k hk
theorem PM.kind {c : zz_H} {a : Nat} {s : Nat → Int32} {P C k0 : Nat} (h : PM c a s P C) (v : Int32) (hP : P ≤ 12) (hC : C ≤ 6) (hk0 : k0 < C) : PM (zz_st c (a + 5) (upd (c (a + 5)) k0 v)) a (upd s (223 + 2 * k0) v) P C := by
  obtain ⟨h1, h2, h3, h4, h5, h6, h7, h8, h9⟩ := h
  have e : ∀ j, j ≠ a + 5 → zz_st c (a + 5) (upd (c (a + 5)) k0 v) j = c j := fun j hj => zz_st_ne _ _ hj
  refine ⟨?_, ?_, ?_, fun q hq => ?_, fun q hq => ?_, fun p hp => ?_, fun p q k hp hq hk => ?_, fun k hk => ?_, fun k hk => ?_⟩
  · rw [e a (by omega)]; exact h1
  · rw [e a (by omega)]; exact h2
  · rw [e a (by omega), pk_un (by omega)]; exact h3
  · rw [e _ (by omega), pk_un (by omega)]; exact h4 q hq
  · rw [e _ (by omega), pk_un (by omega)]; exact h5 q hq
  · rw [e _ (by omega), pk_un (by omega)]; exact h6 p hp
  · rw [e _ (by omega), pk_un (by omega)]; exact h7 p q k hp hq hk
  · rw [zz_st_self, e _ (by omega), pk_un (show 224 + 2 * k ≠ 223 + 2 * k0 by omega)]
    by_cases e2 : k = k0
    · subst e2; rw [pk_us, pk_us]; exact ⟨rfl, (h8 k hk).2⟩
    · rw [pk_un e2, pk_un (by omega)]; exact h8 k hk
  · rw [e _ (by omega), pk_un (by omega)]; exact h9 k hk
theorem WF.by' {s : Nat → Int32} {P C k0 : Nat} {v : Int32} (h : WF s P C) (hk0 : k0 < C) (hv : zb v 0 100) : WF (upd s (224 + 2 * k0) v) P C := by
  obtain ⟨h1, h2, h3, h4, h5, h6, h7, h8, h9, h10⟩ := h
  refine ⟨by rw [pk_un (by omega)]; exact h1, h2, by rw [pk_un (by omega)]; exact h3, h4, fun q hq => ?_, fun q hq => ?_, fun p hp => ?_, fun p q k hp hq hk => ?_, fun k hk => ?_, fun k hk => ?_⟩
  · rw [pk_un (by omega)]; exact h5 q hq
  · rw [pk_un (by omega)]; exact h6 q hq
  · rw [pk_un (by omega)]; exact h7 p hp
  · rw [pk_un (by omega), pk_un (by omega)]; exact h8 p q k hp hq hk
  · rw [pk_un (show 223 + 2 * k ≠ 224 + 2 * k0 by omega)]
    by_cases e : k = k0
    · subst e; rw [pk_us]; exact ⟨(h9 k hk).1, hv⟩
    · rw [pk_un (by omega)]; exact h9 k hk
  · rw [pk_un (by omega)]; exact h10 k hk
theorem PM.by' {c : zz_H} {a : Nat} {s : Nat → Int32} {P C k0 : Nat} (h : PM c a s P C) (v : Int32) (hP : P ≤ 12) (hC : C ≤ 6) (hk0 : k0 < C) : PM (zz_st c (a + 6) (upd (c (a + 6)) k0 v)) a (upd s (224 + 2 * k0) v) P C := by
  obtain ⟨h1, h2, h3, h4, h5, h6, h7, h8, h9⟩ := h
  have e : ∀ j, j ≠ a + 6 → zz_st c (a + 6) (upd (c (a + 6)) k0 v) j = c j := fun j hj => zz_st_ne _ _ hj
  refine ⟨?_, ?_, ?_, fun q hq => ?_, fun q hq => ?_, fun p hp => ?_, fun p q k hp hq hk => ?_, fun k hk => ?_, fun k hk => ?_⟩
  · rw [e a (by omega)]; exact h1
  · rw [e a (by omega)]; exact h2
  · rw [e a (by omega), pk_un (by omega)]; exact h3
  · rw [e _ (by omega), pk_un (by omega)]; exact h4 q hq
  · rw [e _ (by omega), pk_un (by omega)]; exact h5 q hq
  · rw [e _ (by omega), pk_un (by omega)]; exact h6 p hp
  · rw [e _ (by omega), pk_un (by omega)]; exact h7 p q k hp hq hk
  · rw [zz_st_self, e _ (by omega), pk_un (show 223 + 2 * k ≠ 224 + 2 * k0 by omega)]
    by_cases e2 : k = k0
    · subst e2; rw [pk_us, pk_us]; exact ⟨(h8 k hk).1, rfl⟩
    · rw [pk_un e2, pk_un (by omega)]; exact h8 k hk
  · rw [e _ (by omega), pk_un (by omega)]; exact h9 k hk
theorem WF.spot {s : Nat → Int32} {P C k0 : Nat} {v : Int32} (h : WF s P C) (hk0 : k0 < 10) (hv : zb v (-1) ((C : Int) - 1)) : WF (upd s (235 + k0) v) P C := by
  obtain ⟨h1, h2, h3, h4, h5, h6, h7, h8, h9, h10⟩ := h
  refine ⟨by rw [pk_un (by omega)]; exact h1, h2, by rw [pk_un (by omega)]; exact h3, h4, fun q hq => ?_, fun q hq => ?_, fun p hp => ?_, fun p q k hp hq hk => ?_, fun k hk => ?_, fun k hk => ?_⟩
  · rw [pk_un (by omega)]; exact h5 q hq
  · rw [pk_un (by omega)]; exact h6 q hq
  · rw [pk_un (by omega)]; exact h7 p hp
  · rw [pk_un (by omega), pk_un (by omega)]; exact h8 p q k hp hq hk
  · rw [pk_un (by omega), pk_un (by omega)]; exact h9 k hk
  · by_cases e : k = k0
    · subst e; rw [pk_us]; exact hv
    · rw [pk_un (by omega)]; exact h10 k hk
theorem PM.spot {c : zz_H} {a : Nat} {s : Nat → Int32} {P C k0 : Nat} (h : PM c a s P C) (v : Int32) (hP : P ≤ 12) (hC : C ≤ 6) (hk0 : k0 < 10) : PM (zz_st c (a + 7) (upd (c (a + 7)) k0 v)) a (upd s (235 + k0) v) P C := by
  obtain ⟨h1, h2, h3, h4, h5, h6, h7, h8, h9⟩ := h
  have e : ∀ j, j ≠ a + 7 → zz_st c (a + 7) (upd (c (a + 7)) k0 v) j = c j := fun j hj => zz_st_ne _ _ hj
  refine ⟨?_, ?_, ?_, fun q hq => ?_, fun q hq => ?_, fun p hp => ?_, fun p q k hp hq hk => ?_, fun k hk => ?_, fun k hk => ?_⟩
  · rw [e a (by omega)]; exact h1
  · rw [e a (by omega)]; exact h2
  · rw [e a (by omega), pk_un (by omega)]; exact h3
  · rw [e _ (by omega), pk_un (by omega)]; exact h4 q hq
  · rw [e _ (by omega), pk_un (by omega)]; exact h5 q hq
  · rw [e _ (by omega), pk_un (by omega)]; exact h6 p hp
  · rw [e _ (by omega), pk_un (by omega)]; exact h7 p q k hp hq hk
  · rw [e _ (by omega), e _ (by omega), pk_un (by omega), pk_un (by omega)]; exact h8 k hk
  · rw [zz_st_self]
    by_cases e2 : k = k0
    · subst e2; rw [pk_us, pk_us]
    · rw [pk_un e2, pk_un (by omega)]; exact h9 k hk
theorem ne_pt {p p0 q q0 k k0 : Nat} (hq : q < 8) (hq0 : q0 < 8) (hk : k < 2) (hk0 : k0 < 2) (e : ¬ (p = p0 ∧ q = q0 ∧ k = k0)) : 20 + 17 * p + 8 * k + q ≠ 20 + 17 * p0 + 8 * k0 + q0 := by
  rcases Nat.lt_trichotomy p p0 with h | h | h
  · omega
  · subst h
    intro h2
    exact e ⟨rfl, by omega, by omega⟩
  · omega
theorem ne_pc {p p0 q0 k0 : Nat} (hq0 : q0 < 8) (hk0 : k0 < 2) : 19 + 17 * p ≠ 20 + 17 * p0 + 8 * k0 + q0 := by
  rcases Nat.lt_trichotomy p p0 with h | h | h <;> omega
theorem ne_ps {p p0 q q0 k k0 : Nat} (hq : q < 8) (hq0 : q0 < 8) (hk : k < 2) (hk0 : k0 < 2) (e : ¬ (p = p0 ∧ q = q0 ∧ k = k0)) : 16 * p + 2 * q + k ≠ 16 * p0 + 2 * q0 + k0 := by
  rcases Nat.lt_trichotomy p p0 with h | h | h
  · omega
  · subst h
    intro h2
    exact e ⟨rfl, by omega, by omega⟩
  · omega
theorem WF.point {s : Nat → Int32} {P C p0 q0 k0 : Nat} {v : Int32} (h : WF s P C) (hp0 : p0 < P) (hq0 : q0 < 8) (hk0 : k0 < 2) (hv : zb v 0 (s q0).toInt) : WF (upd s (20 + 17 * p0 + 8 * k0 + q0) v) P C := by
  obtain ⟨h1, h2, h3, h4, h5, h6, h7, h8, h9, h10⟩ := h
  refine ⟨by rw [pk_un (by omega)]; exact h1, h2, by rw [pk_un (by omega)]; exact h3, h4, fun q hq => ?_, fun q hq => ?_, fun p hp => ?_, fun p q k hp hq hk => ?_, fun k hk => ?_, fun k hk => ?_⟩
  · rw [pk_un (by omega)]; exact h5 q hq
  · rw [pk_un (by omega)]; exact h6 q hq
  · rw [pk_un (ne_pc hq0 hk0)]; exact h7 p hp
  · rw [pk_un (show q ≠ 20 + 17 * p0 + 8 * k0 + q0 by omega)]
    by_cases e : p = p0 ∧ q = q0 ∧ k = k0
    · obtain ⟨rfl, rfl, rfl⟩ := e; rw [pk_us]; exact hv
    · rw [pk_un (ne_pt hq hq0 hk hk0 e)]; exact h8 p q k hp hq hk
  · rw [pk_un (by omega), pk_un (by omega)]; exact h9 k hk
  · rw [pk_un (by omega)]; exact h10 k hk
theorem PM.point {c : zz_H} {a : Nat} {s : Nat → Int32} {P C p0 q0 k0 : Nat} (h : PM c a s P C) (v : Int32) (hP : P ≤ 12) (hC : C ≤ 6) (hp0 : p0 < P) (hq0 : q0 < 8) (hk0 : k0 < 2) : PM (zz_st c (a + 4) (upd (c (a + 4)) (16 * p0 + 2 * q0 + k0) v)) a (upd s (20 + 17 * p0 + 8 * k0 + q0) v) P C := by
  obtain ⟨h1, h2, h3, h4, h5, h6, h7, h8, h9⟩ := h
  have e : ∀ j, j ≠ a + 4 → zz_st c (a + 4) (upd (c (a + 4)) (16 * p0 + 2 * q0 + k0) v) j = c j := fun j hj => zz_st_ne _ _ hj
  refine ⟨?_, ?_, ?_, fun q hq => ?_, fun q hq => ?_, fun p hp => ?_, fun p q k hp hq hk => ?_, fun k hk => ?_, fun k hk => ?_⟩
  · rw [e a (by omega)]; exact h1
  · rw [e a (by omega)]; exact h2
  · rw [e a (by omega), pk_un (by omega)]; exact h3
  · rw [e _ (by omega), pk_un (by omega)]; exact h4 q hq
  · rw [e _ (by omega), pk_un (by omega)]; exact h5 q hq
  · rw [e _ (by omega), pk_un (ne_pc hq0 hk0)]; exact h6 p hp
  · rw [zz_st_self]
    by_cases e2 : p = p0 ∧ q = q0 ∧ k = k0
    · obtain ⟨rfl, rfl, rfl⟩ := e2; rw [pk_us, pk_us]
    · rw [pk_un (ne_ps hq hq0 hk hk0 e2), pk_un (ne_pt hq hq0 hk hk0 e2)]; exact h7 p q k hp hq hk
  · rw [e _ (by omega), e _ (by omega), pk_un (by omega), pk_un (by omega)]; exact h8 k hk
  · rw [e _ (by omega), pk_un (by omega)]; exact h9 k hk
/-- one paper changes, all else stays -/
theorem Rel.paper {c m c' : zz_H} {s : Nat → Int32} {P C : Nat} (h : Rel c m) (hW : WF s P C) (hM : PM c' 1 s P C) (e : ∀ k, (k < 1 ∨ 8 < k) → c' k = c k) : Rel c' (zz_st m 1 s) := by
  obtain ⟨-, h3, h4, h5, h6⟩ := h
  have f : ∀ k, k ≠ 1 → zz_st m 1 s k = m k := fun k hk => zz_st_ne _ _ hk
  refine ⟨⟨P, C, by rw [zz_st_self]; exact hW, by rw [zz_st_self]; exact hM⟩, h3.cong (fun k a b => e k (by omega)) (by rw [e 0 (by omega)]) (by rw [f 0 (by decide)]) (f 2 (by decide)), ?_, h5.cong (by rw [e 29 (by omega)]) (e 30 (by omega)) (by rw [f 0 (by decide)]) (f 6 (by decide)), h6.cong (fun k a => e k (by omega)) (f 7 (by decide)) (f 8 (by decide)) (f 9 (by decide))⟩
  intro k hk
  rw [e 34 (by omega), f 4 (by decide)]
  exact h4 k hk
