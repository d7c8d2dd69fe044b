/-! the class's Scores -/
def cbB (b : Nat → Bool) : Nat → Int32
  | 0 => 0
  | n + 1 => if b n then cbB b n ||| (1 <<< (nI n &&& 31)) else cbB b n
def cbO (O : Nat → Int32) : Int32 := cbB (fun q => decide (0 ≤ O q)) 8
theorem cbB_congr {b b' : Nat → Bool} : ∀ {n : Nat}, (∀ i, i < n → b i = b' i) → cbB b n = cbB b' n
  | 0, _ => rfl
  | n + 1, h => by
    show (if b n then _ else _) = (if b' n then _ else _)
    rw [cbB_congr (fun i hi => h i (by omega)), h n (by omega)]
theorem cbB_bit (b : Nat → Bool) {q : Nat} (hq : q < 8) : (cbB b 8 &&& (1 <<< (nI q &&& 31)) = 0) ↔ b q = false := by
  have key : ∀ b0 b1 b2 b3 b4 b5 b6 b7 : Bool, ∀ i : Fin 8, (cbB (fun k => [b0, b1, b2, b3, b4, b5, b6, b7].getD k false) 8 &&& (1 <<< (nI i.val &&& 31)) = 0) ↔ [b0, b1, b2, b3, b4, b5, b6, b7].getD i.val false = false := by decide +kernel
  have h := key (b 0) (b 1) (b 2) (b 3) (b 4) (b 5) (b 6) (b 7) ⟨q, hq⟩
  have e : ∀ i, i < 8 → [b 0, b 1, b 2, b 3, b 4, b 5, b 6, b 7].getD i false = b i := by
    intro i hi
    rcases (show i = 0 ∨ i = 1 ∨ i = 2 ∨ i = 3 ∨ i = 4 ∨ i = 5 ∨ i = 6 ∨ i = 7 by omega) with rfl | rfl | rfl | rfl | rfl | rfl | rfl | rfl <;> rfl
  rw [cbB_congr (b' := b) (fun i hi => e i hi)] at h
  rw [h]
  show [b 0, b 1, b 2, b 3, b 4, b 5, b 6, b 7].getD q false = false ↔ _
  rw [e q hq]
theorem c_commonSet {c : zz_H} {a : Nat} (post : Int32 → Prop) (k : post (cbO (c (a + 2)))) : wX0_commonSet a c post := by
  refine lp_for 8 (fun j => (cbB (fun q => decide (0 ≤ c (a + 2) q)) j, nI j)) ?_ ?_
  · intro j hj K hK
    refine ⟨fun h => absurd h (lt_nle (N := 8) hj (by decide)), fun _ => ?_⟩
    have hK : K ((if decide (0 ≤ c (a + 2) j) then cbB (fun q => decide (0 ≤ c (a + 2) q)) j ||| (1 <<< (nI j &&& 31)) else cbB (fun q => decide (0 ≤ c (a + 2) q)) j), nI (j + 1)) := hK
    generalize cbB (fun q => decide (0 ≤ c (a + 2) q)) j = z at hK ⊢
    show vp_in (nI j) 8 ∧ ((c (a + 2) (nI j).toNatClampNeg < 0 → K (z, nI j + 1)) ∧ (¬ c (a + 2) (nI j).toNatClampNeg < 0 → K (z ||| (1 <<< (nI j &&& 31)), nI j + 1)))
    rw [nI_clamp (by omega), nI_1]
    refine ⟨in_nI hj (by decide), fun h => ?_, fun h => ?_⟩
    · rw [if_neg (by simpa using (fa_of_lt h).2.1)] at hK; exact hK
    · rw [if_pos (by simpa using fa_of_nlt h)] at hK; exact hK
  · intro K
    exact ⟨fun _ => k, fun h => absurd (show nI 8 ≤ nI 8 from nI_le (Nat.le_refl 8) (by decide)) h⟩
theorem m_commons {m : zz_H} (post : Int32 → Prop) (k : post (cbO (fun q => m 1 (8 + q)))) : wX5_commons m post := by
  refine lp_for 8 (fun j => (cbB (fun q => decide (0 ≤ m 1 (8 + q))) j, nI j)) ?_ ?_
  · intro j hj K hK
    refine ⟨fun h => absurd h (lt_nle (N := 8) hj (by decide)), fun _ => ?_⟩
    have hK : K ((if decide (0 ≤ m 1 (8 + j)) then cbB (fun q => decide (0 ≤ m 1 (8 + q))) j ||| (1 <<< (nI j &&& 31)) else cbB (fun q => decide (0 ≤ m 1 (8 + q))) j), nI (j + 1)) := hK
    generalize cbB (fun q => decide (0 ≤ m 1 (8 + q))) j = z at hK ⊢
    show vp_in (8 + nI j) 245 ∧ ((0 ≤ m 1 (8 + nI j).toNatClampNeg → K (z ||| (1 <<< (nI j &&& 31)), nI j + 1)) ∧ (¬ 0 ≤ m 1 (8 + nI j).toNatClampNeg → K (z ||| 0, nI j + 1)))
    rw [ix_old, nI_clamp (by omega), nI_1]
    refine ⟨in_nI (by omega) (by decide), fun h => ?_, fun h => ?_⟩
    · rw [if_pos (by simpa using h)] at hK; exact hK
    · rw [if_neg (by simpa using h)] at hK; rw [Int32.or_zero]; exact hK
  · intro K
    exact ⟨fun _ => k, fun h => absurd (show nI 8 ≤ nI 8 from nI_le (Nat.le_refl 8) (by decide)) h⟩
theorem c_fill {c : zz_H} {k n : Nat} (hn : n < 1000) (v : Int32) (post : Int32 → zz_H → Prop) (kk : ∀ g : Nat → Int32, (∀ i, i < n → g i = v) → post 0 (zz_st c k g)) : wJ7_fill_53178 k n v c post := by
  have := lp_for (b := fun K (s : Int32 × zz_H) => wJ7_fill_53178_b5 k n v post K s.1 s.2) n (fun j => (nI j, zz_st c k (fun i => if i < j then v else c k i))) ?_ ?_
  · have e : zz_st c k (fun i => if i < 0 then v else c k i) = c := by
      funext j
      unfold zz_st
      by_cases ej : j = k
      · rw [if_pos ej, ej]; simp
      · rw [if_neg ej]
    have this : ∃ t, zz_lp (fun K (s : Int32 × zz_H) => wJ7_fill_53178_b5 k n v post K s.1 s.2) t (nI 0, zz_st c k (fun i => if i < 0 then v else c k i)) := this
    rw [e] at this
    exact this
  · intro j hj K hK
    refine ⟨fun h => absurd h (lt_nle hj (by omega)), fun _ => ?_⟩
    show vp_in (nI j) n ∧ zz_sto (zz_st c k (fun i => if i < j then v else c k i)) k (upd (zz_st c k (fun i => if i < j then v else c k i) k) (nI j).toNatClampNeg v) (fun h5 => K (nI j + 1, h5))
    rw [sto_eq, zz_st_self, nI_clamp (by omega), nI_1]
    refine ⟨in_nI hj (by omega), ?_⟩
    have e : zz_st (zz_st c k (fun i => if i < j then v else c k i)) k (upd (fun i => if i < j then v else c k i) j v) = zz_st c k (fun i => if i < j + 1 then v else c k i) := by
      funext a
      unfold zz_st
      by_cases ea : a = k
      · simp only [ea, if_true]
        funext i
        unfold upd
        by_cases ei : i = j
        · subst ei; simp
        · by_cases el : i < j
          · rw [if_neg ei]; show (if i < j then v else c k i) = _; rw [if_pos el, if_pos (by omega)]
          · rw [if_neg ei]; show (if i < j then v else c k i) = _; rw [if_neg el, if_neg (by omega)]
      · simp only [if_neg ea]
    rw [e]
    exact hK
  · intro K
    exact ⟨fun _ => kk _ (fun i hi => if_pos hi), fun h => absurd (show nI n ≤ nI n from nI_le (Nat.le_refl n) (by omega)) h⟩
def SC (c : zz_H) (S : Nat → Nat → Int32) (W O : Nat → Int32) (P : Nat) : Prop :=
  c 25 3 = nI P ∧ c 25 4 = fullW W ∧ c 25 5 = cbO O ∧ c 25 6 = omO O ∧ c 25 7 = csS S O 12 ∧ (∀ q, q < 8 → c 26 q = W q) ∧ (∀ p q, p < 12 → q < 8 → c 27 (8 * p + q) = S p q) ∧ (∀ p, p < 12 → c 28 p = rawS S p) ∧ ∀ p q, P ≤ p → p < 12 → q < 8 → S p q = 0
theorem SC.cong {c c' : zz_H} {S : Nat → Nat → Int32} {W O : Nat → Int32} {P : Nat} (h : SC c S W O P) (e25 : c' 25 = c 25) (e26 : c' 26 = c 26) (e27 : c' 27 = c 27) (e28 : c' 28 = c 28) : SC c' S W O P := by
  unfold SC at h ⊢
  rw [e25, e26, e27, e28]
  exact h
def upS (S : Nat → Nat → Int32) (p q : Nat) (v : Int32) : Nat → Nat → Int32 := fun p' => if p' = p then upd (S p) q v else S p'
theorem upS_at (S : Nat → Nat → Int32) (p q : Nat) (v : Int32) (p' q' : Nat) : upS S p q v p' q' = if p' = p ∧ q' = q then v else S p' q' := by
  unfold upS upd
  by_cases h1 : p' = p
  · subst h1
    by_cases h2 : q' = q <;> simp [h2]
  · simp [h1]
theorem csS_up (S : Nat → Nat → Int32) (O : Nat → Int32) {p q : Nat} (hp : p < 12) (hq : q < 8) (v : Int32) : csS (upS S p q v) O 12 = csS S O 12 + (if 0 ≤ O q then v - S p q else 0) := by
  unfold csS
  have e : ∀ q', q' < 8 → (if 0 ≤ O q' then zsum (fun p' => upS S p q v p' q') 12 else 0) = upd (fun q' => if 0 ≤ O q' then zsum (fun p' => S p' q') 12 else 0) q (if 0 ≤ O q then zsum (fun p' => S p' q) 12 + (v - S p q) else 0) q' := by
    intro q' hq'
    by_cases e1 : q' = q
    · subst e1
      rw [pk_us]
      have e2 : (fun p' => upS S p q' v p' q') = upd (fun p' => S p' q') p v := by
        funext p'
        rw [upS_at]
        unfold upd
        by_cases e3 : p' = p <;> simp [e3]
      rw [e2, zsum_upd _ _ hp]
    · rw [pk_un e1]
      have e2 : (fun p' => upS S p q v p' q') = (fun p' => S p' q') := by
        funext p'
        rw [upS_at, if_neg (fun h => e1 h.2)]
      rw [e2]
  rw [zsum_congr e, zsum_upd _ _ hq]
  by_cases h : 0 ≤ O q
  · simp only [if_pos h]; grind
  · simp only [if_neg h]; grind
theorem ix_ps (p q : Nat) : nI p * 8 + nI q = nI (8 * p + q) := by
  show nI p * nI 8 + nI q = _
  rw [pk_mul, nI_add]; congr 1; omega
theorem c_isCommon {c : zz_H} {O : Nat → Int32} (e : c 25 5 = cbO O) {q : Nat} (hq : q < 8) (post : Int32 → Prop) : wX1_isCommon (nI q) c post = post (if 0 ≤ O q then 1 else 0) := by
  unfold wX1_isCommon
  rw [e]
  unfold cbO
  have h := cbB_bit (fun q => decide (0 ≤ O q)) hq
  rw [propext h]
  apply propext
  by_cases h2 : 0 ≤ O q <;> simp [h2]
theorem c_setScore {c : zz_H} {S : Nat → Nat → Int32} {W O : Nat → Int32} {P p q : Nat} (h : SC c S W O P) (hP : P ≤ 12) (hp : p < P) (hq : q < 8) (v : Int32) (post : Int32 → zz_H → Prop) (k : ∀ c', (∀ j, j ≠ 25 → j ≠ 27 → j ≠ 28 → c' j = c j) → SC c' (upS S p q v) W O P → post 0 c') : wX1_setScore (nI p) (nI q) v c post := by
  obtain ⟨h1, h2, h3, h4, h5, h6, h7, h8, h9⟩ := h
  unfold wX1_setScore wX1_scoreOf
  rw [ix_ps, nI_clamp (by omega), nI_clamp (by omega)]
  have v1 : vp_in (nI (8 * p + q)) 96 := in_nI (by omega) (by decide)
  have v2 : vp_in (nI p) 12 := in_nI (by omega) (by decide)
  simp only [sto_eq]
  refine ⟨v1, v1, v2, v2, ?_⟩
  rw [h7 p q (by omega) hq, zz_st_ne c _ (show 28 ≠ 27 by decide), h8 p (by omega)]
  generalize hc1 : zz_st (zz_st c 27 (upd (c 27) (8 * p + q) v)) 28 (upd (c 28) p (rawS S p + (v - S p q))) = c1
  have f : ∀ j, j ≠ 27 → j ≠ 28 → c1 j = c j := fun j a1 a2 => by rw [← hc1, zz_st_ne _ _ a2, zz_st_ne _ _ a1]
  have f27 : c1 27 = upd (c 27) (8 * p + q) v := by rw [← hc1, zz_st_ne _ _ (by decide), zz_st_self]
  have f28 : c1 28 = upd (c 28) p (rawS S p + (v - S p q)) := by rw [← hc1, zz_st_self]
  have a7 : ∀ p' q', p' < 12 → q' < 8 → c1 27 (8 * p' + q') = upS S p q v p' q' := by
    intro p' q' hp' hq'
    rw [f27, upS_at]
    by_cases e : p' = p ∧ q' = q
    · obtain ⟨rfl, rfl⟩ := e
      rw [pk_us, if_pos ⟨rfl, rfl⟩]
    · rw [pk_un (by omega), if_neg e]
      exact h7 p' q' hp' hq'
  have a8 : ∀ p', p' < 12 → c1 28 p' = rawS (upS S p q v) p' := by
    intro p' hp'
    rw [f28]
    by_cases e : p' = p
    · subst e
      rw [pk_us]
      unfold rawS
      rw [show upS S p' q v p' = upd (S p') q v from if_pos rfl, zsum_upd _ _ hq]
    · rw [pk_un e, h8 p' hp']
      unfold rawS
      rw [show upS S p q v p' = S p' from if_neg e]
  have a9 : ∀ p' q', P ≤ p' → p' < 12 → q' < 8 → upS S p q v p' q' = 0 := by
    intro p' q' b1 b2 b3
    rw [upS_at, if_neg (by omega)]
    exact h9 p' q' b1 b2 b3
  have hcs := csS_up S O (show p < 12 by omega) hq v
  rw [c_isCommon (O := O) (by rw [f 25 (by decide) (by decide)]; exact h3) hq]
  by_cases ho : 0 ≤ O q
  · rw [if_pos ho] at hcs ⊢
    refine ⟨fun z => absurd z (by decide), fun _ => ?_⟩
    rw [f 25 (by decide) (by decide)]
    have g : ∀ j, j ≠ 25 → zz_st c1 25 (upd (c 25) 7 (c 25 7 + (v - S p q))) j = c1 j := fun j hj => zz_st_ne _ _ hj
    refine k _ (fun j b1 b2 b3 => by rw [g j b1, f j b2 b3]) ⟨?_, ?_, ?_, ?_, ?_, ?_, ?_, ?_, a9⟩
    · rw [zz_st_self, pk_un (by decide)]; exact h1
    · rw [zz_st_self, pk_un (by decide)]; exact h2
    · rw [zz_st_self, pk_un (by decide)]; exact h3
    · rw [zz_st_self, pk_un (by decide)]; exact h4
    · rw [zz_st_self, pk_us, hcs, h5]
    · intro q' hq'; rw [g 26 (by decide), f 26 (by decide) (by decide)]; exact h6 q' hq'
    · intro p' q' b1 b2; rw [g 27 (by decide)]; exact a7 p' q' b1 b2
    · intro p' b1; rw [g 28 (by decide)]; exact a8 p' b1
  · rw [if_neg ho] at hcs ⊢
    refine ⟨fun _ => ?_, fun z => absurd rfl z⟩
    have e25 := f 25 (by decide) (by decide)
    refine k _ (fun j b1 b2 b3 => f j b2 b3) ⟨by rw [e25]; exact h1, by rw [e25]; exact h2, by rw [e25]; exact h3, by rw [e25]; exact h4, by rw [e25, hcs, h5, Int32.add_zero], fun q' hq' => by rw [f 26 (by decide) (by decide)]; exact h6 q' hq', a7, a8, a9⟩
