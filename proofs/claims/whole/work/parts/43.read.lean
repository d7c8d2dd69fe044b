/-! Scores.read, and the marks by the class -/
def sS (s : Nat → Int32) (P : Nat) : Nat → Nat → Int32 := fun p q => if p < P then sc s p q else 0
theorem c_scoreOf {c : zz_H} {a : Nat} {s : Nat → Int32} {P C p q : Nat} (h : PM c a s P C) (hP : P ≤ 12) (hp : p < P) (hq : q < 8) (post : Int32 → Prop) (k : post (sc s p q)) : wX0_scoreOf a (nI p) (nI q) c post := by
  unfold wX0_scoreOf
  simp only [spot_eq]
  have e0 : (nI p * 8 + nI q) * 2 + 0 = nI (16 * p + 2 * q + 0) := ix_spot p q 0
  have e1 : (nI p * 8 + nI q) * 2 + 1 = nI (16 * p + 2 * q + 1) := ix_spot p q 1
  rw [e0, e1, nI_clamp (by omega), nI_clamp (by omega)]
  refine ⟨in_nI (by omega) (by decide), in_nI (by omega) (by decide), ?_⟩
  rw [h.2.2.2.2.2.2.1 p q 0 hp hq (by decide), h.2.2.2.2.2.2.1 p q 1 hp hq (by decide)]
  rw [show 20 + 17 * p + 8 * 0 + q = 20 + 17 * p + q by omega, show 20 + 17 * p + 8 * 1 + q = 28 + 17 * p + q by omega]
  exact k
theorem max0 (x : Int32) : zz_max 0 x = if 0 ≤ x then x else 0 := by
  rw [fa_eq, max_toInt]
  have h0 : (0 : Int32).toInt = 0 := rfl
  by_cases h : 0 ≤ x
  · rw [if_pos h]; rw [fa_le] at h; omega
  · rw [if_neg h]; rw [fa_le] at h; omega
/-- only the cells of Scores differ -/
def OS (c c' : zz_H) : Prop := ∀ j, (j < 25 ∨ 28 < j) → c' j = c j
theorem OS.rf (c : zz_H) : OS c c := fun _ _ => rfl
theorem OS.tr {a b c : zz_H} (h : OS a b) (h' : OS b c) : OS a c := fun j hj => (h' j hj).trans (h j hj)
theorem OS.st {c c' : zz_H} (h : OS c c') {k : Nat} (hk : 25 ≤ k ∧ k ≤ 28) (g : Nat → Int32) : OS c (zz_st c' k g) := fun j hj => by rw [zz_st_ne _ _ (by omega)]; exact h j hj
theorem csS_zero (O : Nat → Int32) : csS (fun _ _ => 0) O 12 = 0 := by
  unfold csS
  refine zsum_zero (fun q _ => ?_)
  by_cases h : 0 ≤ O q
  · rw [if_pos h]; exact zsum_zero (fun _ _ => rfl)
  · rw [if_neg h]
theorem SC.ext {c : zz_H} {S S' : Nat → Nat → Int32} {W O : Nat → Int32} {P : Nat} (h : SC c S W O P) (e : ∀ p q, p < 12 → q < 8 → S' p q = S p q) : SC c S' W O P := by
  obtain ⟨h1, h2, h3, h4, h5, h6, h7, h8, h9⟩ := h
  refine ⟨h1, h2, h3, h4, ?_, h6, fun p q hp hq => by rw [e p q hp hq]; exact h7 p q hp hq, fun p hp => ?_, fun p q a b c => by rw [e p q b c]; exact h9 p q a b c⟩
  · rw [h5]
    unfold csS
    refine zsum_congr (fun q hq => ?_)
    rw [zsum_congr (fun p hp => (e p q hp hq).symm)]
  · rw [h8 p hp]
    unfold rawS
    exact zsum_congr (fun q hq => (e p q hp hq).symm)
theorem read_tail {c : zz_H} {s : Nat → Int32} {P C : Nat} (hM : PM c 1 s P C) (hP : P ≤ 12) (post : Int32 → zz_H → Prop) (k : ∀ c', OS c c' → SC c' (sS s P) s (fun q => s (8 + q)) P → post 0 c') {c1 : zz_H} (ho : OS c c1) (h1 : SC c1 (fun _ _ => 0) s (fun q => s (8 + q)) P) : ∃ t9, zz_lp (fun K (s : Int32 × zz_H) => wX1_read_b109 1 post K s.1 s.2) t9 (0, c1) := by
  refine lp_inv P (fun j x => x.1 = nI j ∧ OS c x.2 ∧ SC x.2 (sS s j) s (fun q => s (8 + q)) P) ⟨rfl, ho, h1.ext (fun p q _ _ => by unfold sS; rw [if_neg (by omega)])⟩ ?_ ?_
  · rintro j ⟨x, cj⟩ K hj ⟨e1, h2, h3⟩ hK
    have e1 : x = nI j := e1
    subst e1
    refine ⟨fun h => absurd (show nI P ≤ nI j from h3.1 ▸ h) (lt_nle hj (by omega)), fun _ => ?_⟩
    refine lp_inv 8 (fun i y => y.1 = nI i ∧ OS c y.2 ∧ SC y.2 (fun p q => if p < j then sc s p q else if p = j ∧ q < i then sc s p q else 0) s (fun q => s (8 + q)) P) ⟨rfl, h2, h3.ext (fun p q _ _ => ?_)⟩ ?_ ?_
    · unfold sS
      by_cases a : p < j
      · rw [if_pos a, if_pos a]
      · rw [if_neg a, if_neg a, if_neg (by omega)]
    · rintro i ⟨y, ci⟩ K' hi ⟨e2, h4, h5⟩ hK'
      have e2 : y = nI i := e2
      subst e2
      refine ⟨fun h => absurd h (lt_nle (N := 8) hi (by decide)), fun _ => ?_⟩
      have hM' : PM ci 1 s P C := hM.cong (fun a b d => h4 a (by omega))
      refine c_scoreOf hM' hP hj hi _ ?_
      refine c_setScore h5 hP hj hi _ _ (fun c' f g => ?_)
      refine hK' (nI i + 1, c') ⟨nI_1 i, h4.tr (fun a b => f a (by omega) (by omega) (by omega)), g.ext (fun p q hp hq => ?_)⟩
      rw [upS_at]
      by_cases a : p < j
      · rw [if_pos a, if_neg (by omega), if_pos a]
      · rw [if_neg a]
        by_cases b : p = j ∧ q = i
        · obtain ⟨rfl, rfl⟩ := b
          rw [if_pos ⟨rfl, by omega⟩, if_pos ⟨rfl, rfl⟩]
        · rw [if_neg b, if_neg a]
          by_cases d : p = j ∧ q < i
          · rw [if_pos d, if_pos ⟨d.1, by omega⟩]
          · rw [if_neg d, if_neg (by omega)]
    · rintro ⟨y, ci⟩ K' ⟨e2, h4, h5⟩
      have e2 : y = nI 8 := e2
      subst e2
      refine ⟨fun _ => ?_, fun h => absurd (show nI 8 ≤ nI 8 from nI_le (Nat.le_refl 8) (by decide)) h⟩
      refine hK (nI j + 1, ci) ⟨nI_1 j, h4, h5.ext (fun p q hp hq => ?_)⟩
      unfold sS
      by_cases a : p < j
      · rw [if_pos a, if_pos (by omega)]
      · rw [if_neg a]
        by_cases b : p = j
        · rw [if_pos (by omega), if_pos ⟨b, hq⟩]
        · rw [if_neg (by omega), if_neg (by omega)]
  · rintro ⟨x, cj⟩ K ⟨e1, h2, h3⟩
    have e1 : x = nI P := e1
    subst e1
    exact ⟨fun _ => k cj h2 h3, fun h => absurd (show cj 25 3 ≤ nI P from h3.1 ▸ nI_le (Nat.le_refl P) (by omega)) h⟩
set_option maxRecDepth 100000 in
theorem c_read {c : zz_H} {s : Nat → Int32} {P C : Nat} (hM : PM c 1 s P C) (hP : P ≤ 12) (post : Int32 → zz_H → Prop) (k : ∀ c', OS c c' → SC c' (sS s P) s (fun q => s (8 + q)) P → post 0 c') : wX1_read 1 c post := by
  unfold wX1_read
  rw [sto_eq]
  refine c_commonSet _ ?_
  have eO : zz_st c 25 (upd (c 25) 3 (c 1 7)) (1 + 2) = c 3 := zz_st_ne _ _ (by decide)
  rw [eO]
  have eb : cbO (c 3) = cbO (fun q => s (8 + q)) := cbB_congr (fun q hq => by rw [show c 3 q = s (8 + q) from hM.2.2.2.2.1 q hq])
  rw [eb]
  simp only [sto_eq, zz_st_self]
  generalize hc0 : zz_st (zz_st (zz_st (zz_st (zz_st c 25 (upd (c 25) 3 (c 1 7))) 25 (upd (upd (c 25) 3 (c 1 7)) 5 (cbO (fun q => s (8 + q))))) 25 (upd (upd (upd (c 25) 3 (c 1 7)) 5 (cbO (fun q => s (8 + q)))) 4 0)) 25 (upd (upd (upd (upd (c 25) 3 (c 1 7)) 5 (cbO (fun q => s (8 + q)))) 4 0) 6 0)) 25 (upd (upd (upd (upd (upd (c 25) 3 (c 1 7)) 5 (cbO (fun q => s (8 + q)))) 4 0) 6 0) 7 0) = c0
  have o0 : OS c c0 := by
    rw [← hc0]
    exact (((((OS.rf c).st (by decide) _).st (by decide) _).st (by decide) _).st (by decide) _).st (by decide) _
  have z25 : c0 25 = upd (upd (upd (upd (upd (c 25) 3 (c 1 7)) 5 (cbO (fun q => s (8 + q)))) 4 0) 6 0) 7 0 := by rw [← hc0, zz_st_self]
  have z3 : c0 25 3 = nI P := by rw [z25, pk_un (by decide), pk_un (by decide), pk_un (by decide), pk_un (by decide), pk_us]; exact hM.1
  have z4 : c0 25 4 = 0 := by rw [z25, pk_un (by decide), pk_un (by decide), pk_us]
  have z5 : c0 25 5 = cbO (fun q => s (8 + q)) := by rw [z25, pk_un (by decide), pk_un (by decide), pk_un (by decide), pk_us]
  have z6 : c0 25 6 = 0 := by rw [z25, pk_un (by decide), pk_us]
  have z7 : c0 25 7 = 0 := by rw [z25, pk_us]
  refine lp_inv 8 (fun j x => x.1 = nI j ∧ OS c x.2 ∧ x.2 25 3 = nI P ∧ x.2 25 5 = cbO (fun q => s (8 + q)) ∧ x.2 25 7 = 0 ∧ x.2 25 4 = zsum s j ∧ x.2 25 6 = zsum (fun q => if 0 ≤ s (8 + q) then s (8 + q) else 0) j ∧ ∀ q, q < j → x.2 26 q = s q) ⟨rfl, o0, z3, z5, z7, z4, z6, fun q hq => absurd hq (by omega)⟩ ?_ ?_
  · rintro j ⟨x, d⟩ K hj ⟨e1, b1, b2, b3, b4, b5, b6, b7⟩ hK
    have e1 : x = nI j := e1
    subst e1
    dsimp only at b1 b2 b3 b4 b5 b6 b7
    refine ⟨fun h => absurd h (lt_nle (N := 8) hj (by decide)), fun _ => ?_⟩
    have v : vp_in (nI j) 8 := in_nI hj (by decide)
    show vp_in (nI j) 8 ∧ (vp_in (nI j) 8 ∧ zz_sto d 26 (upd (d 26) (nI j).toNatClampNeg (d (1 + 1) (nI j).toNatClampNeg)) _)
    rw [sto_eq, nI_clamp (by omega)]
    refine ⟨v, v, v, ?_⟩
    simp only [sto_eq]
    rw [zz_st_self, pk_us, zz_st_ne _ _ (show 25 ≠ 26 by decide)]
    refine ⟨v, ?_⟩
    rw [zz_st_self, zz_st_ne _ _ (show 1 + 2 ≠ 25 by decide), zz_st_ne _ _ (show 1 + 2 ≠ 26 by decide), nI_1]
    have w1 : d (1 + 1) j = s j := by rw [b1 (1 + 1) (by omega)]; exact hM.2.2.2.1 j hj
    have w2 : d (1 + 2) j = s (8 + j) := by rw [b1 (1 + 2) (by omega)]; exact hM.2.2.2.2.1 j hj
    rw [w1, w2, max0]
    refine hK _ ⟨rfl, ((b1.st (by decide) _).st (by decide) _).st (by decide) _, ?_, ?_, ?_, ?_, ?_, fun q hq => ?_⟩
    · dsimp only
      rw [zz_st_self, pk_un (by decide), pk_un (by decide)]; exact b2
    · dsimp only
      rw [zz_st_self, pk_un (by decide), pk_un (by decide)]; exact b3
    · dsimp only
      rw [zz_st_self, pk_un (by decide), pk_un (by decide)]; exact b4
    · dsimp only [zsum]
      rw [zz_st_self, pk_un (by decide), pk_us, b5]
    · dsimp only [zsum]
      rw [zz_st_self, pk_us, pk_un (by decide), b6]
    · dsimp only
      rw [zz_st_ne _ _ (show 26 ≠ 25 by decide), zz_st_ne _ _ (show 26 ≠ 25 by decide), zz_st_self]
      by_cases e : q = j
      · subst e; rw [pk_us]
      · rw [pk_un e]; exact b7 q (by omega)
  · rintro ⟨x, d⟩ K ⟨e1, b1, b2, b3, b4, b5, b6, b7⟩
    have e1 : x = nI 8 := e1
    subst e1
    dsimp only at b1 b2 b3 b4 b5 b6 b7
    refine ⟨fun _ => ?_, fun h => absurd (show nI 8 ≤ nI 8 from nI_le (Nat.le_refl 8) (by decide)) h⟩
    show wX1_read_j91 1 post d
    unfold wX1_read_j91
    refine c_fill (by decide) _ _ (fun g hg => c_fill (by decide) _ _ (fun g2 hg2 => ?_))
    refine read_tail hM hP post k ((b1.st (by decide) _).st (by decide) _) ⟨?_, ?_, ?_, ?_, ?_, fun q hq => ?_, fun p q hp hq => ?_, fun p hp => ?_, fun _ _ _ _ _ => rfl⟩
    · rw [zz_st_ne _ _ (by decide), zz_st_ne _ _ (by decide)]; exact b2
    · rw [zz_st_ne _ _ (by decide), zz_st_ne _ _ (by decide)]; exact b5
    · rw [zz_st_ne _ _ (by decide), zz_st_ne _ _ (by decide)]; exact b3
    · rw [zz_st_ne _ _ (by decide), zz_st_ne _ _ (by decide)]; exact b6
    · rw [zz_st_ne _ _ (by decide), zz_st_ne _ _ (by decide), csS_zero]; exact b4
    · rw [zz_st_ne _ _ (by decide), zz_st_ne _ _ (by decide)]; exact b7 q hq
    · rw [zz_st_ne _ _ (by decide), zz_st_self]; exact hg _ (by omega)
    · rw [zz_st_self, hg2 p hp]
      exact (zsum_zero (fun _ _ => rfl)).symm
