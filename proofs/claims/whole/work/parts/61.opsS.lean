/-! loading and judging -/
def ldS (p k : Nat) (t s : Nat → Int32) : Nat → (Nat → Int32)
  | 0 => s
  | j + 1 => upd (ldS p k t s j) (20 + 17 * p + 8 * k + j) (t j)
theorem ld_q (p k : Nat) (t s : Nat → Int32) {q : Nat} (hq : q < 20) : ∀ j, ldS p k t s j q = s q
  | 0 => rfl
  | j + 1 => by
    show upd (ldS p k t s j) (20 + 17 * p + 8 * k + j) _ q = _
    rw [pk_un (by omega)]
    exact ld_q p k t s hq j
theorem ld_wf {p k : Nat} {t s : Nat → Int32} {P C N : Nat} (h : WF s P C) (hp : p < P) (hk : k < 2) (hN : N ≤ 8) (ht : ∀ j, j < N → (0 : Int32) ≤ t j ∧ t j ≤ s j) : ∀ j, j ≤ N → WF (ldS p k t s j) P C
  | 0, _ => h
  | j + 1, hj => by
    have ih := ld_wf h hp hk hN ht j (by omega)
    refine ih.point hp (by omega) hk ?_
    rw [ld_q p k t s (by omega)]
    exact rng_zb (ht j (by omega)) rfl rfl
set_option maxHeartbeats 4000000 in
theorem op_load {c m : zz_H} (hR : Rel c m) (p1 p2 p3 : Int32) : wX4_load p1 p2 p3 c (fun r c' => wX5_load p1 p2 p3 m (fun r' m' => r = r' ∧ Rel c' m')) := by
  obtain ⟨⟨P, C, hW, hM⟩, hK, hF, hT, hS⟩ := id hR
  have eP : c 1 7 = nI P := hM.1
  have eP' : m 1 17 = nI P := hW.1
  have bP : P ≤ 12 := hW.2.1
  have bC : C ≤ 6 := hW.2.2.2.1
  unfold wX4_load
  refine c_sheetPre hS p1 _ _ (fun h => ?_) (fun k hk e e7 => ?_) (fun k hk e e7 => ?_)
  · unfold wX5_load
    refine m_wrong0 h _ ⟨fun z => absurd z (by decide), fun _ => ?_⟩
    rw [finds0]
    exact ⟨rfl, hR.find (by decide)⟩
  · subst e
    unfold wX5_load
    refine m_wrong6 hk e7 _ ⟨fun z => absurd z (by decide), fun _ => ?_⟩
    rw [finds5]
    exact ⟨rfl, hR.find (by decide)⟩
  · subst e
    obtain ⟨a1, a2, ⟨n, hn, n1, n2⟩, a4⟩ := hS k hk
    have v1 : vp_in (nI k) 4 := in_nI hk (by decide)
    rw [c_isPupil, eP, tell0]
    by_cases h1 : (0 : Int32) ≤ p2 ∧ p2 ≤ nI P - 1
    case neg =>
      rw [if_neg h1]
      refine ⟨fun _ => ?_, fun z => absurd rfl z⟩
      unfold wX5_load
      refine m_wrongK hk e7 _ ⟨fun _ => ?_, fun z => absurd rfl z⟩
      rw [m_isPupil, eP', if_neg h1, finds0]
      exact ⟨fun _ => ⟨rfl, hR.find (by decide)⟩, fun z => absurd rfl z⟩
    rw [if_pos h1]
    refine ⟨fun z => absurd z (by decide), fun _ => ?_⟩
    rw [c_isMarker]
    by_cases h2 : (0 : Int32) ≤ p3 ∧ p3 ≤ 1
    case neg =>
      rw [if_neg h2]
      refine ⟨fun z => absurd rfl z, fun _ => ?_⟩
      unfold wX5_load
      refine m_wrongK hk e7 _ ⟨fun _ => ?_, fun z => absurd rfl z⟩
      rw [m_isPupil, eP', if_pos h1]
      refine ⟨fun z => absurd z (by decide), fun _ => ?_⟩
      rw [in_eq, finds0]
      simp only [wl_ge0, wl_le1]
      rw [if_neg h2]
      exact ⟨fun z => absurd rfl z, fun _ => ⟨trivial, hR.find (by decide)⟩⟩
    rw [if_pos h2]
    refine ⟨fun _ => ?_, fun z => absurd z (by decide)⟩
    obtain ⟨p, hp, rfl⟩ := idx_of (by omega) h1
    obtain ⟨kk, hkk, rfl⟩ := idx_le (n := 1) (by decide) h2
    have hkk : kk < 2 := by omega
    have f1 := fa_first_le (fun i => decide (¬ ((0 : Int32) ≤ c (36 + 2 * k) i ∧ c (36 + 2 * k) i ≤ m 1 i))) (min n 8)
    have f2 := fa_first_no (fun i => decide (¬ ((0 : Int32) ≤ c (36 + 2 * k) i ∧ c (36 + 2 * k) i ≤ m 1 i))) (min n 8)
    have f3 := fa_first_yes (fun i => decide (¬ ((0 : Int32) ≤ c (36 + 2 * k) i ∧ c (36 + 2 * k) i ≤ m 1 i))) (min n 8)
    generalize fa_first (fun i => decide (¬ ((0 : Int32) ≤ c (36 + 2 * k) i ∧ c (36 + 2 * k) i ≤ m 1 i))) (min n 8) = N at f1 f2 f3
    have g2 : ∀ i, i < N → (0 : Int32) ≤ c (36 + 2 * k) i ∧ c (36 + 2 * k) i ≤ m 1 i := fun i hi => by
      have := f2 i hi
      simpa using this
    have g3 : N < n → N < 8 → ¬ ((0 : Int32) ≤ c (36 + 2 * k) N ∧ c (36 + 2 * k) N ≤ m 1 N) := fun q1 q2 => by
      have := f3 (by omega)
      exact of_decide_eq_true this
    have hN8 : N ≤ 8 := by omega
    have hNn : N ≤ n := by omega
    have wf := ld_wf hW hp hkk hN8 g2
    have fin : ∀ post : Int32 → zz_H → Prop, post (nI N) (zz_st m 1 (ldS p kk (c (36 + 2 * k)) (m 1) N)) → wX5_load (nI k) (nI p) (nI kk) m post := by
      intro post kx
      unfold wX5_load
      refine m_wrongK hk e7 _ ⟨fun _ => ?_, fun z => absurd rfl z⟩
      rw [m_isPupil, eP', if_pos h1]
      refine ⟨fun z => absurd z (by decide), fun _ => ?_⟩
      rw [in_eq]
      simp only [wl_ge0, wl_le1]
      rw [if_pos h2]
      refine ⟨fun _ => ?_, fun z => absurd z (by decide)⟩
      have this := lp_for (b := fun K (s : Int32 × Int32 × zz_H) => wX5_load_b50 (nI k) (nI p) (nI kk) post K s.1 s.2.1 s.2.2) N (fun j => (nI j, nI j, zz_st m 1 (ldS p kk (c (36 + 2 * k)) (m 1) j))) ?_ ?_
      · have e : zz_st m 1 (ldS p kk (c (36 + 2 * k)) (m 1) 0) = m := st_id m 1
        rw [e] at this
        exact this
      · intro j hj K hK
        have hK : K (nI (j + 1), nI (j + 1), zz_st m 1 (upd (ldS p kk (c (36 + 2 * k)) (m 1) j) (20 + 17 * p + 8 * kk + j) (c (36 + 2 * k) j))) := hK
        have eq := ld_q p kk (c (36 + 2 * k)) (m 1) (q := j) (by omega) j
        generalize ldS p kk (c (36 + 2 * k)) (m 1) j = s at hK eq ⊢
        refine ⟨v1, ?_⟩
        dsimp only
        rw [zz_st_ne _ _ (show 8 ≠ 1 by decide), zz_st_ne _ _ (show 9 ≠ 1 by decide), zz_st_self, nI_clamp (show k < 2 ^ 31 by omega), n2]
        refine ⟨fun z => absurd z (lt_nle (by omega) (by omega)), fun _ => ⟨fun z => absurd z (lt_nle (N := 8) (by omega) (by decide)), fun _ => ?_⟩⟩
        rw [ix_40, ix_0, nI_clamp (by omega), nI_clamp (by omega), ← a4 j (by omega), eq, in_eq]
        simp only [wl_ge0, wl_ww]
        rw [if_pos (g2 j hj), at_eq, ix_at, nI_clamp (by omega), sto_eq, st_st, nI_1]
        exact ⟨in_nI (by omega) (by decide), in_nI (by omega) (by decide), fun _ => ⟨in_nI (by omega) (by decide), hK⟩, fun z => absurd z (by decide)⟩
      · intro K
        have eq := fun (q : Nat) (hq : q < 20) => ld_q p kk (c (36 + 2 * k)) (m 1) (q := q) hq N
        generalize ldS p kk (c (36 + 2 * k)) (m 1) N = s at eq kx ⊢
        refine ⟨v1, ?_⟩
        dsimp only
        rw [zz_st_ne _ _ (show 8 ≠ 1 by decide), zz_st_ne _ _ (show 9 ≠ 1 by decide), zz_st_self, nI_clamp (show k < 2 ^ 31 by omega), n2]
        refine ⟨fun _ => kx, fun z1 => ⟨fun _ => kx, fun z2 => ?_⟩⟩
        have q1 : N < n := Nat.lt_of_not_le (fun z => z1 (nI_le z (by omega)))
        have q2 : N < 8 := Nat.lt_of_not_le (fun z => z2 (nI_le (a := 8) z (by omega)))
        rw [ix_40, ix_0, nI_clamp (by omega), nI_clamp (by omega), ← a4 N (by omega), eq N (by omega), in_eq]
        simp only [wl_ge0, wl_ww]
        rw [if_neg (g3 q1 q2)]
        exact ⟨in_nI (by omega) (by decide), in_nI (by omega) (by decide), fun z => absurd rfl z, fun _ => kx⟩
    refine lp_inv N (fun j z => z.1 = nI j ∧ OP 1 c z.2 ∧ PM z.2 1 (ldS p kk (c (36 + 2 * k)) (m 1) j) P C) ⟨rfl, OP.rf _ _, hM⟩ ?_ ?_
    · rintro j ⟨x, h⟩ K hj ⟨e1, ho, hm⟩ hK
      dsimp only at e1 ho hm
      subst e1
      have hK : ∀ s', (s'.1 = nI (j + 1) ∧ OP 1 c s'.2 ∧ PM s'.2 1 (upd (ldS p kk (c (36 + 2 * k)) (m 1) j) (20 + 17 * p + 8 * kk + j) (c (36 + 2 * k) j)) P C) → K s' := hK
      have eq := ld_q p kk (c (36 + 2 * k)) (m 1) (q := j) (by omega) j
      generalize ldS p kk (c (36 + 2 * k)) (m 1) j = s at hK eq hm
      dsimp only
      unfold wX4_load_b62
      rw [sh_eq hk, s36, ho (35 + 2 * k) (by omega), ho (36 + 2 * k) (by omega), n1]
      refine ⟨fun z => absurd z (lt_nle (by omega) (by omega)), fun _ => ⟨fun z => absurd z (lt_nle (N := 8) (by omega) (by decide)), fun _ => ?_⟩⟩
      rw [nI_clamp (by omega), show h 2 j = m 1 j from (hm.2.2.2.1 j (by omega)).trans eq, within_eq, if_pos (g2 j hj), spot_eq, ix_spot, nI_clamp (by omega), sto_eq, nI_1]
      exact ⟨in_nI (by omega) (by decide), in_nI (by omega) (by decide), fun z => absurd z (by decide), fun _ => ⟨in_nI (by omega) (by decide), in_nI (by omega) (by decide), hK _ ⟨rfl, ho.st (by omega) _, hm.point _ bP bC hp (by omega) hkk⟩⟩⟩
    · rintro ⟨x, h⟩ K ⟨e1, ho, hm⟩
      dsimp only at e1 ho hm
      subst e1
      have fin2 := fin (fun r' m' => nI N = r' ∧ Rel h m') ⟨rfl, hR.paper (wf N (Nat.le_refl N)) hm ho⟩
      have eq := fun (q : Nat) (hq : q < 20) => ld_q p kk (c (36 + 2 * k)) (m 1) (q := q) hq N
      generalize ldS p kk (c (36 + 2 * k)) (m 1) N = s at eq hm
      dsimp only
      unfold wX4_load_b62
      rw [sh_eq hk, s36, ho (35 + 2 * k) (by omega), ho (36 + 2 * k) (by omega), n1]
      refine ⟨fun _ => fin2, fun z1 => ⟨fun _ => fin2, fun z2 => ?_⟩⟩
      have q1 : N < n := Nat.lt_of_not_le (fun z => z1 (nI_le z (by omega)))
      have q2 : N < 8 := Nat.lt_of_not_le (fun z => z2 (nI_le (a := 8) z (by omega)))
      rw [nI_clamp (by omega), show h 2 N = m 1 N from (hm.2.2.2.1 N (by omega)).trans (eq N (by omega)), within_eq, if_neg (g3 q1 q2)]
      exact ⟨in_nI (by omega) (by decide), in_nI (by omega) (by decide), fun _ => fin2, fun z => absurd rfl z⟩
set_option maxHeartbeats 4000000 in
theorem op_judge {c m : zz_H} (hR : Rel c m) (p1 p2 : Int32) : wX4_judge p1 p2 c (fun r c' => wX5_judge p1 p2 m (fun r' m' => r = r' ∧ Rel c' m')) := by
  obtain ⟨⟨P, C, hW, hM⟩, hK, hF, hT, hS⟩ := id hR
  have eC : c 1 8 = nI C := hM.2.1
  have eC' : m 1 18 = nI C := hW.2.2.1
  have bP : P ≤ 12 := hW.2.1
  have bC : C ≤ 6 := hW.2.2.2.1
  unfold wX4_judge
  refine c_sheetPre hS p1 _ _ (fun h => ?_) (fun k hk e e7 => ?_) (fun k hk e e7 => ?_)
  · unfold wX5_judge
    refine m_wrong0 h _ ⟨fun z => absurd z (by decide), fun _ => ?_⟩
    rw [finds0]
    exact ⟨rfl, hR.find (by decide)⟩
  · subst e
    unfold wX5_judge
    refine m_wrong6 hk e7 _ ⟨fun z => absurd z (by decide), fun _ => ?_⟩
    rw [finds5]
    exact ⟨rfl, hR.find (by decide)⟩
  · subst e
    obtain ⟨a1, a2, ⟨n, hn, n1, n2⟩, a4⟩ := hS k hk
    have v1 : vp_in (nI k) 4 := in_nI hk (by decide)
    rw [c_isCurve, eC, tell0]
    by_cases h1 : (0 : Int32) ≤ p2 ∧ p2 ≤ nI C - 1
    case neg =>
      rw [if_neg h1]
      refine ⟨fun z => absurd rfl z, fun _ => ?_⟩
      unfold wX5_judge
      refine m_wrongK hk e7 _ ⟨fun _ => ?_, fun z => absurd rfl z⟩
      rw [m_isCurve, eC', if_neg h1, finds0]
      exact ⟨fun z => absurd rfl z, fun _ => ⟨rfl, hR.find (by decide)⟩⟩
    rw [if_pos h1]
    refine ⟨fun _ => ?_, fun z => absurd z (by decide)⟩
    obtain ⟨u, hu, rfl⟩ := idx_of (by omega) h1
    refine c_work hW hM hu _ (fun c' hse hcv hsc => ?_)
    have fin0 := fun (post : Int32 → zz_H → Prop) (kk : ∀ m', SM m m' → MV m' (m 1) P (MK (m 1) P (m 1 (223 + 2 * u)) (m 1 (224 + 2 * u))) → ∃ t9, zz_lp (fun K (s : Int32) => wX5_judge_b39 (nI k) post m' K s) t9 0) => m_find hW hu (fun _ h3 => ∃ t9, zz_lp (fun K (s : Int32) => wX5_judge_b39 (nI k) post h3 K s) t9 0) kk
    generalize MK (m 1) P (m 1 (223 + 2 * u)) (m 1 (224 + 2 * u)) = M at hcv fin0
    have f1 := fa_first_le (fun i => decide (¬ c (36 + 2 * k) i = M i)) (min n P)
    have f2 := fa_first_no (fun i => decide (¬ c (36 + 2 * k) i = M i)) (min n P)
    have f3 := fa_first_yes (fun i => decide (¬ c (36 + 2 * k) i = M i)) (min n P)
    generalize fa_first (fun i => decide (¬ c (36 + 2 * k) i = M i)) (min n P) = N at f1 f2 f3
    have g2 : ∀ i, i < N → c (36 + 2 * k) i = M i := fun i hi => by
      have := f2 i hi
      simpa using this
    have g3 : N < n → N < P → ¬ c (36 + 2 * k) N = M N := fun q1 q2 => by
      have := f3 (by omega)
      exact of_decide_eq_true this
    have hNn : N ≤ n := by omega
    have hNP : N ≤ P := by omega
    have fin : ∀ post : Int32 → zz_H → Prop, (∀ m', SM m m' → post (if N = n ∧ N = P then 0 else 1 + nI N) m') → wX5_judge (nI k) (nI u) m post := by
      intro post kx
      unfold wX5_judge
      refine m_wrongK hk e7 _ ⟨fun _ => ?_, fun z => absurd rfl z⟩
      rw [m_isCurve, eC', if_pos h1]
      refine ⟨fun _ => fin0 _ (fun m' hsm hmv => ?_), fun z => absurd z (by decide)⟩
      have kx := kx m' hsm
      have e17 : m' 1 17 = nI P := by rw [hmv.1]; exact hmv.2.1
      have e8 : m' 8 k = nI n := by rw [hsm 8 (by decide) (by decide) (by decide)]; exact n2
      have e9 : m' 9 = m 9 := hsm 9 (by decide) (by decide) (by decide)
      refine lp_for N (fun j => nI j) ?_ ?_
      · intro j hj K hK
        refine ⟨v1, ?_⟩
        rw [nI_clamp (show k < 2 ^ 31 by omega), e8, e17]
        refine ⟨fun z => absurd z (lt_nle (by omega) (by omega)), fun _ => ⟨fun z => absurd z (lt_nle (by omega) (by omega)), fun _ => ?_⟩⟩
        rw [ix_40, nI_clamp (by omega), nI_clamp (by omega), e9, ← a4 j (by omega), hmv.2.2.2 j (by omega), nI_1]
        exact ⟨in_nI (by omega) (by decide), in_nI (by omega) (by decide), fun z => absurd (g2 j hj) z, fun _ => hK⟩
      · intro K
        have jj : wX5_judge_j90 (nI k) post m' (nI N) := by
          unfold wX5_judge_j90
          rw [nI_clamp (show k < 2 ^ 31 by omega), e8, e17]
          refine ⟨v1, fun z => ?_, fun z => ⟨fun z' => ?_, fun z' => ?_⟩⟩
          · rw [if_neg (fun w => z (by rw [w.1]))] at kx
            exact kx
          · rw [if_neg (fun w => z' (by rw [← w.2]))] at kx
            exact kx
          · rw [if_pos ⟨(nI_eq (by omega) (by omega)).mp z, (nI_eq (by omega) (by omega)).mp z'⟩] at kx
            exact kx
        refine ⟨v1, ?_⟩
        rw [nI_clamp (show k < 2 ^ 31 by omega), e8, e17]
        refine ⟨fun _ => jj, fun z1 => ⟨fun _ => jj, fun z2 => ?_⟩⟩
        have q1 : N < n := Nat.lt_of_not_le (fun z => z1 (nI_le z (by omega)))
        have q2 : N < P := Nat.lt_of_not_le (fun z => z2 (nI_le z (by omega)))
        rw [ix_40, nI_clamp (by omega), nI_clamp (by omega), e9, ← a4 N (by omega), hmv.2.2.2 N (by omega)]
        exact ⟨in_nI (by omega) (by decide), in_nI (by omega) (by decide), fun _ => jj, fun z => absurd z (g3 q1 q2)⟩
    have e2 : c' (35 + 2 * k) 2 = nI n := by rw [hse (35 + 2 * k) (by omega)]; exact n1
    have e3 : c' (36 + 2 * k) = c (36 + 2 * k) := hse _ (by omega)
    have kx := fin (fun r' m' => (if N = n ∧ N = P then 0 else 1 + nI N) = r' ∧ Rel c' m') (fun m' hsm => ⟨rfl, hR.se hse hsm⟩)
    refine lp_for N (fun j => nI j) ?_ ?_
    · intro j hj K hK
      unfold wX4_judge_b58
      rw [sh_eq hk, s36, e2, e3, hcv.1]
      refine ⟨fun z => absurd z (lt_nle (by omega) (by omega)), fun _ => ⟨fun z => absurd z (lt_nle (by omega) (by omega)), fun _ => ?_⟩⟩
      rw [nI_clamp (by omega), hcv.2.2.1 j (by omega), nI_1]
      exact ⟨in_nI (by omega) (by decide), in_nI (by omega) (by decide), fun z => absurd (g2 j hj) z, fun _ => hK⟩
    · intro K
      have jj : wX4_judge_j102 (nI k) (fun r c' => wX5_judge (nI k) (nI u) m (fun r' m' => r = r' ∧ Rel c' m')) c' (nI N) := by
        unfold wX4_judge_j102
        rw [sh_eq hk, e2, hcv.1]
        refine ⟨fun z => ?_, fun z => ⟨fun z' => ?_, fun z' => ?_⟩⟩
        · rw [if_neg (fun w => z (by rw [w.1]))] at kx
          exact kx
        · rw [if_neg (fun w => z' (by rw [← w.2]))] at kx
          exact kx
        · rw [if_pos ⟨(nI_eq (by omega) (by omega)).mp z, (nI_eq (by omega) (by omega)).mp z'⟩] at kx
          exact kx
      unfold wX4_judge_b58
      rw [sh_eq hk, s36, e2, e3, hcv.1]
      refine ⟨fun _ => jj, fun z1 => ⟨fun _ => jj, fun z2 => ?_⟩⟩
      have q1 : N < n := Nat.lt_of_not_le (fun z => z1 (nI_le z (by omega)))
      have q2 : N < P := Nat.lt_of_not_le (fun z => z2 (nI_le z (by omega)))
      rw [nI_clamp (by omega), hcv.2.2.1 N (by omega)]
      exact ⟨in_nI (by omega) (by decide), in_nI (by omega) (by decide), fun _ => jj, fun z => absurd z (g3 q1 q2)⟩
