/-! the reference's readings -/
theorem lt_nle {j N : Nat} (h : j < N) (hN : N < 2147483648) : ¬ nI N ≤ nI j := nI_ge h hN
theorem m_score {m : zz_H} {p q : Nat} (hp : p < 12) (hq : q < 8) (post : Int32 → Prop) (k : post (sc (m 1) p q)) : wX5_score (nI p) (nI q) m post := by
  unfold wX5_score
  simp only [at_eq]
  have e0 : (19 : Int32) + 17 * nI p + 1 + 8 * 0 + nI q = nI (20 + 17 * p + q) := ix_at p 0 q
  have e1 : (19 : Int32) + 17 * nI p + 1 + 8 * 1 + nI q = nI (28 + 17 * p + q) := by
    have := ix_at p 1 q
    rw [show 20 + 17 * p + 8 * 1 + q = 28 + 17 * p + q by omega] at this
    exact this
  rw [e0, e1, nI_clamp (by omega), nI_clamp (by omega)]
  exact ⟨in_nI (by omega) (by decide), in_nI (by omega) (by decide), k⟩
theorem m_raw {m : zz_H} {p : Nat} (hp : p < 12) (post : Int32 → Prop) (k : post (rawS (sc (m 1)) p)) : wX5_raw (nI p) m post := by
  refine lp_for 8 (fun j => (zsum (sc (m 1) p) j, nI j)) ?_ ?_
  · intro j hj K hK
    refine ⟨fun h => absurd h (lt_nle (N := 8) hj (by decide)), fun _ => ?_⟩
    refine m_score hp hj _ ?_
    show K (zsum (sc (m 1) p) j + sc (m 1) p j, nI j + 1)
    rw [nI_1]; exact hK
  · intro K
    exact ⟨fun _ => k, fun h => absurd (show nI 8 ≤ nI 8 from nI_le (Nat.le_refl 8) (by decide)) h⟩
theorem m_full {m : zz_H} (post : Int32 → Prop) (k : post (fullW (m 1))) : wX5_full m post := by
  refine lp_for 8 (fun j => (zsum (m 1) j, nI j)) ?_ ?_
  · intro j hj K hK
    refine ⟨fun h => absurd h (lt_nle (N := 8) hj (by decide)), fun _ => ?_⟩
    show vp_in (0 + nI j) 245 ∧ K (zsum (m 1) j + m 1 (0 + nI j).toNatClampNeg, nI j + 1)
    rw [ix_0, nI_clamp (by omega), nI_1]
    exact ⟨in_nI (by omega) (by decide), hK⟩
  · intro K
    exact ⟨fun _ => k, fun h => absurd (show nI 8 ≤ nI 8 from nI_le (Nat.le_refl 8) (by decide)) h⟩
theorem m_greatest {m : zz_H} {P : Nat} (e : m 1 17 = nI P) (hP : P ≤ 12) (post : Int32 → Prop) (k : post (grS (sc (m 1)) P)) : wX5_greatest m post := by
  refine lp_for P (fun j => (zmx (rawS (sc (m 1))) j, nI j)) ?_ ?_
  · intro j hj K hK
    refine ⟨fun h => absurd (show nI P ≤ nI j from e ▸ h) (lt_nle hj (by omega)), fun _ => ?_⟩
    refine m_raw (by omega) _ ?_
    show (rawS (sc (m 1)) j ≤ zmx (rawS (sc (m 1))) j → K (zmx (rawS (sc (m 1))) j, nI j + 1)) ∧ (¬ rawS (sc (m 1)) j ≤ zmx (rawS (sc (m 1))) j → K (rawS (sc (m 1)) j, nI j + 1))
    rw [nI_1]
    have hK : K (zz_max (zmx (rawS (sc (m 1))) j) (rawS (sc (m 1)) j), nI (j + 1)) := hK
    unfold zz_max at hK
    refine ⟨fun h => ?_, fun h => ?_⟩
    · rw [if_neg (fun q => (fa_of_lt q).2.1 h)] at hK; exact hK
    · rw [if_pos (fa_of_nle h)] at hK; exact hK
  · intro K
    exact ⟨fun _ => k, fun h => absurd (show m 1 17 ≤ nI P from e ▸ nI_le (Nat.le_refl P) (by omega)) h⟩
theorem m_oldMean {m : zz_H} (post : Int32 → Prop) (k : post (omO (fun q => m 1 (8 + q)))) : wX5_oldMean m post := by
  refine lp_for 8 (fun j => (zsum (fun q => if 0 ≤ m 1 (8 + q) then m 1 (8 + q) else 0) j, nI j)) ?_ ?_
  · intro j hj K hK
    refine ⟨fun h => absurd h (lt_nle (N := 8) hj (by decide)), fun _ => ?_⟩
    have v : vp_in (nI (8 + j)) 245 := in_nI (by omega) (by decide)
    have hK : K (zsum (fun q => if 0 ≤ m 1 (8 + q) then m 1 (8 + q) else 0) j + (if 0 ≤ m 1 (8 + j) then m 1 (8 + j) else 0), nI (j + 1)) := hK
    generalize zsum (fun q => if 0 ≤ m 1 (8 + q) then m 1 (8 + q) else 0) j = z at hK ⊢
    show vp_in (8 + nI j) 245 ∧ ((0 ≤ m 1 (8 + nI j).toNatClampNeg → vp_in (8 + nI j) 245 ∧ K (z + m 1 (8 + nI j).toNatClampNeg, nI j + 1)) ∧ (¬ 0 ≤ m 1 (8 + nI j).toNatClampNeg → K (z + 0, nI j + 1)))
    rw [ix_old, nI_clamp (by omega), nI_1]
    refine ⟨v, fun h => ⟨v, ?_⟩, fun h => ?_⟩
    · rw [if_pos h] at hK; exact hK
    · rw [if_neg h] at hK; exact hK
  · intro K
    exact ⟨fun _ => k, fun h => absurd (show nI 8 ≤ nI 8 from nI_le (Nat.le_refl 8) (by decide)) h⟩
theorem m_newMean {m : zz_H} {P : Nat} (e : m 1 17 = nI P) (hP : P ≤ 12) (h0 : 0 < P) (post : Int32 → Prop) (k : post (nmS (sc (m 1)) (fun q => m 1 (8 + q)) P)) : wX5_newMean m post := by
  refine lp_for 8 (fun j => (zsum (fun q => if 0 ≤ m 1 (8 + q) then zsum (fun p => sc (m 1) p q) P else 0) j, nI j)) ?_ ?_
  · intro j hj K hK
    refine ⟨fun h => absurd h (lt_nle (N := 8) hj (by decide)), fun _ => ?_⟩
    have v : vp_in (nI (8 + j)) 245 := in_nI (by omega) (by decide)
    have hK : K (zsum (fun q => if 0 ≤ m 1 (8 + q) then zsum (fun p => sc (m 1) p q) P else 0) j + (if 0 ≤ m 1 (8 + j) then zsum (fun p => sc (m 1) p j) P else 0), nI (j + 1)) := hK
    show ∃ t9, zz_lp (fun K' (s : Int32 × Int32) => wX5_newMean_b12 m (nI j) K K' s.1 s.2) t9 (zsum (fun q => if 0 ≤ m 1 (8 + q) then zsum (fun p => sc (m 1) p q) P else 0) j, 0)
    generalize zsum (fun q => if 0 ≤ m 1 (8 + q) then zsum (fun p => sc (m 1) p q) P else 0) j = z at hK ⊢
    by_cases ho : 0 ≤ m 1 (8 + j)
    · rw [if_pos ho] at hK
      have := lp_for (b := fun K' (s : Int32 × Int32) => wX5_newMean_b12 m (nI j) K K' s.1 s.2) P (fun i => (z + zsum (fun p => sc (m 1) p j) i, nI i)) ?_ ?_
      · have e0 : z + zsum (fun p => sc (m 1) p j) 0 = z := Int32.add_zero z
        simp only [e0] at this
        exact this
      · intro i hi K' hK'
        refine ⟨fun h => absurd (show nI P ≤ nI i from e ▸ h) (lt_nle hi (by omega)), fun _ => ?_⟩
        show vp_in (8 + nI j) 245 ∧ ((m 1 (8 + nI j).toNatClampNeg < 0 → _) ∧ (¬ m 1 (8 + nI j).toNatClampNeg < 0 → _))
        rw [ix_old, nI_clamp (by omega)]
        refine ⟨v, fun h => absurd ho (fa_of_lt h).2.1, fun _ => ?_⟩
        refine m_score (by omega) hj _ ?_
        show K' (z + zsum (fun p => sc (m 1) p j) i + sc (m 1) i j, nI i + 1)
        rw [nI_1, Int32.add_assoc]
        exact hK'
      · intro K'
        refine ⟨fun _ => ?_, fun h => absurd (show m 1 17 ≤ nI P from e ▸ nI_le (Nat.le_refl P) (by omega)) h⟩
        show K (z + zsum (fun p => sc (m 1) p j) P, nI j + 1)
        rw [nI_1]; exact hK
    · rw [if_neg ho, Int32.add_zero] at hK
      refine lp_for (b := fun K' (s : Int32 × Int32) => wX5_newMean_b12 m (nI j) K K' s.1 s.2) 0 (fun _ => (z, 0)) (fun i hi => absurd hi (by omega)) ?_
      intro K'
      refine ⟨fun _ => ?_, fun _ => ?_⟩
      · show K (z, nI j + 1)
        rw [nI_1]; exact hK
      · show vp_in (8 + nI j) 245 ∧ ((m 1 (8 + nI j).toNatClampNeg < 0 → K (z, nI j + 1)) ∧ (¬ m 1 (8 + nI j).toNatClampNeg < 0 → _))
        rw [ix_old, nI_clamp (by omega), nI_1]
        exact ⟨v, fun _ => hK, fun h => absurd (fa_of_nlt h) ho⟩
  · intro K
    refine ⟨fun _ => ?_, fun h => absurd (show nI 8 ≤ nI 8 from nI_le (Nat.le_refl 8) (by decide)) h⟩
    show ¬ m 1 17 = 0 ∧ post (10 * csS (sc (m 1)) (fun q => m 1 (8 + q)) P / m 1 17)
    rw [e]
    exact ⟨nI_ne0 h0 (by omega), k⟩
theorem m_stretched {m : zz_H} {P p : Nat} (e : m 1 17 = nI P) (hP : P ≤ 12) (hp : p < 12) (post : Int32 → Prop) (k : post (strS (sc (m 1)) P p)) : wX5_stretched (nI p) m post := by
  unfold wX5_stretched
  refine m_greatest e hP _ ?_
  unfold strS at k
  refine ⟨fun h => m_raw hp _ ⟨h, ?_⟩, fun h => ?_⟩
  · rw [if_neg h] at k; exact k
  · rw [if_pos h] at k; exact k
theorem rtn_spec {n : Nat} (hn : n ≤ 10000) : rtn n ≤ 100 ∧ n < (rtn n + 1) * (rtn n + 1) ∧ ∀ r, r < rtn n → ¬ n < (r + 1) * (r + 1) := by
  have h1 := fa_first_le (fun r => decide (n < (r + 1) * (r + 1))) 101
  have h2 := fa_first_yes (fun r => decide (n < (r + 1) * (r + 1))) 101
  have h3 := fa_first_no (fun r => decide (n < (r + 1) * (r + 1))) 101
  have key : rtn n ≤ 100 := by
    rcases Nat.lt_or_ge (rtn n) 101 with h | h
    · omega
    · have := h3 100 (show 100 < rtn n by omega)
      have : ¬ n < (100 + 1) * (100 + 1) := of_decide_eq_false this
      omega
  exact ⟨key, of_decide_eq_true (h2 (show rtn n < 101 by omega)), fun r hr => of_decide_eq_false (h3 r hr)⟩
theorem sq_nI (r : Nat) : (nI r + 1) * (nI r + 1) = nI ((r + 1) * (r + 1)) := by rw [nI_1, pk_mul]
theorem sq_lt {n r : Nat} (hn : n ≤ 10000) (hr : r ≤ 100) : nI n < (nI r + 1) * (nI r + 1) ↔ n < (r + 1) * (r + 1) := by
  have : (r + 1) * (r + 1) ≤ 101 * 101 := Nat.mul_le_mul (by omega) (by omega)
  rw [sq_nI]
  exact nI_ltI (by omega) (by omega)
theorem m_root {m : zz_H} {n : Nat} (hn : n ≤ 10000) (post : Int32 → Prop) (k : post (nI (rtn n))) : wX5_root (nI n) m post := by
  obtain ⟨h1, h2, h3⟩ := rtn_spec hn
  refine lp_for (rtn n) (fun j => nI j) ?_ ?_
  · intro j hj K hK
    refine ⟨fun h => absurd ((sq_lt hn (by omega)).mp h) (h3 j hj), fun _ => ?_⟩
    show K (nI j + 1)
    rw [nI_1]; exact hK
  · intro K
    exact ⟨fun _ => k, fun h => absurd ((sq_lt hn h1).mpr h2) h⟩
theorem m_shared {m : zz_H} {P p : Nat} (e : m 1 17 = nI P) (hP : P ≤ 12) (hp : p < 12) (b : Int32) (post : Int32 → Prop) (k : post (shS (sc (m 1)) P b p)) : wX5_shared (nI p) b m post := by
  unfold wX5_shared
  refine m_raw hp _ ?_
  have := lp_for (b := fun K (s : Int32 × Int32) => wX5_shared_b12 b m post (rawS (sc (m 1)) p) K s.1 s.2) P (fun j => (1 + zsum (fun k => if rawS (sc (m 1)) k ≤ rawS (sc (m 1)) p then 0 else 1) j, nI j)) ?_ ?_
  · exact this
  · intro j hj K hK
    refine ⟨fun h => absurd (show nI P ≤ nI j from e ▸ h) (lt_nle hj (by omega)), fun _ => ?_⟩
    refine m_raw (by omega) _ ?_
    have hK : K (1 + (zsum (fun k => if rawS (sc (m 1)) k ≤ rawS (sc (m 1)) p then 0 else 1) j + (if rawS (sc (m 1)) j ≤ rawS (sc (m 1)) p then 0 else 1)), nI (j + 1)) := hK
    rw [← Int32.add_assoc] at hK
    generalize 1 + zsum (fun k => if rawS (sc (m 1)) k ≤ rawS (sc (m 1)) p then (0 : Int32) else 1) j = z at hK ⊢
    show (rawS (sc (m 1)) j ≤ rawS (sc (m 1)) p → K (z + 0, nI j + 1)) ∧ (¬ rawS (sc (m 1)) j ≤ rawS (sc (m 1)) p → K (z + 1, nI j + 1))
    rw [nI_1]
    exact ⟨fun h => by rw [if_pos h] at hK; exact hK, fun h => by rw [if_neg h] at hK; exact hK⟩
  · intro K
    refine ⟨fun _ => ?_, fun h => absurd (show m 1 17 ≤ nI P from e ▸ nI_le (Nat.le_refl P) (by omega)) h⟩
    show wX5_shared_j49 b m post (plS (sc (m 1)) P p)
    unfold wX5_shared_j49
    unfold shS at k
    rw [e]
    refine ⟨fun h => ⟨fun h2 => ?_, fun h2 => ?_⟩, fun h => ?_⟩
    · rw [if_pos h, if_pos h2] at k; exact k
    · rw [if_pos h, if_neg h2] at k; exact k
    · rw [if_neg h] at k; exact k
theorem lk_eq {f v : Int32} (hf : 0 ≤ f.toInt) : zz_max 0 (zz_min f v) = if 0 ≤ v then (if v ≤ f then v else f) else 0 := by
  rw [fa_eq, max_toInt, min_toInt]
  have h0 : (0 : Int32).toInt = 0 := rfl
  by_cases h1 : 0 ≤ v
  · rw [if_pos h1]
    rw [fa_le] at h1
    by_cases h2 : v ≤ f
    · rw [if_pos h2]; rw [fa_le] at h2; omega
    · rw [if_neg h2]; rw [fa_le] at h2; omega
  · rw [if_neg h1]
    rw [fa_le] at h1
    omega
theorem m_linked {m : zz_H} {P p : Nat} (e : m 1 17 = nI P) (ok : OK (sc (m 1)) (m 1) P) (hp : p < P) (post : Int32 → Prop) (k : post (lkS (sc (m 1)) (m 1) (fun q => m 1 (8 + q)) P p)) : wX5_linked (nI p) m post := by
  have hP := ok.1
  unfold wX5_linked
  refine m_raw (by omega) _ (m_oldMean _ (m_newMean e hP (by omega) _ ?_))
  unfold lkS at k
  rw [lk_eq ok.full.1] at k
  refine ⟨fun h => m_full _ ⟨fun h2 => ?_, fun h2 => m_full _ ?_⟩, fun h => ?_⟩
  · rw [if_pos h, if_pos h2] at k; exact k
  · rw [if_pos h, if_neg h2] at k; exact k
  · rw [if_neg h] at k; exact k
theorem rem8 {b : Int32} (hb : zb b 0 100) : ∃ q : Nat, q < 8 ∧ zz_rem b 8 = nI q := by
  obtain ⟨j, hj, rfl⟩ := zb_nI (n := 100) hb
  refine ⟨j % 8, Nat.mod_lt _ (by decide), ?_⟩
  exact pk_rem (a := j) (d := 8) (by omega) (by decide) (by decide)
theorem m_dropped {m : zz_H} {p : Nat} (hp : p < 12) {b : Int32} (hb : zb b 0 100) (post : Int32 → Prop) (k : post (drS (sc (m 1)) (m 1) b p)) : wX5_dropped (nI p) (zz_rem b 8) m post := by
  obtain ⟨q, hq, eq⟩ := rem8 hb
  unfold drS at k
  rw [eq, nI_clamp (by omega)] at k
  rw [eq]
  unfold wX5_dropped
  refine m_full _ ?_
  rw [ix_0, nI_clamp (by omega)]
  refine ⟨in_nI (by omega) (by decide), fun h => m_full _ (m_raw hp _ (m_score hp hq _ ⟨h, ?_⟩)), fun h => ?_⟩
  · rw [if_neg h] at k; exact k
  · rw [if_pos h] at k; exact k
theorem OK.str {S : Nat → Nat → Int32} {W : Nat → Int32} {P p : Nat} (h : OK S W P) (hp : p < P) : ∃ n : Nat, n ≤ 100 ∧ strS S P p = nI n := by
  unfold strS
  by_cases e : grS S P = 0
  · rw [if_pos e]; exact ⟨0, by decide, rfl⟩
  · rw [if_neg e]
    have h1 := h.raw hp
    have h2 : zb (grS S P) 0 320 := ⟨zmx_pos _ _, zmx_le (by decide) (fun i hi => (h.raw hi).2)⟩
    have h3 : (rawS S p).toInt ≤ (grS S P).toInt := zmx_ge (rawS S) hp
    obtain ⟨a, ha, ea⟩ := zb_nI (n := 320) h1
    obtain ⟨g, hg, eg⟩ := zb_nI (n := 320) h2
    rw [ea, eg, nI_toInt (by omega), nI_toInt (by omega)] at h3
    rw [eg] at e
    have g0 : 0 < g := by
      rcases Nat.eq_zero_or_pos g with q | q
      · subst q; exact absurd rfl e
      · exact q
    refine ⟨100 * a / g, ?_, ?_⟩
    · exact Nat.div_le_of_le_mul (by rw [Nat.mul_comm]; exact Nat.mul_le_mul_right 100 (by omega))
    · rw [ea, eg]
      show nI 100 * nI a / nI g = _
      rw [pk_mul, pk_div (by omega) g0 (by omega)]
theorem m_markOf {m : zz_H} {P C p k : Nat} (hW : WF (m 1) P C) (hk : k < C) (hp : p < P) (post : Int32 → Prop) (kk : post (mkS (sc (m 1)) (m 1) (fun q => m 1 (8 + q)) P (m 1 (223 + 2 * k)) (m 1 (224 + 2 * k)) p)) : wX5_markOf (nI k) (nI p) m post := by
  have e := hW.1
  have hP := hW.2.1
  have hC := hW.2.2.2.1
  have ok := hW.ok
  have hb := (hW.2.2.2.2.2.2.2.2.1 k hk).2
  unfold wX5_markOf
  rw [ix_by, ix_kind, nI_clamp (by omega), nI_clamp (by omega)]
  refine ⟨in_nI (by omega) (by decide), m_raw (by omega) _ ⟨in_nI (by omega) (by decide), ?_⟩⟩
  unfold mkS at kk
  generalize m 1 (223 + 2 * k) = kd at kk ⊢
  refine ⟨fun h => ?_, fun h => ?_, fun h => ?_, fun h => ?_, fun h => ?_, fun h => ?_, fun n1 n2 n3 n4 n5 n6 => ?_⟩
  · rw [if_pos h] at kk
    unfold zz_min at kk
    refine m_full _ ⟨fun h2 => ?_, fun h2 => m_full _ ?_⟩
    · rw [if_neg (fun q => (fa_of_lt q).2.1 h2)] at kk; exact kk
    · rw [if_pos (fa_of_nle h2)] at kk; exact kk
  · subst h; exact m_stretched e hP (by omega) _ kk
  · subst h
    refine m_stretched e hP (by omega) _ ?_
    have kk : post (rtI (100 * strS (sc (m 1)) P p)) := kk
    obtain ⟨n, hn, en⟩ := ok.str hp
    rw [en] at kk ⊢
    have e2 : (100 : Int32) * nI n = nI (100 * n) := pk_mul 100 n
    rw [e2] at kk ⊢
    refine m_root (by omega) _ ?_
    unfold rtI at kk
    rw [nI_clamp (by omega)] at kk
    exact kk
  · subst h; exact m_shared e hP (by omega) _ _ kk
  · subst h; exact m_linked e ok hp _ kk
  · subst h; exact m_dropped (by omega) hb _ kk
  · rw [if_neg n1, if_neg n2, if_neg n3, if_neg n4, if_neg n5, if_neg n6] at kk; exact kk
