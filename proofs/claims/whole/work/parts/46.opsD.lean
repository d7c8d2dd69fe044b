set_option maxRecDepth 20000 in
set_option maxHeartbeats 4000000 in
theorem op_mark {c m : zz_H} (hR : Rel c m) (p1 : Int32) (p2 : Int32) : wX4_mark p1 p2 c (fun r c' => wX5_mark p1 p2 m (fun r' m' => r = r' ∧ Rel c' m')) := by
  obtain ⟨⟨P, C, hW, hM⟩, hK, hF, hT, hS⟩ := id hR
  have eP : c 1 7 = nI P := hM.1
  have eC : c 1 8 = nI C := hM.2.1
  have eP' : m 1 17 = nI P := hW.1
  have eC' : m 1 18 = nI C := hW.2.2.1
  have bP : P ≤ 12 := hW.2.1
  have bC : C ≤ 6 := hW.2.2.2.1
  unfold wX4_mark wX5_mark 
  by_cases h0 : (0 : Int32) ≤ p1 ∧ p1 ≤ nI C - 1
  case neg =>
    simp only [tell0, tell1, tell2, tell3, tell4, tell5, tell6, finds0, finds1, finds2, finds3, finds4, finds5, finds6, c_isQuestion, c_isMarker, c_isKind, c_isBy, c_isLine, c_isSpot, c_isSheet, c_isPupil, c_isCurve, m_isQuestion, m_isLine, m_isOne, m_isPupil, m_isCurve, within_eq, in_eq, wl_ge0, wl_ge1, wl_le1, wl_le3, wl_le4, wl_le5, wl_le6, wl_le7, wl_le9, wl_le12, wl_le40, wl_le100, wl_le400, wl_gem1, wl_ww, zz_10, not_false_eq_true, not_true_eq_false, true_and, and_true, false_implies, true_implies, forall_const, eP, eC, eP', eC', if_neg h0]
    exact hR.find (i := 0) (by decide)
  by_cases h1 : (0 : Int32) ≤ p2 ∧ p2 ≤ nI P - 1
  case neg =>
    simp only [tell0, tell1, tell2, tell3, tell4, tell5, tell6, finds0, finds1, finds2, finds3, finds4, finds5, finds6, c_isQuestion, c_isMarker, c_isKind, c_isBy, c_isLine, c_isSpot, c_isSheet, c_isPupil, c_isCurve, m_isQuestion, m_isLine, m_isOne, m_isPupil, m_isCurve, within_eq, in_eq, wl_ge0, wl_ge1, wl_le1, wl_le3, wl_le4, wl_le5, wl_le6, wl_le7, wl_le9, wl_le12, wl_le40, wl_le100, wl_le400, wl_gem1, wl_ww, zz_10, not_false_eq_true, not_true_eq_false, true_and, and_true, false_implies, true_implies, forall_const, eP, eC, eP', eC', if_pos h0, if_neg h1]
    exact hR.find (i := 0) (by decide)
  simp only [tell0, tell1, tell2, tell3, tell4, tell5, tell6, finds0, finds1, finds2, finds3, finds4, finds5, finds6, c_isQuestion, c_isMarker, c_isKind, c_isBy, c_isLine, c_isSpot, c_isSheet, c_isPupil, c_isCurve, m_isQuestion, m_isLine, m_isOne, m_isPupil, m_isCurve, within_eq, in_eq, wl_ge0, wl_ge1, wl_le1, wl_le3, wl_le4, wl_le5, wl_le6, wl_le7, wl_le9, wl_le12, wl_le40, wl_le100, wl_le400, wl_gem1, wl_ww, zz_10, not_false_eq_true, not_true_eq_false, true_and, and_true, false_implies, true_implies, forall_const, eP, eC, eP', eC', if_pos h0, if_pos h1]
  obtain ⟨k, hk, rfl⟩ := idx_of (by omega) h0
  have hb := (hW.2.2.2.2.2.2.2.2.1 k hk).2
  have hz : ∀ p, p < P → zb (MK (m 1) P (m 1 (223 + 2 * k)) (m 1 (224 + 2 * k)) p) 0 320 := fun p hp => MK_zb hW hp _ hb
  
  obtain ⟨p, hp, rfl⟩ := idx_of (by omega) h1
  refine c_read hM bP _ (fun c1 ho hs => ?_)
  have v : vp_in (nI k) 6 := in_nI (by omega) (by decide)
  refine ⟨v, v, ?_⟩
  rw [nI_clamp (by omega), ho 6 (by omega), ho 7 (by omega), show c 6 k = m 1 (223 + 2 * k) from (hM.2.2.2.2.2.2.2.1 k hk).1, show c 7 k = m 1 (224 + 2 * k) from (hM.2.2.2.2.2.2.2.1 k hk).2]
  refine c_markOf hs (sS_ok hW.ok) hp _ hb _ ?_
  rw [MK_sS hp _ hb]
  exact m_markOf hW hk hp _ ⟨rfl, hR.se (fun j hj => ho j (by omega)) (SM.rf m)⟩
theorem m_placeLoop {m : zz_H} {s : Nat → Int32} {P : Nat} {M : Nat → Int32} (h : MV m s P M) {p : Nat} (hp : p < P) (post : Int32 → zz_H → Prop) (k : post (nI (1 + fb_ct (fun j => !decide (M j ≤ M p)) P)) m) : ∃ t9, zz_lp (fun K (s : Int32 × Int32) => wX5_place_b33 (nI p) post m K s.1 s.2) t9 (1, 0) := by
  obtain ⟨h1, h2, hP, h3⟩ := h
  have e : m 1 17 = nI P := by rw [h1]; exact h2
  refine lp_for P (fun j => (nI (1 + fb_ct (fun j => !decide (M j ≤ M p)) j), nI j)) ?_ ?_
  · intro j hj K hK
    refine ⟨fun z => absurd (show nI P ≤ nI j from e ▸ z) (lt_nle hj (by omega)), fun _ => ?_⟩
    have hK : K (nI (1 + (fb_ct (fun j => !decide (M j ≤ M p)) j + (if !decide (M j ≤ M p) then 1 else 0))), nI (j + 1)) := hK
    generalize fb_ct (fun j => !decide (M j ≤ M p)) j = z at hK ⊢
    show vp_in (nI j) 12 ∧ (vp_in (nI p) 12 ∧ ((m 5 (nI j).toNatClampNeg ≤ m 5 (nI p).toNatClampNeg → K (nI (1 + z) + 0, nI j + 1)) ∧ (¬ m 5 (nI j).toNatClampNeg ≤ m 5 (nI p).toNatClampNeg → K (nI (1 + z) + 1, nI j + 1))))
    rw [nI_clamp (by omega), nI_clamp (by omega), nI_ct, nI_1, nI_1, h3 j hj, h3 p hp]
    refine ⟨in_nI (by omega) (by decide), in_nI (by omega) (by decide), fun q => ?_, fun q => ?_⟩
    · rw [if_neg (by simpa using q)] at hK; exact hK
    · rw [if_pos (by simpa using q)] at hK; exact hK
  · intro K
    exact ⟨fun _ => k, fun z => absurd (show m 1 17 ≤ nI P from e ▸ nI_le (Nat.le_refl P) (by omega)) z⟩
theorem succ_le {x y : Int32} (hx : zb x 0 1000) : x + 1 ≤ y ↔ ¬ y ≤ x := by
  have e : (x + 1).toInt = x.toInt + 1 := fb_addI (by have := hx.1; show _ ≤ _ + (1 : Int); omega) (by have := hx.2; show _ + (1 : Int) < _; omega)
  rw [fa_le, fa_le, e]
  omega
set_option maxRecDepth 20000 in
set_option maxHeartbeats 4000000 in
theorem op_place {c m : zz_H} (hR : Rel c m) (p1 : Int32) (p2 : Int32) : wX4_place p1 p2 c (fun r c' => wX5_place p1 p2 m (fun r' m' => r = r' ∧ Rel c' m')) := by
  obtain ⟨⟨P, C, hW, hM⟩, hK, hF, hT, hS⟩ := id hR
  have eP : c 1 7 = nI P := hM.1
  have eC : c 1 8 = nI C := hM.2.1
  have eP' : m 1 17 = nI P := hW.1
  have eC' : m 1 18 = nI C := hW.2.2.1
  have bP : P ≤ 12 := hW.2.1
  have bC : C ≤ 6 := hW.2.2.2.1
  unfold wX4_place wX5_place 
  by_cases h0 : (0 : Int32) ≤ p1 ∧ p1 ≤ nI C - 1
  case neg =>
    simp only [tell0, tell1, tell2, tell3, tell4, tell5, tell6, finds0, finds1, finds2, finds3, finds4, finds5, finds6, c_isQuestion, c_isMarker, c_isKind, c_isBy, c_isLine, c_isSpot, c_isSheet, c_isPupil, c_isCurve, m_isQuestion, m_isLine, m_isOne, m_isPupil, m_isCurve, within_eq, in_eq, wl_ge0, wl_ge1, wl_le1, wl_le3, wl_le4, wl_le5, wl_le6, wl_le7, wl_le9, wl_le12, wl_le40, wl_le100, wl_le400, wl_gem1, wl_ww, zz_10, not_false_eq_true, not_true_eq_false, true_and, and_true, false_implies, true_implies, forall_const, eP, eC, eP', eC', if_neg h0]
    exact hR.find (i := 0) (by decide)
  by_cases h1 : (0 : Int32) ≤ p2 ∧ p2 ≤ nI P - 1
  case neg =>
    simp only [tell0, tell1, tell2, tell3, tell4, tell5, tell6, finds0, finds1, finds2, finds3, finds4, finds5, finds6, c_isQuestion, c_isMarker, c_isKind, c_isBy, c_isLine, c_isSpot, c_isSheet, c_isPupil, c_isCurve, m_isQuestion, m_isLine, m_isOne, m_isPupil, m_isCurve, within_eq, in_eq, wl_ge0, wl_ge1, wl_le1, wl_le3, wl_le4, wl_le5, wl_le6, wl_le7, wl_le9, wl_le12, wl_le40, wl_le100, wl_le400, wl_gem1, wl_ww, zz_10, not_false_eq_true, not_true_eq_false, true_and, and_true, false_implies, true_implies, forall_const, eP, eC, eP', eC', if_pos h0, if_neg h1]
    exact hR.find (i := 0) (by decide)
  simp only [tell0, tell1, tell2, tell3, tell4, tell5, tell6, finds0, finds1, finds2, finds3, finds4, finds5, finds6, c_isQuestion, c_isMarker, c_isKind, c_isBy, c_isLine, c_isSpot, c_isSheet, c_isPupil, c_isCurve, m_isQuestion, m_isLine, m_isOne, m_isPupil, m_isCurve, within_eq, in_eq, wl_ge0, wl_ge1, wl_le1, wl_le3, wl_le4, wl_le5, wl_le6, wl_le7, wl_le9, wl_le12, wl_le40, wl_le100, wl_le400, wl_gem1, wl_ww, zz_10, not_false_eq_true, not_true_eq_false, true_and, and_true, false_implies, true_implies, forall_const, eP, eC, eP', eC', if_pos h0, if_pos h1]
  obtain ⟨k, hk, rfl⟩ := idx_of (by omega) h0
  have hb := (hW.2.2.2.2.2.2.2.2.1 k hk).2
  have hz : ∀ p, p < P → zb (MK (m 1) P (m 1 (223 + 2 * k)) (m 1 (224 + 2 * k)) p) 0 320 := fun p hp => MK_zb hW hp _ hb
  
  obtain ⟨p, hp, rfl⟩ := idx_of (by omega) h1
  refine c_work hW hM hk _ (fun c' e cv _ => ?_)
  rw [nI_clamp (by omega), cv.2.2.1 p hp]
  refine ⟨in_nI (by omega) (by decide), c_marksFrom cv _ _ (m_find hW hk _ (fun m' f mv => m_placeLoop mv hp _ ⟨?_, hR.se e f⟩))⟩
  rw [show (1 : Int32) + nI _ = nI (1 + _) from nI_add 1 _]
  congr 2
  refine fb_ct_cong (fun j hj => ?_)
  have := succ_le (y := MK (m 1) P (m 1 (223 + 2 * k)) (m 1 (224 + 2 * k)) j) ⟨(hz p hp).1, by have := (hz p hp).2; omega⟩
  rw [← decide_not]
  exact decide_eq_decide.mpr this
theorem c_sumLoop {c : zz_H} {s : Nat → Int32} {P C : Nat} {M R : Nat → Int32} (h : CV c P M R) (hM : PM c 1 s P C) (v : Int32) (hv : v = -1 ∨ 0 ≤ v) (post : Int32 → zz_H → Prop) (k : post (zsum (fun p => if v < 0 ∨ s (19 + 17 * p) = v then M p else 0) P) c) : ∃ t9, zz_lp (fun K (s : Int32 × Int32) => wX4_sum_b34 v post c K s.1 s.2) t9 (0, 0) := by
  have hP := h.2.1
  refine lp_for P (fun j => (zsum (fun p => if v < 0 ∨ s (19 + 17 * p) = v then M p else 0) j, nI j)) ?_ ?_
  · intro j hj K hK
    refine ⟨fun z => absurd (show nI P ≤ nI j from h.1 ▸ z) (lt_nle hj (by omega)), fun _ => ?_⟩
    have hK : K (zsum (fun p => if v < 0 ∨ s (19 + 17 * p) = v then M p else 0) j + (if v < 0 ∨ s (19 + 17 * j) = v then M j else 0), nI (j + 1)) := hK
    generalize zsum (fun p => if v < 0 ∨ s (19 + 17 * p) = v then M p else 0) j = z at hK ⊢
    have w : vp_in (nI j) 12 := in_nI (by omega) (by decide)
    have jj : (v < 0 ∨ s (19 + 17 * j) = v) → wX4_sum_j65 c z (nI j) K := fun q => by
      unfold wX4_sum_j65
      rw [if_pos q] at hK
      rw [nI_clamp (by omega), nI_1, h.2.2.1 j hj]
      exact ⟨w, hK⟩
    show (v = -1 → wX4_sum_j65 c z (nI j) K) ∧ (¬ v = -1 → vp_in (nI j) 12 ∧ ((¬ c 4 (nI j).toNatClampNeg = v → K (z, nI j + 1)) ∧ (c 4 (nI j).toNatClampNeg = v → wX4_sum_j65 c z (nI j) K)))
    rw [nI_clamp (by omega), nI_1, show c 4 j = s (19 + 17 * j) from hM.2.2.2.2.2.1 j hj]
    refine ⟨fun q => jj (Or.inl (by rw [q]; decide)), fun q => ⟨w, fun q2 => ?_, fun q2 => jj (Or.inr q2)⟩⟩
    have : ¬ (v < 0 ∨ s (19 + 17 * j) = v) := by
      rintro (a | a)
      · rcases hv with b | b
        · exact q b
        · exact (fa_of_lt a).2.1 b
      · exact q2 a
    rw [if_neg this, Int32.add_zero] at hK
    exact hK
  · intro K
    exact ⟨fun _ => k, fun z => absurd (show c 1 7 ≤ nI P from h.1 ▸ nI_le (Nat.le_refl P) (by omega)) z⟩
theorem m_sumLoop {m : zz_H} {s : Nat → Int32} {P : Nat} {M : Nat → Int32} (h : MV m s P M) (v : Int32) (post : Int32 → zz_H → Prop) (k : post (zsum (fun p => if v < 0 ∨ s (19 + 17 * p) = v then M p else 0) P) m) : ∃ t9, zz_lp (fun K (s : Int32 × Int32) => wX5_sum_b39 v post m K s.1 s.2) t9 (0, 0) := by
  obtain ⟨h1, h2, hP, h3⟩ := h
  have e : m 1 17 = nI P := by rw [h1]; exact h2
  refine lp_for P (fun j => (zsum (fun p => if v < 0 ∨ s (19 + 17 * p) = v then M p else 0) j, nI j)) ?_ ?_
  · intro j hj K hK
    refine ⟨fun z => absurd (show nI P ≤ nI j from e ▸ z) (lt_nle hj (by omega)), fun _ => ?_⟩
    have hK : K (zsum (fun p => if v < 0 ∨ s (19 + 17 * p) = v then M p else 0) j + (if v < 0 ∨ s (19 + 17 * j) = v then M j else 0), nI (j + 1)) := hK
    generalize zsum (fun p => if v < 0 ∨ s (19 + 17 * p) = v then M p else 0) j = z at hK ⊢
    have w : vp_in (nI j) 12 := in_nI (by omega) (by decide)
    have jj : (v < 0 ∨ s (19 + 17 * j) = v) → wX5_sum_j73 m z (nI j) K := fun q => by
      unfold wX5_sum_j73
      rw [if_pos q] at hK
      rw [nI_clamp (by omega), nI_1, h3 j hj]
      exact ⟨w, hK⟩
    show (v < 0 → wX5_sum_j73 m z (nI j) K) ∧ (¬ v < 0 → vp_in (19 + 17 * nI j) 245 ∧ ((¬ m 1 (19 + 17 * nI j).toNatClampNeg = v → K (z + 0, nI j + 1)) ∧ (m 1 (19 + 17 * nI j).toNatClampNeg = v → wX5_sum_j73 m z (nI j) K)))
    rw [ix_pup, nI_clamp (by omega), nI_1, h1]
    refine ⟨fun q => jj (Or.inl q), fun q => ⟨in_nI (by omega) (by decide), fun q2 => ?_, fun q2 => jj (Or.inr q2)⟩⟩
    rw [if_neg (fun a => a.elim q q2)] at hK
    exact hK
  · intro K
    exact ⟨fun _ => k, fun z => absurd (show m 1 17 ≤ nI P from e ▸ nI_le (Nat.le_refl P) (by omega)) z⟩
set_option maxRecDepth 20000 in
set_option maxHeartbeats 4000000 in
theorem op_sum {c m : zz_H} (hR : Rel c m) (p1 : Int32) (p2 : Int32) : wX4_sum p1 p2 c (fun r c' => wX5_sum p1 p2 m (fun r' m' => r = r' ∧ Rel c' m')) := by
  obtain ⟨⟨P, C, hW, hM⟩, hK, hF, hT, hS⟩ := id hR
  have eP : c 1 7 = nI P := hM.1
  have eC : c 1 8 = nI C := hM.2.1
  have eP' : m 1 17 = nI P := hW.1
  have eC' : m 1 18 = nI C := hW.2.2.1
  have bP : P ≤ 12 := hW.2.1
  have bC : C ≤ 6 := hW.2.2.2.1
  unfold wX4_sum wX5_sum 
  by_cases h0 : (0 : Int32) ≤ p1 ∧ p1 ≤ nI C - 1
  case neg =>
    simp only [tell0, tell1, tell2, tell3, tell4, tell5, tell6, finds0, finds1, finds2, finds3, finds4, finds5, finds6, c_isQuestion, c_isMarker, c_isKind, c_isBy, c_isLine, c_isSpot, c_isSheet, c_isPupil, c_isCurve, m_isQuestion, m_isLine, m_isOne, m_isPupil, m_isCurve, within_eq, in_eq, wl_ge0, wl_ge1, wl_le1, wl_le3, wl_le4, wl_le5, wl_le6, wl_le7, wl_le9, wl_le12, wl_le40, wl_le100, wl_le400, wl_gem1, wl_ww, zz_10, not_false_eq_true, not_true_eq_false, true_and, and_true, false_implies, true_implies, forall_const, eP, eC, eP', eC', if_neg h0]
    exact hR.find (i := 0) (by decide)
  by_cases h1 : ((-1) : Int32) ≤ p2 ∧ p2 ≤ 3
  case neg =>
    simp only [tell0, tell1, tell2, tell3, tell4, tell5, tell6, finds0, finds1, finds2, finds3, finds4, finds5, finds6, c_isQuestion, c_isMarker, c_isKind, c_isBy, c_isLine, c_isSpot, c_isSheet, c_isPupil, c_isCurve, m_isQuestion, m_isLine, m_isOne, m_isPupil, m_isCurve, within_eq, in_eq, wl_ge0, wl_ge1, wl_le1, wl_le3, wl_le4, wl_le5, wl_le6, wl_le7, wl_le9, wl_le12, wl_le40, wl_le100, wl_le400, wl_gem1, wl_ww, zz_10, not_false_eq_true, not_true_eq_false, true_and, and_true, false_implies, true_implies, forall_const, eP, eC, eP', eC', if_pos h0, if_neg h1]
    exact hR.find (i := 0) (by decide)
  simp only [tell0, tell1, tell2, tell3, tell4, tell5, tell6, finds0, finds1, finds2, finds3, finds4, finds5, finds6, c_isQuestion, c_isMarker, c_isKind, c_isBy, c_isLine, c_isSpot, c_isSheet, c_isPupil, c_isCurve, m_isQuestion, m_isLine, m_isOne, m_isPupil, m_isCurve, within_eq, in_eq, wl_ge0, wl_ge1, wl_le1, wl_le3, wl_le4, wl_le5, wl_le6, wl_le7, wl_le9, wl_le12, wl_le40, wl_le100, wl_le400, wl_gem1, wl_ww, zz_10, not_false_eq_true, not_true_eq_false, true_and, and_true, false_implies, true_implies, forall_const, eP, eC, eP', eC', if_pos h0, if_pos h1]
  obtain ⟨k, hk, rfl⟩ := idx_of (by omega) h0
  have hb := (hW.2.2.2.2.2.2.2.2.1 k hk).2
  have hz : ∀ p, p < P → zb (MK (m 1) P (m 1 (223 + 2 * k)) (m 1 (224 + 2 * k)) p) 0 320 := fun p hp => MK_zb hW hp _ hb
  
  refine c_work hW hM hk _ (fun c' e cv _ => ?_)
  refine c_sumLoop cv (hM.cong (fun j a b => e j (by omega))) p2 ?_ _ (m_find hW hk _ (fun m' f mv => m_sumLoop mv p2 _ ⟨rfl, hR.se e f⟩))
  have := rng_zb h1 rfl rfl
  by_cases q : p2 = -1
  · exact Or.inl q
  · refine Or.inr ((fa_le _ _).mpr ?_)
    have e1 : ¬ p2.toInt = -1 := fun z => q ((fa_eq _ _).mpr z)
    have := this.1
    have l1 : ((-1 : Int32)).toInt = -1 := rfl
    have l0 : (0 : Int32).toInt = 0 := rfl
    omega
theorem c_passLoop {c : zz_H} {P : Nat} {M R : Nat → Int32} (h : CV c P M R) (t : Int32) (post : Int32 → zz_H → Prop) (k : post (cbB (fun j => decide (t ≤ M j)) P) c) : ∃ t9, zz_lp (fun K (s : Int32 × Int32) => wX4_pass_b32 t post c K s.1 s.2) t9 (0, 0) := by
  have hP := h.2.1
  refine lp_for P (fun j => (cbB (fun j => decide (t ≤ M j)) j, nI j)) ?_ ?_
  · intro j hj K hK
    refine ⟨fun z => absurd (show nI P ≤ nI j from h.1 ▸ z) (lt_nle hj (by omega)), fun _ => ?_⟩
    have hK : K ((if decide (t ≤ M j) then cbB (fun j => decide (t ≤ M j)) j ||| (1 <<< (nI j &&& 31)) else cbB (fun j => decide (t ≤ M j)) j), nI (j + 1)) := hK
    generalize cbB (fun j => decide (t ≤ M j)) j = z at hK ⊢
    show vp_in (nI j) 12 ∧ ((c 32 (nI j).toNatClampNeg < t → K (z, nI j + 1)) ∧ (¬ c 32 (nI j).toNatClampNeg < t → K (z ||| (1 <<< (nI j &&& 31)), nI j + 1)))
    rw [nI_clamp (by omega), nI_1, h.2.2.1 j hj]
    refine ⟨in_nI (by omega) (by decide), fun q => ?_, fun q => ?_⟩
    · rw [if_neg (by simpa using (fa_of_lt q).2.1)] at hK; exact hK
    · rw [if_pos (by simpa using fa_of_nlt q)] at hK; exact hK
  · intro K
    exact ⟨fun _ => k, fun z => absurd (show c 1 7 ≤ nI P from h.1 ▸ nI_le (Nat.le_refl P) (by omega)) z⟩
theorem m_passing {m : zz_H} {P C k : Nat} (hW : WF (m 1) P C) (hk : k < C) (t : Int32) (post : Int32 → zz_H → Prop) (kk : ∀ m', SM m m' → m' 1 = m 1 → post (cbB (fun j => decide (t ≤ MK (m 1) P (m 1 (223 + 2 * k)) (m 1 (224 + 2 * k)) j)) P) m') : wX5_passing (nI k) t m post := by
  unfold wX5_passing
  refine m_find hW hk _ (fun m' f mv => ?_)
  generalize MK (m 1) P (m 1 (223 + 2 * k)) (m 1 (224 + 2 * k)) = M at kk mv
  obtain ⟨h1, h2, hP, h3⟩ := mv
  have e : m' 1 17 = nI P := by rw [h1]; exact h2
  refine lp_for P (fun j => (cbB (fun j => decide (t ≤ M j)) j, nI j)) ?_ ?_
  · intro j hj K hK
    refine ⟨fun z => absurd (show nI P ≤ nI j from e ▸ z) (lt_nle hj (by omega)), fun _ => ?_⟩
    have hK : K ((if decide (t ≤ M j) then cbB (fun j => decide (t ≤ M j)) j ||| (1 <<< (nI j &&& 31)) else cbB (fun j => decide (t ≤ M j)) j), nI (j + 1)) := hK
    generalize cbB (fun j => decide (t ≤ M j)) j = z at hK ⊢
    show vp_in (nI j) 12 ∧ ((m' 5 (nI j).toNatClampNeg < t → K (z ||| 0, nI j + 1)) ∧ (¬ m' 5 (nI j).toNatClampNeg < t → K (z ||| (1 <<< (nI j &&& 31)), nI j + 1)))
    rw [nI_clamp (by omega), nI_1, h3 j hj, Int32.or_zero]
    refine ⟨in_nI (by omega) (by decide), fun q => ?_, fun q => ?_⟩
    · rw [if_neg (by simpa using (fa_of_lt q).2.1)] at hK; exact hK
    · rw [if_pos (by simpa using fa_of_nlt q)] at hK; exact hK
  · intro K
    exact ⟨fun _ => kk m' f h1, fun z => absurd (show m' 1 17 ≤ nI P from e ▸ nI_le (Nat.le_refl P) (by omega)) z⟩
set_option maxRecDepth 20000 in
set_option maxHeartbeats 4000000 in
theorem op_pass {c m : zz_H} (hR : Rel c m) (p1 : Int32) (p2 : Int32) : wX4_pass p1 p2 c (fun r c' => wX5_pass p1 p2 m (fun r' m' => r = r' ∧ Rel c' m')) := by
  obtain ⟨⟨P, C, hW, hM⟩, hK, hF, hT, hS⟩ := id hR
  have eP : c 1 7 = nI P := hM.1
  have eC : c 1 8 = nI C := hM.2.1
  have eP' : m 1 17 = nI P := hW.1
  have eC' : m 1 18 = nI C := hW.2.2.1
  have bP : P ≤ 12 := hW.2.1
  have bC : C ≤ 6 := hW.2.2.2.1
  unfold wX4_pass wX5_pass 
  by_cases h0 : (0 : Int32) ≤ p1 ∧ p1 ≤ nI C - 1
  case neg =>
    simp only [tell0, tell1, tell2, tell3, tell4, tell5, tell6, finds0, finds1, finds2, finds3, finds4, finds5, finds6, c_isQuestion, c_isMarker, c_isKind, c_isBy, c_isLine, c_isSpot, c_isSheet, c_isPupil, c_isCurve, m_isQuestion, m_isLine, m_isOne, m_isPupil, m_isCurve, within_eq, in_eq, wl_ge0, wl_ge1, wl_le1, wl_le3, wl_le4, wl_le5, wl_le6, wl_le7, wl_le9, wl_le12, wl_le40, wl_le100, wl_le400, wl_gem1, wl_ww, zz_10, not_false_eq_true, not_true_eq_false, true_and, and_true, false_implies, true_implies, forall_const, eP, eC, eP', eC', if_neg h0]
    exact hR.find (i := 0) (by decide)
  by_cases h1 : (0 : Int32) ≤ p2 ∧ p2 ≤ 400
  case neg =>
    simp only [tell0, tell1, tell2, tell3, tell4, tell5, tell6, finds0, finds1, finds2, finds3, finds4, finds5, finds6, c_isQuestion, c_isMarker, c_isKind, c_isBy, c_isLine, c_isSpot, c_isSheet, c_isPupil, c_isCurve, m_isQuestion, m_isLine, m_isOne, m_isPupil, m_isCurve, within_eq, in_eq, wl_ge0, wl_ge1, wl_le1, wl_le3, wl_le4, wl_le5, wl_le6, wl_le7, wl_le9, wl_le12, wl_le40, wl_le100, wl_le400, wl_gem1, wl_ww, zz_10, not_false_eq_true, not_true_eq_false, true_and, and_true, false_implies, true_implies, forall_const, eP, eC, eP', eC', if_pos h0, if_neg h1]
    exact hR.find (i := 0) (by decide)
  simp only [tell0, tell1, tell2, tell3, tell4, tell5, tell6, finds0, finds1, finds2, finds3, finds4, finds5, finds6, c_isQuestion, c_isMarker, c_isKind, c_isBy, c_isLine, c_isSpot, c_isSheet, c_isPupil, c_isCurve, m_isQuestion, m_isLine, m_isOne, m_isPupil, m_isCurve, within_eq, in_eq, wl_ge0, wl_ge1, wl_le1, wl_le3, wl_le4, wl_le5, wl_le6, wl_le7, wl_le9, wl_le12, wl_le40, wl_le100, wl_le400, wl_gem1, wl_ww, zz_10, not_false_eq_true, not_true_eq_false, true_and, and_true, false_implies, true_implies, forall_const, eP, eC, eP', eC', if_pos h0, if_pos h1]
  obtain ⟨k, hk, rfl⟩ := idx_of (by omega) h0
  have hb := (hW.2.2.2.2.2.2.2.2.1 k hk).2
  have hz : ∀ p, p < P → zb (MK (m 1) P (m 1 (223 + 2 * k)) (m 1 (224 + 2 * k)) p) 0 320 := fun p hp => MK_zb hW hp _ hb
  
  refine c_work hW hM hk _ (fun c' e cv _ => ?_)
  exact c_passLoop cv p2 _ (m_passing hW hk p2 _ (fun m' f _ => ⟨rfl, hR.se e f⟩))
