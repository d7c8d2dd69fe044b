set_option maxHeartbeats 4000000 in
theorem op_seed {c m : zz_H} (hR : Rel c m) (p1 : Int32) : wX4_seed p1 c (fun r c' => wX5_seed p1 m (fun r' m' => r = r' ∧ Rel c' m')) := by
  obtain ⟨⟨P, C, hW, hM⟩, hK, hF, hT, hS⟩ := id hR
  unfold wX4_seed wX5_seed
  simp only [sto_eq]
  exact ⟨hM.2.2.1, hR.paper (hW.seed p1) (hM.seed p1) (fun k hk => zz_st_ne _ _ (by omega))⟩
theorem op_drop {c m : zz_H} (hR : Rel c m) : wX4_drop c (fun r c' => wX5_drop m (fun r' m' => r = r' ∧ Rel c' m')) := by
  obtain ⟨⟨P, C, hW, hM⟩, hK, hF, hT, hS⟩ := id hR
  have bP : P ≤ 12 := hW.2.1
  unfold wX4_drop wX5_drop
  rw [hM.1, hW.1]
  cases P with
  | zero =>
    refine ⟨fun h => absurd h (by decide), fun _ => ?_⟩
    rw [tell3]
    refine ⟨fun h => absurd rfl h, fun _ => ?_⟩
    rw [finds3]
    exact ⟨rfl, hR.find (by decide)⟩
  | succ P =>
    refine ⟨fun _ => ?_, fun h => absurd (nI_lt (a := 0) (by omega) (by omega)) h⟩
    simp only [sto_eq, zz_st_self, pk_us]
    refine ⟨fun _ => ?_, fun h => absurd h (nI_ne0 (by omega) (by omega))⟩
    rw [show nI (P + 1) - 1 = nI P from nI_pred P]
    exact ⟨trivial, hR.paper hW.drop hM.drop (fun k hk => zz_st_ne _ _ (by omega))⟩
set_option maxRecDepth 20000 in
set_option maxHeartbeats 4000000 in
theorem op_common {c m : zz_H} (hR : Rel c m) (p1 : Int32) (p2 : Int32) : wX4_common p1 p2 c (fun r c' => wX5_common p1 p2 m (fun r' m' => r = r' ∧ Rel c' m')) := by
  obtain ⟨⟨P, C, hW, hM⟩, hK, hF, hT, hS⟩ := id hR
  have eP : c 1 7 = nI P := hM.1
  have eC : c 1 8 = nI C := hM.2.1
  have eP' : m 1 17 = nI P := hW.1
  have eC' : m 1 18 = nI C := hW.2.2.1
  have bP : P ≤ 12 := hW.2.1
  have bC : C ≤ 6 := hW.2.2.2.1
  unfold wX4_common wX5_common
  by_cases h0 : (0 : Int32) ≤ p1 ∧ p1 ≤ 7
  case neg =>
    simp only [tell0, tell1, tell2, tell3, tell4, tell5, tell6, finds0, finds1, finds2, finds3, finds4, finds5, finds6, c_isQuestion, c_isMarker, c_isKind, c_isBy, c_isLine, c_isSpot, c_isSheet, c_isPupil, c_isCurve, m_isQuestion, m_isLine, m_isOne, m_isPupil, m_isCurve, within_eq, in_eq, wl_ge0, wl_ge1, wl_le1, wl_le3, wl_le4, wl_le5, wl_le6, wl_le7, wl_le9, wl_le12, wl_le40, wl_le100, wl_le400, wl_gem1, wl_ww, zz_10, not_false_eq_true, not_true_eq_false, true_and, and_true, false_implies, true_implies, forall_const, eP, eC, eP', eC', if_neg h0]
    exact hR.find (i := 0) (by decide)
  by_cases h1 : ((-1) : Int32) ≤ p2 ∧ p2 ≤ 400
  case neg =>
    simp only [tell0, tell1, tell2, tell3, tell4, tell5, tell6, finds0, finds1, finds2, finds3, finds4, finds5, finds6, c_isQuestion, c_isMarker, c_isKind, c_isBy, c_isLine, c_isSpot, c_isSheet, c_isPupil, c_isCurve, m_isQuestion, m_isLine, m_isOne, m_isPupil, m_isCurve, within_eq, in_eq, wl_ge0, wl_ge1, wl_le1, wl_le3, wl_le4, wl_le5, wl_le6, wl_le7, wl_le9, wl_le12, wl_le40, wl_le100, wl_le400, wl_gem1, wl_ww, zz_10, not_false_eq_true, not_true_eq_false, true_and, and_true, false_implies, true_implies, forall_const, eP, eC, eP', eC', if_pos h0, if_neg h1]
    exact hR.find (i := 0) (by decide)
  simp only [tell0, tell1, tell2, tell3, tell4, tell5, tell6, finds0, finds1, finds2, finds3, finds4, finds5, finds6, c_isQuestion, c_isMarker, c_isKind, c_isBy, c_isLine, c_isSpot, c_isSheet, c_isPupil, c_isCurve, m_isQuestion, m_isLine, m_isOne, m_isPupil, m_isCurve, within_eq, in_eq, wl_ge0, wl_ge1, wl_le1, wl_le3, wl_le4, wl_le5, wl_le6, wl_le7, wl_le9, wl_le12, wl_le40, wl_le100, wl_le400, wl_gem1, wl_ww, zz_10, not_false_eq_true, not_true_eq_false, true_and, and_true, false_implies, true_implies, forall_const, eP, eC, eP', eC', if_pos h0, if_pos h1]
  obtain ⟨q, hq, rfl⟩ := idx_le (n := 7) (by decide) h0
  rw [ix_old, nI_clamp (by omega), nI_clamp (by omega)]
  refine ⟨in_nI (by omega) (by decide), in_nI (by omega) (by decide), ?_⟩
  simp only [sto_eq]
  refine ⟨in_nI (by omega) (by decide), in_nI (by omega) (by decide), ?_⟩
  exact ⟨hM.2.2.2.2.1 q (by omega), hR.paper (hW.old (by omega) (rng_zb h1 rfl rfl)) (hM.old p2 (by omega)) (fun k hk => zz_st_ne _ _ (by omega))⟩
set_option maxRecDepth 20000 in
set_option maxHeartbeats 4000000 in
theorem op_curveOf {c m : zz_H} (hR : Rel c m) (p1 : Int32) (p2 : Int32) : wX4_curveOf p1 p2 c (fun r c' => wX5_curveOf p1 p2 m (fun r' m' => r = r' ∧ Rel c' m')) := by
  obtain ⟨⟨P, C, hW, hM⟩, hK, hF, hT, hS⟩ := id hR
  have eP : c 1 7 = nI P := hM.1
  have eC : c 1 8 = nI C := hM.2.1
  have eP' : m 1 17 = nI P := hW.1
  have eC' : m 1 18 = nI C := hW.2.2.1
  have bP : P ≤ 12 := hW.2.1
  have bC : C ≤ 6 := hW.2.2.2.1
  unfold wX4_curveOf wX5_curveOf
  by_cases h0 : (0 : Int32) ≤ p1 ∧ p1 ≤ nI C - 1
  case neg =>
    simp only [tell0, tell1, tell2, tell3, tell4, tell5, tell6, finds0, finds1, finds2, finds3, finds4, finds5, finds6, c_isQuestion, c_isMarker, c_isKind, c_isBy, c_isLine, c_isSpot, c_isSheet, c_isPupil, c_isCurve, m_isQuestion, m_isLine, m_isOne, m_isPupil, m_isCurve, within_eq, in_eq, wl_ge0, wl_ge1, wl_le1, wl_le3, wl_le4, wl_le5, wl_le6, wl_le7, wl_le9, wl_le12, wl_le40, wl_le100, wl_le400, wl_gem1, wl_ww, zz_10, not_false_eq_true, not_true_eq_false, true_and, and_true, false_implies, true_implies, forall_const, eP, eC, eP', eC', if_neg h0]
    exact hR.find (i := 0) (by decide)
  by_cases h1 : (0 : Int32) ≤ p2 ∧ p2 ≤ 1
  case neg =>
    simp only [tell0, tell1, tell2, tell3, tell4, tell5, tell6, finds0, finds1, finds2, finds3, finds4, finds5, finds6, c_isQuestion, c_isMarker, c_isKind, c_isBy, c_isLine, c_isSpot, c_isSheet, c_isPupil, c_isCurve, m_isQuestion, m_isLine, m_isOne, m_isPupil, m_isCurve, within_eq, in_eq, wl_ge0, wl_ge1, wl_le1, wl_le3, wl_le4, wl_le5, wl_le6, wl_le7, wl_le9, wl_le12, wl_le40, wl_le100, wl_le400, wl_gem1, wl_ww, zz_10, not_false_eq_true, not_true_eq_false, true_and, and_true, false_implies, true_implies, forall_const, eP, eC, eP', eC', if_pos h0, if_neg h1]
    exact hR.find (i := 0) (by decide)
  simp only [tell0, tell1, tell2, tell3, tell4, tell5, tell6, finds0, finds1, finds2, finds3, finds4, finds5, finds6, c_isQuestion, c_isMarker, c_isKind, c_isBy, c_isLine, c_isSpot, c_isSheet, c_isPupil, c_isCurve, m_isQuestion, m_isLine, m_isOne, m_isPupil, m_isCurve, within_eq, in_eq, wl_ge0, wl_ge1, wl_le1, wl_le3, wl_le4, wl_le5, wl_le6, wl_le7, wl_le9, wl_le12, wl_le40, wl_le100, wl_le400, wl_gem1, wl_ww, zz_10, not_false_eq_true, not_true_eq_false, true_and, and_true, false_implies, true_implies, forall_const, eP, eC, eP', eC', if_pos h0, if_pos h1]
  obtain ⟨k, hk, rfl⟩ := idx_of (by omega) h0
  obtain ⟨j, hj, rfl⟩ := idx_le (n := 1) (by decide) h1
  have e : (223 : Int32) + 2 * nI k + nI j = nI (223 + 2 * k + j) := by rw [ix_kind, nI_add]
  have e8 := hM.2.2.2.2.2.2.2.1 k hk
  rw [e, nI_clamp (by omega), nI_clamp (by omega)]
  rcases (show j = 0 ∨ j = 1 by omega) with rfl | rfl
  · refine ⟨fun h => absurd rfl h, fun _ => ⟨in_nI (by omega) (by decide), ⟨in_nI (by omega) (by decide), e8.1, hR⟩⟩⟩
  · refine ⟨fun _ => ⟨in_nI (by omega) (by decide), ⟨in_nI (by omega) (by decide), ?_, hR⟩⟩, fun h => absurd h (by decide)⟩
    rw [show 223 + 2 * k + 1 = 224 + 2 * k by omega]
    exact e8.2
set_option maxRecDepth 20000 in
set_option maxHeartbeats 4000000 in
theorem op_turn {c m : zz_H} (hR : Rel c m) (p1 : Int32) (p2 : Int32) : wX4_turn p1 p2 c (fun r c' => wX5_turn p1 p2 m (fun r' m' => r = r' ∧ Rel c' m')) := by
  obtain ⟨⟨P, C, hW, hM⟩, hK, hF, hT, hS⟩ := id hR
  have eP : c 1 7 = nI P := hM.1
  have eC : c 1 8 = nI C := hM.2.1
  have eP' : m 1 17 = nI P := hW.1
  have eC' : m 1 18 = nI C := hW.2.2.1
  have bP : P ≤ 12 := hW.2.1
  have bC : C ≤ 6 := hW.2.2.2.1
  unfold wX4_turn wX5_turn
  by_cases h0 : (0 : Int32) ≤ p1 ∧ p1 ≤ nI C - 1
  case neg =>
    simp only [tell0, tell1, tell2, tell3, tell4, tell5, tell6, finds0, finds1, finds2, finds3, finds4, finds5, finds6, c_isQuestion, c_isMarker, c_isKind, c_isBy, c_isLine, c_isSpot, c_isSheet, c_isPupil, c_isCurve, m_isQuestion, m_isLine, m_isOne, m_isPupil, m_isCurve, within_eq, in_eq, wl_ge0, wl_ge1, wl_le1, wl_le3, wl_le4, wl_le5, wl_le6, wl_le7, wl_le9, wl_le12, wl_le40, wl_le100, wl_le400, wl_gem1, wl_ww, zz_10, not_false_eq_true, not_true_eq_false, true_and, and_true, false_implies, true_implies, forall_const, eP, eC, eP', eC', if_neg h0]
    exact hR.find (i := 0) (by decide)
  by_cases h1 : (0 : Int32) ≤ p2 ∧ p2 ≤ 6
  case neg =>
    simp only [tell0, tell1, tell2, tell3, tell4, tell5, tell6, finds0, finds1, finds2, finds3, finds4, finds5, finds6, c_isQuestion, c_isMarker, c_isKind, c_isBy, c_isLine, c_isSpot, c_isSheet, c_isPupil, c_isCurve, m_isQuestion, m_isLine, m_isOne, m_isPupil, m_isCurve, within_eq, in_eq, wl_ge0, wl_ge1, wl_le1, wl_le3, wl_le4, wl_le5, wl_le6, wl_le7, wl_le9, wl_le12, wl_le40, wl_le100, wl_le400, wl_gem1, wl_ww, zz_10, not_false_eq_true, not_true_eq_false, true_and, and_true, false_implies, true_implies, forall_const, eP, eC, eP', eC', if_pos h0, if_neg h1]
    exact hR.find (i := 0) (by decide)
  simp only [tell0, tell1, tell2, tell3, tell4, tell5, tell6, finds0, finds1, finds2, finds3, finds4, finds5, finds6, c_isQuestion, c_isMarker, c_isKind, c_isBy, c_isLine, c_isSpot, c_isSheet, c_isPupil, c_isCurve, m_isQuestion, m_isLine, m_isOne, m_isPupil, m_isCurve, within_eq, in_eq, wl_ge0, wl_ge1, wl_le1, wl_le3, wl_le4, wl_le5, wl_le6, wl_le7, wl_le9, wl_le12, wl_le40, wl_le100, wl_le400, wl_gem1, wl_ww, zz_10, not_false_eq_true, not_true_eq_false, true_and, and_true, false_implies, true_implies, forall_const, eP, eC, eP', eC', if_pos h0, if_pos h1]
  obtain ⟨k, hk, rfl⟩ := idx_of (by omega) h0
  rw [ix_kind, nI_clamp (by omega), nI_clamp (by omega)]
  refine ⟨in_nI (by omega) (by decide), in_nI (by omega) (by decide), ?_⟩
  simp only [sto_eq]
  refine ⟨in_nI (by omega) (by decide), in_nI (by omega) (by decide), ?_⟩
  exact ⟨(hM.2.2.2.2.2.2.2.1 k hk).1, hR.paper (hW.kind hk (rng_zb h1 rfl rfl)) (hM.kind p2 bP bC hk) (fun k hk => zz_st_ne _ _ (by omega))⟩
set_option maxRecDepth 20000 in
set_option maxHeartbeats 4000000 in
theorem op_by {c m : zz_H} (hR : Rel c m) (p1 : Int32) (p2 : Int32) : wX4_by p1 p2 c (fun r c' => wX5_by p1 p2 m (fun r' m' => r = r' ∧ Rel c' m')) := by
  obtain ⟨⟨P, C, hW, hM⟩, hK, hF, hT, hS⟩ := id hR
  have eP : c 1 7 = nI P := hM.1
  have eC : c 1 8 = nI C := hM.2.1
  have eP' : m 1 17 = nI P := hW.1
  have eC' : m 1 18 = nI C := hW.2.2.1
  have bP : P ≤ 12 := hW.2.1
  have bC : C ≤ 6 := hW.2.2.2.1
  unfold wX4_by wX5_by
  by_cases h0 : (0 : Int32) ≤ p1 ∧ p1 ≤ nI C - 1
  case neg =>
    simp only [tell0, tell1, tell2, tell3, tell4, tell5, tell6, finds0, finds1, finds2, finds3, finds4, finds5, finds6, c_isQuestion, c_isMarker, c_isKind, c_isBy, c_isLine, c_isSpot, c_isSheet, c_isPupil, c_isCurve, m_isQuestion, m_isLine, m_isOne, m_isPupil, m_isCurve, within_eq, in_eq, wl_ge0, wl_ge1, wl_le1, wl_le3, wl_le4, wl_le5, wl_le6, wl_le7, wl_le9, wl_le12, wl_le40, wl_le100, wl_le400, wl_gem1, wl_ww, zz_10, not_false_eq_true, not_true_eq_false, true_and, and_true, false_implies, true_implies, forall_const, eP, eC, eP', eC', if_neg h0]
    exact hR.find (i := 0) (by decide)
  by_cases h1 : (0 : Int32) ≤ p2 ∧ p2 ≤ 100
  case neg =>
    simp only [tell0, tell1, tell2, tell3, tell4, tell5, tell6, finds0, finds1, finds2, finds3, finds4, finds5, finds6, c_isQuestion, c_isMarker, c_isKind, c_isBy, c_isLine, c_isSpot, c_isSheet, c_isPupil, c_isCurve, m_isQuestion, m_isLine, m_isOne, m_isPupil, m_isCurve, within_eq, in_eq, wl_ge0, wl_ge1, wl_le1, wl_le3, wl_le4, wl_le5, wl_le6, wl_le7, wl_le9, wl_le12, wl_le40, wl_le100, wl_le400, wl_gem1, wl_ww, zz_10, not_false_eq_true, not_true_eq_false, true_and, and_true, false_implies, true_implies, forall_const, eP, eC, eP', eC', if_pos h0, if_neg h1]
    exact hR.find (i := 0) (by decide)
  simp only [tell0, tell1, tell2, tell3, tell4, tell5, tell6, finds0, finds1, finds2, finds3, finds4, finds5, finds6, c_isQuestion, c_isMarker, c_isKind, c_isBy, c_isLine, c_isSpot, c_isSheet, c_isPupil, c_isCurve, m_isQuestion, m_isLine, m_isOne, m_isPupil, m_isCurve, within_eq, in_eq, wl_ge0, wl_ge1, wl_le1, wl_le3, wl_le4, wl_le5, wl_le6, wl_le7, wl_le9, wl_le12, wl_le40, wl_le100, wl_le400, wl_gem1, wl_ww, zz_10, not_false_eq_true, not_true_eq_false, true_and, and_true, false_implies, true_implies, forall_const, eP, eC, eP', eC', if_pos h0, if_pos h1]
  obtain ⟨k, hk, rfl⟩ := idx_of (by omega) h0
  rw [ix_by, nI_clamp (by omega), nI_clamp (by omega)]
  refine ⟨in_nI (by omega) (by decide), in_nI (by omega) (by decide), ?_⟩
  simp only [sto_eq]
  refine ⟨in_nI (by omega) (by decide), in_nI (by omega) (by decide), ?_⟩
  exact ⟨(hM.2.2.2.2.2.2.2.1 k hk).2, hR.paper (hW.by' hk (rng_zb h1 rfl rfl)) (hM.by' p2 bP bC hk) (fun k hk => zz_st_ne _ _ (by omega))⟩
