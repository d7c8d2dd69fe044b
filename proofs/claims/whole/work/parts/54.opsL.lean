theorem c_rawOf {c : zz_H} {s : Nat → Int32} {P C p : Nat} (h : PM c 1 s P C) (hP : P ≤ 12) (hp : p < P) (post : Int32 → Prop) (k : post (rawS (sc s) p)) : wX0_rawOf 1 (nI p) c post := by
  refine lp_for 8 (fun j => (zsum (sc s p) j, nI j)) ?_ ?_
  · intro j hj K hK
    refine ⟨fun z => absurd z (lt_nle (N := 8) hj (by decide)), fun _ => c_scoreOf h hP hp hj _ ?_⟩
    show K (zsum (sc s p) j + sc s p j, nI j + 1)
    rw [nI_1]; exact hK
  · intro K
    exact ⟨fun _ => k, fun z => absurd (show nI 8 ≤ nI 8 from nI_le (Nat.le_refl 8) (by decide)) z⟩
set_option maxRecDepth 20000 in
set_option maxHeartbeats 4000000 in
theorem op_pupilOf {c m : zz_H} (hR : Rel c m) (p1 : Int32) (p2 : Int32) : wX4_pupilOf p1 p2 c (fun r c' => wX5_pupilOf p1 p2 m (fun r' m' => r = r' ∧ Rel c' m')) := by
  obtain ⟨⟨P, C, hW, hM⟩, hK, hF, hT, hS⟩ := id hR
  have eP : c 1 7 = nI P := hM.1
  have eC : c 1 8 = nI C := hM.2.1
  have eP' : m 1 17 = nI P := hW.1
  have eC' : m 1 18 = nI C := hW.2.2.1
  have bP : P ≤ 12 := hW.2.1
  have bC : C ≤ 6 := hW.2.2.2.1
  unfold wX4_pupilOf wX5_pupilOf 
  by_cases h0 : (0 : Int32) ≤ p1 ∧ p1 ≤ nI P - 1
  case neg =>
    simp only [tell0, tell1, tell2, tell3, tell4, tell5, tell6, finds0, finds1, finds2, finds3, finds4, finds5, finds6, c_isQuestion, c_isMarker, c_isKind, c_isBy, c_isLine, c_isSpot, c_isSheet, c_isPupil, c_isCurve, m_isQuestion, m_isLine, m_isOne, m_isPupil, m_isCurve, within_eq, in_eq, wl_ge0, wl_ge1, wl_le1, wl_le3, wl_le4, wl_le5, wl_le6, wl_le7, wl_le9, wl_le12, wl_le40, wl_le100, wl_le400, wl_gem1, wl_ww, zz_10, not_false_eq_true, not_true_eq_false, true_and, and_true, false_implies, true_implies, forall_const, eP, eC, eP', eC', if_neg h0]
    exact hR.find (i := 0) (by decide)
  by_cases h1 : (0 : Int32) ≤ p2 ∧ p2 ≤ 9
  case neg =>
    simp only [tell0, tell1, tell2, tell3, tell4, tell5, tell6, finds0, finds1, finds2, finds3, finds4, finds5, finds6, c_isQuestion, c_isMarker, c_isKind, c_isBy, c_isLine, c_isSpot, c_isSheet, c_isPupil, c_isCurve, m_isQuestion, m_isLine, m_isOne, m_isPupil, m_isCurve, within_eq, in_eq, wl_ge0, wl_ge1, wl_le1, wl_le3, wl_le4, wl_le5, wl_le6, wl_le7, wl_le9, wl_le12, wl_le40, wl_le100, wl_le400, wl_gem1, wl_ww, zz_10, not_false_eq_true, not_true_eq_false, true_and, and_true, false_implies, true_implies, forall_const, eP, eC, eP', eC', if_pos h0, if_neg h1]
    exact hR.find (i := 0) (by decide)
  simp only [tell0, tell1, tell2, tell3, tell4, tell5, tell6, finds0, finds1, finds2, finds3, finds4, finds5, finds6, c_isQuestion, c_isMarker, c_isKind, c_isBy, c_isLine, c_isSpot, c_isSheet, c_isPupil, c_isCurve, m_isQuestion, m_isLine, m_isOne, m_isPupil, m_isCurve, within_eq, in_eq, wl_ge0, wl_ge1, wl_le1, wl_le3, wl_le4, wl_le5, wl_le6, wl_le7, wl_le9, wl_le12, wl_le40, wl_le100, wl_le400, wl_gem1, wl_ww, zz_10, not_false_eq_true, not_true_eq_false, true_and, and_true, false_implies, true_implies, forall_const, eP, eC, eP', eC', if_pos h0, if_pos h1]
  obtain ⟨p, hp, rfl⟩ := idx_of (by omega) h0
  obtain ⟨w, hw, rfl⟩ := idx_le (n := 9) (by decide) h1
  rw [ix_pup, nI_clamp (by omega), nI_clamp (by omega)]
  have e0 : (nI w = 0) ↔ w = 0 := nI_eq (b := 0) (by omega) (by decide)
  have e1 : (nI w = 1) ↔ w = 1 := nI_eq (b := 1) (by omega) (by decide)
  refine ⟨fun z => ⟨fun z1 => ?_, fun z1 => ?_⟩, fun z => ?_⟩
  · have w0 : ¬ w = 0 := fun q => z (e0.mpr q)
    have w1 : ¬ w = 1 := fun q => z1 (e1.mpr q)
    have e2 : nI w - 2 = nI (w - 2) := pk_sub (a := w) (b := 2) (by omega)
    rw [e2]
    exact c_scoreOf hM bP hp (by omega) _ ⟨fun _ => ⟨fun _ => m_score (by omega) (by omega) _ ⟨rfl, hR⟩, fun q => absurd q z1⟩, fun q => absurd q z⟩
  · exact c_rawOf hM bP hp _ ⟨fun _ => ⟨fun q => absurd z1 q, fun _ => m_raw (by omega) _ ⟨rfl, hR⟩⟩, fun q => absurd q z⟩
  · exact ⟨in_nI (by omega) (by decide), fun q => absurd z q, fun _ => ⟨in_nI (by omega) (by decide), hM.2.2.2.2.2.1 p hp, hR⟩⟩
theorem c_sumOfRaws {c : zz_H} {S : Nat → Nat → Int32} {W O : Nat → Int32} {P : Nat} (h : SC c S W O P) (hP : P ≤ 12) (post : Int32 → Prop) (k : post (zsum (rawS S) P)) : wX1_sumOfRaws c post := by
  refine lp_for P (fun j => (zsum (rawS S) j, nI j)) ?_ ?_
  · intro j hj K hK
    refine ⟨fun z => absurd (show nI P ≤ nI j from h.1 ▸ z) (lt_nle hj (by omega)), fun _ => ?_⟩
    show vp_in (nI j) 12 ∧ K (zsum (rawS S) j + c 28 (nI j).toNatClampNeg, nI j + 1)
    rw [nI_clamp (by omega), nI_1, h.2.2.2.2.2.2.2.1 j (by omega)]
    exact ⟨in_nI (by omega) (by decide), hK⟩
  · intro K
    exact ⟨fun _ => k, fun z => absurd (show c 25 3 ≤ nI P from h.1 ▸ nI_le (Nat.le_refl P) (by omega)) z⟩
theorem m_sumRaw {m : zz_H} {P : Nat} (e : m 1 17 = nI P) (hP : P ≤ 12) (post : Int32 → zz_H → Prop) (k : post (zsum (rawS (sc (m 1))) P) m) : ∃ t9, zz_lp (fun K (s : Int32 × Int32) => wX5_paper_b106 m post K s.1 s.2) t9 (0, 0) := by
  refine lp_for P (fun j => (zsum (rawS (sc (m 1))) j, nI j)) ?_ ?_
  · intro j hj K hK
    refine ⟨fun z => absurd (show nI P ≤ nI j from e ▸ z) (lt_nle hj (by omega)), fun _ => m_raw (by omega) _ ?_⟩
    show K (zsum (rawS (sc (m 1))) j + rawS (sc (m 1)) j, nI j + 1)
    rw [nI_1]; exact hK
  · intro K
    exact ⟨fun _ => k, fun z => absurd (show m 1 17 ≤ nI P from e ▸ nI_le (Nat.le_refl P) (by omega)) z⟩
def pv (s : Nat → Int32) (P w : Nat) : Int32 := if w = 0 then fullW s else if w = 1 then grS (sc s) P else if w = 2 then omO (fun q => s (8 + q)) else if w = 3 then nmS (sc s) (fun q => s (8 + q)) P else if w = 4 then zsum (rawS (sc s)) P else cbO (fun q => s (8 + q))
theorem pv0 (s : Nat → Int32) (P : Nat) : pv s P 0 = fullW s := by unfold pv; rw [if_pos rfl]
theorem pv1 (s : Nat → Int32) (P : Nat) : pv s P 1 = grS (sc s) P := by unfold pv; rw [if_neg (by decide), if_pos rfl]
theorem pv2 (s : Nat → Int32) (P : Nat) : pv s P 2 = omO (fun q => s (8 + q)) := by unfold pv; rw [if_neg (by decide), if_neg (by decide), if_pos rfl]
theorem pv3 (s : Nat → Int32) (P : Nat) : pv s P 3 = nmS (sc s) (fun q => s (8 + q)) P := by unfold pv; rw [if_neg (by decide), if_neg (by decide), if_neg (by decide), if_pos rfl]
theorem pv4 (s : Nat → Int32) (P : Nat) : pv s P 4 = zsum (rawS (sc s)) P := by unfold pv; rw [if_neg (by decide), if_neg (by decide), if_neg (by decide), if_neg (by decide), if_pos rfl]
theorem pv5 (s : Nat → Int32) (P : Nat) : pv s P 5 = cbO (fun q => s (8 + q)) := by unfold pv; rw [if_neg (by decide), if_neg (by decide), if_neg (by decide), if_neg (by decide), if_neg (by decide)]
theorem c_paper43 {c : zz_H} {s : Nat → Int32} {P C w : Nat} (hM : PM c 1 s P C) (hP : P ≤ 12) (hw : w ≤ 5) (h3 : w = 3 → 0 < P) (post : Int32 → zz_H → Prop) (k : ∀ c', SE c c' → post (pv s P w) c') : wX4_paper_j43 (nI w) c post := by
  unfold wX4_paper_j43
  refine c_read hM hP _ (fun c1 ho hs => ?_)
  have k := k c1 (fun j hj => ho j (by omega))
  have er : ∀ p, p < P → rawS (sS s P) p = rawS (sc s) p := fun p hp => zsum_congr (fun q _ => if_pos hp)
  rcases (show w = 0 ∨ w = 1 ∨ w = 2 ∨ w = 3 ∨ w = 4 ∨ w = 5 by omega) with rfl | rfl | rfl | rfl | rfl | rfl
  · refine ⟨fun _ => ?_, fun z => absurd z (by decide), fun z => absurd z (by decide), fun z => absurd z (by decide), fun z => absurd z (by decide), fun z => absurd rfl z⟩
    rw [pv0] at k; rw [hs.2.1]; exact k
  · refine ⟨fun z => absurd z (by decide), fun _ => c_greatestRaw hs hP _ ?_, fun z => absurd z (by decide), fun z => absurd z (by decide), fun z => absurd z (by decide), fun _ z => absurd rfl z⟩
    rw [show grS (sS s P) P = grS (sc s) P from zmx_congr er]; rw [pv1] at k; exact k
  · refine ⟨fun z => absurd z (by decide), fun z => absurd z (by decide), fun _ => ?_, fun z => absurd z (by decide), fun z => absurd z (by decide), fun _ _ z => absurd rfl z⟩
    rw [pv2] at k; rw [hs.2.2.2.1]; exact k
  · have ecs : nmS (sS s P) (fun q => s (8 + q)) P = nmS (sc s) (fun q => s (8 + q)) P := by
      unfold nmS csS
      rw [zsum_congr (g := fun q => if 0 ≤ s (8 + q) then zsum (fun p => sc s p q) P else 0) (fun q hq => by rw [zsum_congr (f := fun p => sS s P p q) (g := fun p => sc s p q) (fun p hp => if_pos hp)])]
    refine ⟨fun z => absurd z (by decide), fun z => absurd z (by decide), fun z => absurd z (by decide), fun _ => c_newMean hs hP (h3 rfl) _ ?_, fun z => absurd z (by decide), fun _ _ _ z => absurd rfl z⟩
    rw [pv3] at k; rw [ecs]; exact k
  · refine ⟨fun z => absurd z (by decide), fun z => absurd z (by decide), fun z => absurd z (by decide), fun z => absurd z (by decide), fun _ => c_sumOfRaws hs hP _ ?_, fun _ _ _ _ z => absurd rfl z⟩
    rw [pv4] at k; rw [zsum_congr er]; exact k
  · refine ⟨fun z => absurd z (by decide), fun z => absurd z (by decide), fun z => absurd z (by decide), fun z => absurd z (by decide), fun z => absurd z (by decide), fun _ _ _ _ _ => ?_⟩
    rw [pv5] at k; rw [hs.2.2.1]; exact k
theorem m_paper46 {m : zz_H} {P w : Nat} (e : m 1 17 = nI P) (hP : P ≤ 12) (hw : w ≤ 5) (h3 : w = 3 → 0 < P) (post : Int32 → zz_H → Prop) (k : post (pv (m 1) P w) m) : wX5_paper_j46 (nI w) m post := by
  unfold wX5_paper_j46
  rcases (show w = 0 ∨ w = 1 ∨ w = 2 ∨ w = 3 ∨ w = 4 ∨ w = 5 by omega) with rfl | rfl | rfl | rfl | rfl | rfl
  · exact ⟨fun _ => m_full _ (pv0 (m 1) P ▸ k), fun z => absurd z (by decide), fun z => absurd z (by decide), fun z => absurd z (by decide), fun z => absurd z (by decide), fun z => absurd rfl z⟩
  · exact ⟨fun z => absurd z (by decide), fun _ => m_greatest e hP _ (pv1 (m 1) P ▸ k), fun z => absurd z (by decide), fun z => absurd z (by decide), fun z => absurd z (by decide), fun _ z => absurd rfl z⟩
  · exact ⟨fun z => absurd z (by decide), fun z => absurd z (by decide), fun _ => m_oldMean _ (pv2 (m 1) P ▸ k), fun z => absurd z (by decide), fun z => absurd z (by decide), fun _ _ z => absurd rfl z⟩
  · exact ⟨fun z => absurd z (by decide), fun z => absurd z (by decide), fun z => absurd z (by decide), fun _ => m_newMean e hP (h3 rfl) _ (pv3 (m 1) P ▸ k), fun z => absurd z (by decide), fun _ _ _ z => absurd rfl z⟩
  · exact ⟨fun z => absurd z (by decide), fun z => absurd z (by decide), fun z => absurd z (by decide), fun z => absurd z (by decide), fun _ => m_sumRaw e hP _ (pv4 (m 1) P ▸ k), fun _ _ _ _ z => absurd rfl z⟩
  · exact ⟨fun z => absurd z (by decide), fun z => absurd z (by decide), fun z => absurd z (by decide), fun z => absurd z (by decide), fun z => absurd z (by decide), fun _ _ _ _ _ => m_commons _ (pv5 (m 1) P ▸ k)⟩
set_option maxRecDepth 20000 in
set_option maxHeartbeats 4000000 in
theorem op_paper {c m : zz_H} (hR : Rel c m) (p1 : Int32) : wX4_paper p1 c (fun r c' => wX5_paper p1 m (fun r' m' => r = r' ∧ Rel c' m')) := by
  obtain ⟨⟨P, C, hW, hM⟩, hK, hF, hT, hS⟩ := id hR
  have eP : c 1 7 = nI P := hM.1
  have eC : c 1 8 = nI C := hM.2.1
  have eP' : m 1 17 = nI P := hW.1
  have eC' : m 1 18 = nI C := hW.2.2.1
  have bP : P ≤ 12 := hW.2.1
  have bC : C ≤ 6 := hW.2.2.2.1
  unfold wX4_paper wX5_paper 
  by_cases h0 : (0 : Int32) ≤ p1 ∧ p1 ≤ 5
  case neg =>
    simp only [tell0, tell1, tell2, tell3, tell4, tell5, tell6, finds0, finds1, finds2, finds3, finds4, finds5, finds6, c_isQuestion, c_isMarker, c_isKind, c_isBy, c_isLine, c_isSpot, c_isSheet, c_isPupil, c_isCurve, m_isQuestion, m_isLine, m_isOne, m_isPupil, m_isCurve, within_eq, in_eq, wl_ge0, wl_ge1, wl_le1, wl_le3, wl_le4, wl_le5, wl_le6, wl_le7, wl_le9, wl_le12, wl_le40, wl_le100, wl_le400, wl_gem1, wl_ww, zz_10, not_false_eq_true, not_true_eq_false, true_and, and_true, false_implies, true_implies, forall_const, eP, eC, eP', eC', if_neg h0]
    exact hR.find (i := 0) (by decide)
  simp only [tell0, tell1, tell2, tell3, tell4, tell5, tell6, finds0, finds1, finds2, finds3, finds4, finds5, finds6, c_isQuestion, c_isMarker, c_isKind, c_isBy, c_isLine, c_isSpot, c_isSheet, c_isPupil, c_isCurve, m_isQuestion, m_isLine, m_isOne, m_isPupil, m_isCurve, within_eq, in_eq, wl_ge0, wl_ge1, wl_le1, wl_le3, wl_le4, wl_le5, wl_le6, wl_le7, wl_le9, wl_le12, wl_le40, wl_le100, wl_le400, wl_gem1, wl_ww, zz_10, not_false_eq_true, not_true_eq_false, true_and, and_true, false_implies, true_implies, forall_const, eP, eC, eP', eC', if_pos h0]
  obtain ⟨w, hw, rfl⟩ := idx_le (n := 5) (by decide) h0
  have e1 : (nI w = 1) ↔ w = 1 := nI_eq (b := 1) (by omega) (by decide)
  have e3 : (nI w = 3) ↔ w = 3 := nI_eq (b := 3) (by omega) (by decide)
  by_cases hP0 : P = 0
  · have nz : nI P = 0 := by rw [hP0]; rfl
    have hj26 : ∀ post : Int32 → zz_H → Prop, post ((-1000004) : Int32) (cF c 3) → wX4_paper_j26 (nI w) c post := by
      intro post k
      unfold wX4_paper_j26
      rw [eP]
      refine ⟨fun z => absurd nz z, fun _ => ?_⟩
      rw [tell3]; exact k
    refine ⟨fun z => hj26 _ ⟨fun q => absurd nz q, fun _ => ⟨fun _ => ?_, fun q => absurd z q⟩⟩, fun z => ⟨fun z3 => ?_, fun z3 => hj26 _ ⟨fun q => absurd nz q, fun _ => ⟨fun q => absurd q z, fun _ => ⟨fun q => absurd z3 q, fun _ => ?_⟩⟩⟩⟩⟩
    · exact ⟨rfl, hR.find (by decide)⟩
    · exact c_paper43 hM bP hw (fun q => absurd (e3.mpr q) z3) _ (fun c' e => ⟨fun q => absurd nz q, fun _ => ⟨fun q => absurd q z, fun _ => ⟨fun _ => m_paper46 eP' bP hw (fun q => absurd (e3.mpr q) z3) _ ⟨rfl, hR.se e (SM.rf m)⟩, fun q => absurd q z3⟩⟩⟩)
    · exact ⟨rfl, hR.find (by decide)⟩
  · have nz : ¬ nI P = 0 := nI_ne0 (by omega) (by omega)
    have fin : ∀ post : Int32 → zz_H → Prop, (∀ c', SE c c' → post (pv (m 1) P w) c') → wX4_paper_j43 (nI w) c post := fun post k => c_paper43 hM bP hw (fun _ => by omega) post k
    have hj26 : ∀ post : Int32 → zz_H → Prop, (∀ c', SE c c' → post (pv (m 1) P w) c') → wX4_paper_j26 (nI w) c post := by
      intro post k
      unfold wX4_paper_j26
      rw [eP]
      exact ⟨fun _ => fin post k, fun z => absurd z nz⟩
    have md : ∀ c', SE c c' → wX5_paper_j46 (nI w) m (fun r' m' => pv (m 1) P w = r' ∧ Rel c' m') := fun c' e => m_paper46 eP' bP hw (fun _ => by omega) _ ⟨rfl, hR.se e (SM.rf m)⟩
    exact ⟨fun _ => hj26 _ (fun c' e => ⟨fun _ => md c' e, fun q => absurd q nz⟩), fun _ => ⟨fun _ => fin _ (fun c' e => ⟨fun _ => md c' e, fun q => absurd q nz⟩), fun _ => hj26 _ (fun c' e => ⟨fun _ => md c' e, fun q => absurd q nz⟩)⟩⟩
theorem c_statusLoop {c : zz_H} (post : Int32 → zz_H → Prop) (k : post (zsum (c 34) 7) c) : ∃ t9, zz_lp (fun K (s : Int32 × Int32) => wX4_status_b32 c post K s.1 s.2) t9 (0, 0) := by
  refine lp_for 7 (fun j => (zsum (c 34) j, nI j)) ?_ ?_
  · intro j hj K hK
    refine ⟨fun z => absurd z (lt_nle (N := 7) hj (by decide)), fun _ => ?_⟩
    show vp_in (nI j) 7 ∧ K (zsum (c 34) j + c 34 (nI j).toNatClampNeg, nI j + 1)
    rw [nI_clamp (by omega), nI_1]
    exact ⟨in_nI hj (by decide), hK⟩
  · intro K
    exact ⟨fun _ => k, fun z => absurd (show nI 7 ≤ nI 7 from nI_le (Nat.le_refl 7) (by decide)) z⟩
theorem m_statusLoop {m : zz_H} (w : Int32) (post : Int32 → zz_H → Prop) (k : post (zsum (fun j => if w < 0 ∨ nI j = w then m 4 j else 0) 7) m) : ∃ t9, zz_lp (fun K (s : Int32 × Int32) => wX5_status_b25 w m post K s.1 s.2) t9 (0, 0) := by
  refine lp_for 7 (fun j => (zsum (fun j => if w < 0 ∨ nI j = w then m 4 j else 0) j, nI j)) ?_ ?_
  · intro j hj K hK
    have hK : K (zsum (fun j => if w < 0 ∨ nI j = w then m 4 j else 0) j + (if w < 0 ∨ nI j = w then m 4 j else 0), nI (j + 1)) := hK
    refine ⟨fun z => absurd z (lt_nle (N := 7) hj (by decide)), fun _ => ?_⟩
    dsimp only
    generalize zsum (fun j => if w < 0 ∨ nI j = w then m 4 j else 0) j = z at hK ⊢
    have jj : (w < 0 ∨ nI j = w) → wX5_status_j41 m z (nI j) K := fun q => by
      unfold wX5_status_j41
      rw [if_pos q] at hK
      rw [nI_clamp (by omega), nI_1]
      exact ⟨in_nI hj (by decide), hK⟩
    refine ⟨fun q => jj (Or.inl q), fun q => ⟨fun q2 => ?_, fun q2 => jj (Or.inr q2)⟩⟩
    rw [if_neg (fun a => a.elim q q2)] at hK
    rw [nI_1]; exact hK
  · intro K
    exact ⟨fun _ => k, fun z => absurd (show nI 7 ≤ nI 7 from nI_le (Nat.le_refl 7) (by decide)) z⟩
theorem zsum_pick {f : Nat → Int32} {i : Nat} : ∀ {n : Nat}, i < n → zsum (fun j => if j = i then f j else 0) n = f i
  | 0, h => absurd h (Nat.not_lt_zero i)
  | n + 1, h => by
    show zsum (fun j => if j = i then f j else 0) n + (if n = i then f n else 0) = f i
    by_cases e : n = i
    · subst e
      rw [if_pos rfl, zsum_zero (fun j hj => if_neg (by omega)), Int32.zero_add]
    · rw [if_neg e, zsum_pick (show i < n by omega), Int32.add_zero]
set_option maxRecDepth 20000 in
set_option maxHeartbeats 4000000 in
theorem op_status {c m : zz_H} (hR : Rel c m) (p1 : Int32) : wX4_status p1 c (fun r c' => wX5_status p1 m (fun r' m' => r = r' ∧ Rel c' m')) := by
  obtain ⟨⟨P, C, hW, hM⟩, hK, hF, hT, hS⟩ := id hR
  have eP : c 1 7 = nI P := hM.1
  have eC : c 1 8 = nI C := hM.2.1
  have eP' : m 1 17 = nI P := hW.1
  have eC' : m 1 18 = nI C := hW.2.2.1
  have bP : P ≤ 12 := hW.2.1
  have bC : C ≤ 6 := hW.2.2.2.1
  unfold wX4_status wX5_status 
  by_cases h0 : ((-1) : Int32) ≤ p1 ∧ p1 ≤ 6
  case neg =>
    simp only [tell0, tell1, tell2, tell3, tell4, tell5, tell6, finds0, finds1, finds2, finds3, finds4, finds5, finds6, c_isQuestion, c_isMarker, c_isKind, c_isBy, c_isLine, c_isSpot, c_isSheet, c_isPupil, c_isCurve, m_isQuestion, m_isLine, m_isOne, m_isPupil, m_isCurve, within_eq, in_eq, wl_ge0, wl_ge1, wl_le1, wl_le3, wl_le4, wl_le5, wl_le6, wl_le7, wl_le9, wl_le12, wl_le40, wl_le100, wl_le400, wl_gem1, wl_ww, zz_10, not_false_eq_true, not_true_eq_false, true_and, and_true, false_implies, true_implies, forall_const, eP, eC, eP', eC', if_neg h0]
    exact hR.find (i := 0) (by decide)
  simp only [tell0, tell1, tell2, tell3, tell4, tell5, tell6, finds0, finds1, finds2, finds3, finds4, finds5, finds6, c_isQuestion, c_isMarker, c_isKind, c_isBy, c_isLine, c_isSpot, c_isSheet, c_isPupil, c_isCurve, m_isQuestion, m_isLine, m_isOne, m_isPupil, m_isCurve, within_eq, in_eq, wl_ge0, wl_ge1, wl_le1, wl_le3, wl_le4, wl_le5, wl_le6, wl_le7, wl_le9, wl_le12, wl_le40, wl_le100, wl_le400, wl_gem1, wl_ww, zz_10, not_false_eq_true, not_true_eq_false, true_and, and_true, false_implies, true_implies, forall_const, eP, eC, eP', eC', if_pos h0]
  have b := rng_zb h0 rfl rfl
  have l0 : (0 : Int32).toInt = 0 := rfl
  have l1 : ((-1 : Int32)).toInt = -1 := rfl
  have l6 : (6 : Int32).toInt = 6 := rfl
  have b1 := b.1
  have b2 := b.2
  refine ⟨fun z => ?_, fun z => ?_⟩
  · refine c_statusLoop _ (m_statusLoop _ _ ⟨?_, hR⟩)
    exact zsum_congr (fun j hj => by rw [if_pos (Or.inl z)]; exact hF j hj)
  · rw [fa_lt, l0] at z
    obtain ⟨i, hi, rfl⟩ := zb_nI (x := p1) (n := 6) ⟨by omega, by omega⟩
    rw [nI_clamp (by omega)]
    refine ⟨in_nI (by omega) (by decide), m_statusLoop _ _ ⟨?_, hR⟩⟩
    rw [hF i (by omega)]
    rw [zsum_congr (g := fun j => if j = i then m 4 j else 0) (fun j hj => ?_), zsum_pick (by omega)]
    by_cases e : j = i
    · rw [if_pos e, if_pos (Or.inr (by rw [e]))]
    · rw [if_neg e, if_neg]
      rintro (q | q)
      · exact nI_pos (by omega) q
      · exact e ((nI_eq (by omega) (by omega)).mp q)
