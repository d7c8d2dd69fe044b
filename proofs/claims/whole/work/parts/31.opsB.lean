theorem spot_eq (a b k : Int32) (h : zz_H) (post : Int32 → Prop) : wX4_spotOfPoint a b k h post = post ((a * 8 + b) * 2 + k) := rfl
theorem at_eq (a b k : Int32) (h : zz_H) (post : Int32 → Prop) : wX5_at a b k h post = post (19 + 17 * a + 1 + 8 * b + k) := rfl
theorem idx_ofb {x : Int32} {j n : Nat} (hn : n < 1000000) (e : x = nI j) (h : j < n) : 0 ≤ x ∧ x ≤ nI n - 1 := by
  subst e
  refine ⟨nI_pos' (by omega), ?_⟩
  rw [fa_le, show (nI n - 1).toInt = (n : Int) - 1 from pk_sub_toInt (a := n) (b := 1) (by omega) (by omega), nI_toInt (by omega)]
  omega
set_option maxRecDepth 20000 in
set_option maxHeartbeats 4000000 in
theorem op_point {c m : zz_H} (hR : Rel c m) (p1 : Int32) (p2 : Int32) (p3 : Int32) (p4 : Int32) : wX4_point p1 p2 p3 p4 c (fun r c' => wX5_point p1 p2 p3 p4 m (fun r' m' => r = r' ∧ Rel c' m')) := by
  obtain ⟨⟨P, C, hW, hM⟩, hK, hF, hT, hS⟩ := id hR
  have eP : c 1 7 = nI P := hM.1
  have eC : c 1 8 = nI C := hM.2.1
  have eP' : m 1 17 = nI P := hW.1
  have eC' : m 1 18 = nI C := hW.2.2.1
  have bP : P ≤ 12 := hW.2.1
  have bC : C ≤ 6 := hW.2.2.2.1
  unfold wX4_point wX5_point 
  by_cases h0 : (0 : Int32) ≤ p1 ∧ p1 ≤ nI P - 1
  case neg =>
    simp only [tell0, tell1, tell2, tell3, tell4, tell5, tell6, finds0, finds1, finds2, finds3, finds4, finds5, finds6, c_isQuestion, c_isMarker, c_isKind, c_isBy, c_isLine, c_isSpot, c_isSheet, c_isPupil, c_isCurve, m_isQuestion, m_isLine, m_isOne, m_isPupil, m_isCurve, within_eq, in_eq, wl_ge0, wl_ge1, wl_le1, wl_le3, wl_le4, wl_le5, wl_le6, wl_le7, wl_le9, wl_le12, wl_le40, wl_le100, wl_le400, wl_gem1, wl_ww, zz_10, not_false_eq_true, not_true_eq_false, true_and, and_true, false_implies, true_implies, forall_const, eP, eC, eP', eC', if_neg h0]
    exact hR.find (i := 0) (by decide)
  by_cases h1 : (0 : Int32) ≤ p2 ∧ p2 ≤ 7
  case neg =>
    simp only [tell0, tell1, tell2, tell3, tell4, tell5, tell6, finds0, finds1, finds2, finds3, finds4, finds5, finds6, c_isQuestion, c_isMarker, c_isKind, c_isBy, c_isLine, c_isSpot, c_isSheet, c_isPupil, c_isCurve, m_isQuestion, m_isLine, m_isOne, m_isPupil, m_isCurve, within_eq, in_eq, wl_ge0, wl_ge1, wl_le1, wl_le3, wl_le4, wl_le5, wl_le6, wl_le7, wl_le9, wl_le12, wl_le40, wl_le100, wl_le400, wl_gem1, wl_ww, zz_10, not_false_eq_true, not_true_eq_false, true_and, and_true, false_implies, true_implies, forall_const, eP, eC, eP', eC', if_pos h0, if_neg h1]
    exact hR.find (i := 0) (by decide)
  by_cases h2 : (0 : Int32) ≤ p3 ∧ p3 ≤ 1
  case neg =>
    simp only [tell0, tell1, tell2, tell3, tell4, tell5, tell6, finds0, finds1, finds2, finds3, finds4, finds5, finds6, c_isQuestion, c_isMarker, c_isKind, c_isBy, c_isLine, c_isSpot, c_isSheet, c_isPupil, c_isCurve, m_isQuestion, m_isLine, m_isOne, m_isPupil, m_isCurve, within_eq, in_eq, wl_ge0, wl_ge1, wl_le1, wl_le3, wl_le4, wl_le5, wl_le6, wl_le7, wl_le9, wl_le12, wl_le40, wl_le100, wl_le400, wl_gem1, wl_ww, zz_10, not_false_eq_true, not_true_eq_false, true_and, and_true, false_implies, true_implies, forall_const, eP, eC, eP', eC', if_pos h0, if_pos h1, if_neg h2]
    exact hR.find (i := 0) (by decide)
  obtain ⟨p, hp, rfl⟩ := idx_of (by omega) h0
  obtain ⟨q, hq, rfl⟩ := idx_le (n := 7) (by decide) h1
  obtain ⟨k, hk, rfl⟩ := idx_le (n := 1) (by decide) h2
  have ec : (nI q).toNatClampNeg = q := nI_clamp (by omega)
  have ew : c 2 q = m 1 q := hM.2.2.2.1 q (by omega)
  have e0 : (0 : Int32) + nI q = nI q := ix_0 _
  have v1 : vp_in (nI q) 8 := in_nI (by omega) (by decide)
  have v2 : vp_in (nI q) 245 := in_nI (by omega) (by decide)
  by_cases h3 : (0 : Int32) ≤ p4 ∧ p4 ≤ m 1 q
  case neg =>
    simp only [tell0, tell1, tell2, tell3, tell4, tell5, tell6, finds0, finds1, finds2, finds3, finds4, finds5, finds6, c_isQuestion, c_isMarker, c_isKind, c_isBy, c_isLine, c_isSpot, c_isSheet, c_isPupil, c_isCurve, m_isQuestion, m_isLine, m_isOne, m_isPupil, m_isCurve, within_eq, in_eq, wl_ge0, wl_ge1, wl_le1, wl_le3, wl_le4, wl_le5, wl_le6, wl_le7, wl_le9, wl_le12, wl_le40, wl_le100, wl_le400, wl_gem1, wl_ww, zz_10, not_false_eq_true, not_true_eq_false, true_and, and_true, false_implies, true_implies, forall_const, eP, eC, eP', eC', if_pos h0, if_pos h1, if_pos h2, ec, ew, e0, v1, v2, if_neg h3]
    exact hR.find (i := 0) (by decide)
  simp only [tell0, tell1, tell2, tell3, tell4, tell5, tell6, finds0, finds1, finds2, finds3, finds4, finds5, finds6, c_isQuestion, c_isMarker, c_isKind, c_isBy, c_isLine, c_isSpot, c_isSheet, c_isPupil, c_isCurve, m_isQuestion, m_isLine, m_isOne, m_isPupil, m_isCurve, within_eq, in_eq, wl_ge0, wl_ge1, wl_le1, wl_le3, wl_le4, wl_le5, wl_le6, wl_le7, wl_le9, wl_le12, wl_le40, wl_le100, wl_le400, wl_gem1, wl_ww, zz_10, not_false_eq_true, not_true_eq_false, true_and, and_true, false_implies, true_implies, forall_const, eP, eC, eP', eC', if_pos h0, if_pos h1, if_pos h2, ec, ew, e0, v1, v2, if_pos h3]
  simp only [spot_eq, at_eq]
  rw [ix_spot, ix_at, nI_clamp (by omega), nI_clamp (by omega)]
  refine ⟨in_nI (by omega) (by decide), in_nI (by omega) (by decide), ?_⟩
  simp only [sto_eq]
  refine ⟨in_nI (by omega) (by decide), in_nI (by omega) (by decide), ?_⟩
  exact ⟨hM.2.2.2.2.2.2.1 p q k hp (by omega) (by omega), hR.paper (hW.point hp (by omega) (by omega) (rng_zb h3 rfl rfl)) (hM.point p4 bP bC hp (by omega) (by omega)) (fun k hk => zz_st_ne _ _ (by omega))⟩
theorem hold_end {c m : zz_H} (hR : Rel c m) {P C : Nat} (hW : WF (m 1) P C) (hM : PM c 1 (m 1) P C) {k : Nat} (hk : k < 10) {v : Int32} (hv : zb v (-1) ((C : Int) - 1)) : Rel (zz_st c 8 (upd (c 8) k v)) (zz_st m 1 (upd (m 1) (235 + k) v)) :=
  hR.paper (hW.spot hk hv) (hM.spot v hW.2.1 hW.2.2.2.1 hk) (fun k hk => zz_st_ne _ _ (by omega))
set_option maxRecDepth 20000 in
set_option maxHeartbeats 4000000 in
theorem op_hold {c m : zz_H} (hR : Rel c m) (p1 : Int32) (p2 : Int32) : wX4_hold p1 p2 c (fun r c' => wX5_hold p1 p2 m (fun r' m' => r = r' ∧ Rel c' m')) := by
  obtain ⟨⟨P, C, hW, hM⟩, hK, hF, hT, hS⟩ := id hR
  have eP : c 1 7 = nI P := hM.1
  have eC : c 1 8 = nI C := hM.2.1
  have eP' : m 1 17 = nI P := hW.1
  have eC' : m 1 18 = nI C := hW.2.2.1
  have bP : P ≤ 12 := hW.2.1
  have bC : C ≤ 6 := hW.2.2.2.1
  unfold wX4_hold wX5_hold 
  by_cases h0 : (0 : Int32) ≤ p1 ∧ p1 ≤ 9
  case neg =>
    simp only [tell0, tell1, tell2, tell3, tell4, tell5, tell6, finds0, finds1, finds2, finds3, finds4, finds5, finds6, c_isQuestion, c_isMarker, c_isKind, c_isBy, c_isLine, c_isSpot, c_isSheet, c_isPupil, c_isCurve, m_isQuestion, m_isLine, m_isOne, m_isPupil, m_isCurve, within_eq, in_eq, wl_ge0, wl_ge1, wl_le1, wl_le3, wl_le4, wl_le5, wl_le6, wl_le7, wl_le9, wl_le12, wl_le40, wl_le100, wl_le400, wl_gem1, wl_ww, zz_10, not_false_eq_true, not_true_eq_false, true_and, and_true, false_implies, true_implies, forall_const, eP, eC, eP', eC', if_neg h0]
    exact hR.find (i := 0) (by decide)
  simp only [tell0, tell1, tell2, tell3, tell4, tell5, tell6, finds0, finds1, finds2, finds3, finds4, finds5, finds6, c_isQuestion, c_isMarker, c_isKind, c_isBy, c_isLine, c_isSpot, c_isSheet, c_isPupil, c_isCurve, m_isQuestion, m_isLine, m_isOne, m_isPupil, m_isCurve, within_eq, in_eq, wl_ge0, wl_ge1, wl_le1, wl_le3, wl_le4, wl_le5, wl_le6, wl_le7, wl_le9, wl_le12, wl_le40, wl_le100, wl_le400, wl_gem1, wl_ww, zz_10, not_false_eq_true, not_true_eq_false, true_and, and_true, false_implies, true_implies, forall_const, eP, eC, eP', eC', if_pos h0]
  obtain ⟨k, hk, rfl⟩ := idx_le (n := 9) (by decide) h0
  have fin : ∀ v : Int32, zb v (-1) ((C : Int) - 1) → wX4_hold_j27 (nI k) v c (fun r c' => wX5_hold_j32 (nI k) v m (fun r' m' => r = r' ∧ Rel c' m')) := by
    intro v hv
    unfold wX4_hold_j27 wX5_hold_j32
    rw [ix_spt, nI_clamp (by omega), nI_clamp (by omega)]
    exact ⟨in_nI (by omega) (by decide), ⟨in_nI (by omega) (by decide), ⟨rfl, hold_end hR hW hM (by omega) hv⟩⟩⟩
  by_cases e : p2 = -1
  · subst e
    refine ⟨fun _ => ?_, fun h => absurd rfl h⟩
    have := fin (-1) ⟨by decide, by show (-1 : Int) ≤ _; omega⟩
    unfold wX4_hold_j27 at this ⊢
    obtain ⟨t1, t2⟩ := this
    exact ⟨t1, fun _ => t2, fun h => absurd rfl h⟩
  · refine ⟨fun h => absurd h e, fun _ => ?_⟩
    by_cases h1 : (0 : Int32) ≤ p2 ∧ p2 ≤ nI C - 1
    · obtain ⟨j, hj, rfl⟩ := idx_of (by omega) h1
      have := fin (nI j) ⟨by rw [nI_toInt (by omega)]; omega, by rw [nI_toInt (by omega)]; omega⟩
      simp only [if_pos h1, zz_10, not_false_eq_true, false_implies, true_implies, and_true]
      unfold wX4_hold_j27 at this ⊢
      obtain ⟨t1, t2⟩ := this
      refine ⟨t1, fun h => absurd h e, fun _ => t2⟩
    · simp only [if_neg h1, not_true_eq_false, false_implies, true_implies, true_and]
      exact ⟨fun h => absurd h e, fun _ => hR.find (i := 0) (by decide)⟩
/-- a new curve, in the reference -/
def nC (s : Nat → Int32) (C : Nat) (k b : Int32) : Nat → Int32 := upd (upd (upd s (223 + 2 * C) k) (224 + 2 * C) b) 18 (nI (C + 1))
theorem WF.newC {s : Nat → Int32} {P C : Nat} (h : WF s P C) (hC : C < 6) {k b : Int32} (hk : zb k 0 6) (hb : zb b 0 100) : WF (nC s C k b) P (C + 1) := by
  obtain ⟨h1, h2, h3, h4, h5, h6, h7, h8, h9, h10⟩ := h
  have e : ∀ i, i ≠ 18 → i ≠ 223 + 2 * C → i ≠ 224 + 2 * C → nC s C k b i = s i := fun i a1 a2 a3 => by unfold nC; rw [pk_un a1, pk_un a3, pk_un a2]
  refine ⟨by rw [e _ (by omega) (by omega) (by omega)]; exact h1, h2, pk_us, by omega, fun q hq => ?_, fun q hq => ?_, fun p hp => ?_, fun p q j hp hq hj => ?_, fun j hj => ?_, fun j hj => ?_⟩
  · rw [e _ (by omega) (by omega) (by omega)]; exact h5 q hq
  · rw [e _ (by omega) (by omega) (by omega)]; exact h6 q hq
  · rw [e _ (by omega) (by omega) (by omega)]; exact h7 p hp
  · rw [e _ (by omega) (by omega) (by omega), e q (by omega) (by omega) (by omega)]; exact h8 p q j hp hq hj
  · by_cases ej : j = C
    · subst ej
      unfold nC
      rw [pk_un (by omega), pk_un (by omega), pk_us, pk_un (by omega), pk_us]
      exact ⟨hk, hb⟩
    · rw [e _ (by omega) (by omega) (by omega), e _ (by omega) (by omega) (by omega)]; exact h9 j (by omega)
  · rw [e _ (by omega) (by omega) (by omega)]
    have := h10 j hj
    exact ⟨this.1, by have := this.2; omega⟩
def cC (c : zz_H) (a : Nat) (C : Nat) (k b : Int32) : zz_H := zz_st (zz_st (zz_st c (a + 5) (upd (c (a + 5)) C k)) (a + 6) (upd (c (a + 6)) C b)) a (upd (c a) 8 (nI (C + 1)))
theorem PM.newC {c : zz_H} {a : Nat} {s : Nat → Int32} {P C : Nat} (h : PM c a s P C) (hP : P ≤ 12) (hC : C < 6) (k b : Int32) : PM (cC c a C k b) a (nC s C k b) P (C + 1) := by
  obtain ⟨h1, h2, h3, h4, h5, h6, h7, h8, h9⟩ := h
  have e : ∀ i, i ≠ 18 → i ≠ 223 + 2 * C → i ≠ 224 + 2 * C → nC s C k b i = s i := fun i a1 a2 a3 => by unfold nC; rw [pk_un a1, pk_un a3, pk_un a2]
  have f : ∀ j, j ≠ a → j ≠ a + 5 → j ≠ a + 6 → cC c a C k b j = c j := fun j a1 a2 a3 => by unfold cC; rw [zz_st_ne _ _ a1, zz_st_ne _ _ a3, zz_st_ne _ _ a2]
  have fa : cC c a C k b a = upd (c a) 8 (nI (C + 1)) := by unfold cC; rw [zz_st_self]
  have f5 : cC c a C k b (a + 5) = upd (c (a + 5)) C k := by unfold cC; rw [zz_st_ne _ _ (by omega), zz_st_ne _ _ (by omega), zz_st_self]
  have f6 : cC c a C k b (a + 6) = upd (c (a + 6)) C b := by unfold cC; rw [zz_st_ne _ _ (by omega), zz_st_self]
  refine ⟨?_, ?_, ?_, fun q hq => ?_, fun q hq => ?_, fun p hp => ?_, fun p q j hp hq hj => ?_, fun j hj => ?_, fun j hj => ?_⟩
  · rw [fa, pk_un (by decide)]; exact h1
  · rw [fa, pk_us]
  · rw [fa, pk_un (by decide), e _ (by omega) (by omega) (by omega)]; exact h3
  · rw [f _ (by omega) (by omega) (by omega), e _ (by omega) (by omega) (by omega)]; exact h4 q hq
  · rw [f _ (by omega) (by omega) (by omega), e _ (by omega) (by omega) (by omega)]; exact h5 q hq
  · rw [f _ (by omega) (by omega) (by omega), e _ (by omega) (by omega) (by omega)]; exact h6 p hp
  · rw [f _ (by omega) (by omega) (by omega), e _ (by omega) (by omega) (by omega)]; exact h7 p q j hp hq hj
  · rw [f5, f6]
    by_cases ej : j = C
    · subst ej
      unfold nC
      rw [pk_us, pk_us, pk_un (by omega), pk_un (by omega), pk_us, pk_un (by omega), pk_us]
      exact ⟨rfl, rfl⟩
    · rw [pk_un ej, pk_un ej, e _ (by omega) (by omega) (by omega), e _ (by omega) (by omega) (by omega)]; exact h8 j (by omega)
  · rw [f _ (by omega) (by omega) (by omega), e _ (by omega) (by omega) (by omega)]; exact h9 j hj
theorem m_newCurve {m : zz_H} {C : Nat} (e : m 1 18 = nI C) (hC : C < 6) (k b : Int32) (post : Int32 → zz_H → Prop) : wX5_newCurve k b m post = post (nI C) (zz_st m 1 (nC (m 1) C k b)) := by
  unfold wX5_newCurve
  simp only [sto_eq, zz_st_self]
  rw [pk_un (show 18 ≠ (223 + 2 * m 1 18 : Int32).toNatClampNeg by rw [e, ix_kind, nI_clamp (by omega)]; omega)]
  rw [e, ix_by, ix_kind, nI_clamp (by omega), nI_clamp (by omega)]
  rw [pk_un (show 18 ≠ 224 + 2 * C by omega), pk_un (show 18 ≠ 223 + 2 * C by omega), e, nI_1, pk_us]
  have v1 : vp_in (nI (223 + 2 * C)) 245 := in_nI (by omega) (by decide)
  have v2 : vp_in (nI (224 + 2 * C)) 245 := in_nI (by omega) (by decide)
  have hh : zz_st (zz_st (zz_st m 1 (upd (m 1) (223 + 2 * C) k)) 1 (upd (upd (m 1) (223 + 2 * C) k) (224 + 2 * C) b)) 1 (upd (upd (upd (m 1) (223 + 2 * C) k) (224 + 2 * C) b) 18 (nI (C + 1))) = zz_st m 1 (nC (m 1) C k b) := by
    funext j
    unfold zz_st nC
    by_cases ej : j = 1 <;> simp [ej]
  rw [hh]
  simp only [v1, v2, true_and]
  rw [show nI (C + 1) - 1 = nI C from nI_pred C]
theorem c_addCurve {c : zz_H} {a C : Nat} (e : c a 8 = nI C) (hC : C < 6) (k b : Int32) (post : Int32 → zz_H → Prop) : wX0_addCurve a k b c post = post (nI C) (cC c a C k b) := by
  unfold wX0_addCurve
  have v1 : vp_in (nI C) 6 := in_nI (by omega) (by decide)
  simp only [sto_eq, e, v1, true_and, nI_clamp (show C < 2 ^ 31 by omega)]
  rw [zz_st_ne _ _ (show a ≠ a + 6 by omega), zz_st_ne _ _ (show a ≠ a + 5 by omega), zz_st_ne _ _ (show a + 6 ≠ a + 5 by omega), e, nI_1]
  rfl
theorem newC_end {c m : zz_H} (hR : Rel c m) {P C : Nat} (hW : WF (m 1) P C) (hM : PM c 1 (m 1) P C) (hC : C < 6) {k b : Int32} (hk : zb k 0 6) (hb : zb b 0 100) : wX5_newCurve k b m (fun r' m' => nI C = r' ∧ Rel (cC c 1 C k b) m') := by
  rw [m_newCurve hW.2.2.1 hC]
  exact ⟨rfl, hR.paper (hW.newC hC hk hb) (hM.newC hW.2.1 hC k b) (fun j hj => by unfold cC; rw [zz_st_ne _ _ (by omega), zz_st_ne _ _ (by omega), zz_st_ne _ _ (by omega)])⟩
set_option maxRecDepth 20000 in
set_option maxHeartbeats 4000000 in
theorem op_curve {c m : zz_H} (hR : Rel c m) (p1 : Int32) (p2 : Int32) : wX4_curve p1 p2 c (fun r c' => wX5_curve p1 p2 m (fun r' m' => r = r' ∧ Rel c' m')) := by
  obtain ⟨⟨P, C, hW, hM⟩, hK, hF, hT, hS⟩ := id hR
  have eP : c 1 7 = nI P := hM.1
  have eC : c 1 8 = nI C := hM.2.1
  have eP' : m 1 17 = nI P := hW.1
  have eC' : m 1 18 = nI C := hW.2.2.1
  have bP : P ≤ 12 := hW.2.1
  have bC : C ≤ 6 := hW.2.2.2.1
  unfold wX4_curve wX5_curve 
  by_cases h0 : (0 : Int32) ≤ p1 ∧ p1 ≤ 6
  case neg =>
    simp only [tell0, tell1, tell2, tell3, tell4, tell5, tell6, finds0, finds1, finds2, finds3, finds4, finds5, finds6, c_isQuestion, c_isMarker, c_isKind, c_isBy, c_isLine, c_isSpot, c_isSheet, c_isPupil, c_isCurve, m_isQuestion, m_isLine, m_isOne, m_isPupil, m_isCurve, within_eq, in_eq, wl_ge0, wl_ge1, wl_le1, wl_le3, wl_le4, wl_le5, wl_le6, wl_le7, wl_le9, wl_le12, wl_le40, wl_le100, wl_le400, wl_gem1, wl_ww, zz_10, not_false_eq_true, not_true_eq_false, true_and, and_true, false_implies, true_implies, forall_const, eP, eC, eP', eC', if_neg h0]
    exact hR.find (i := 0) (by decide)
  by_cases h1 : (0 : Int32) ≤ p2 ∧ p2 ≤ 100
  case neg =>
    simp only [tell0, tell1, tell2, tell3, tell4, tell5, tell6, finds0, finds1, finds2, finds3, finds4, finds5, finds6, c_isQuestion, c_isMarker, c_isKind, c_isBy, c_isLine, c_isSpot, c_isSheet, c_isPupil, c_isCurve, m_isQuestion, m_isLine, m_isOne, m_isPupil, m_isCurve, within_eq, in_eq, wl_ge0, wl_ge1, wl_le1, wl_le3, wl_le4, wl_le5, wl_le6, wl_le7, wl_le9, wl_le12, wl_le40, wl_le100, wl_le400, wl_gem1, wl_ww, zz_10, not_false_eq_true, not_true_eq_false, true_and, and_true, false_implies, true_implies, forall_const, eP, eC, eP', eC', if_pos h0, if_neg h1]
    exact hR.find (i := 0) (by decide)
  simp only [tell0, tell1, tell2, tell3, tell4, tell5, tell6, finds0, finds1, finds2, finds3, finds4, finds5, finds6, c_isQuestion, c_isMarker, c_isKind, c_isBy, c_isLine, c_isSpot, c_isSheet, c_isPupil, c_isCurve, m_isQuestion, m_isLine, m_isOne, m_isPupil, m_isCurve, within_eq, in_eq, wl_ge0, wl_ge1, wl_le1, wl_le3, wl_le4, wl_le5, wl_le6, wl_le7, wl_le9, wl_le12, wl_le40, wl_le100, wl_le400, wl_gem1, wl_ww, zz_10, not_false_eq_true, not_true_eq_false, true_and, and_true, false_implies, true_implies, forall_const, eP, eC, eP', eC', if_pos h0, if_pos h1]
  by_cases hC6 : C = 6
  · subst hC6
    refine ⟨fun h => absurd h (by decide), fun _ => ⟨fun h => absurd rfl h, fun _ => hR.find (i := 1) (by decide)⟩⟩
  · refine ⟨fun _ => ?_, fun h => absurd (nI_lt (a := C) (b := 6) (by omega) (by decide)) h⟩
    rw [c_addCurve eC (by omega)]
    refine ⟨fun _ => ?_, fun h => absurd ((nI_eq (a := C) (b := 6) (by omega) (by decide)).mp h) hC6⟩
    exact newC_end hR hW hM (by omega) (rng_zb h0 rfl rfl) (rng_zb h1 rfl rfl)
theorem op_tear {c m : zz_H} (hR : Rel c m) : wX4_tear c (fun r c' => wX5_tear m (fun r' m' => r = r' ∧ Rel c' m')) := by
  obtain ⟨⟨P, C, hW, hM⟩, hK, hF, hT, hS⟩ := id hR
  have fin : Rel (zz_st c 0 (upd (c 0) 9 0)) (zz_st m 0 (upd (m 0) 4 0)) := by
    have e : ∀ k, k ≠ 0 → zz_st c 0 (upd (c 0) 9 0) k = c k := fun k hk => zz_st_ne _ _ hk
    have f : ∀ k, k ≠ 0 → zz_st m 0 (upd (m 0) 4 0) k = m k := fun k hk => zz_st_ne _ _ hk
    refine ⟨⟨P, C, by rw [f 1 (by decide)]; exact hW, by rw [f 1 (by decide)]; exact hM.cong (fun k a b => e k (by omega))⟩, Or.inl ⟨by rw [zz_st_self, pk_us], by rw [zz_st_self, pk_us]⟩, ?_, hT.cong (by rw [e 29 (by omega)]) (e 30 (by omega)) (by rw [zz_st_self, pk_un (by decide)]) (f 6 (by decide)), hS.cong (fun k a => e k (by omega)) (f 7 (by decide)) (f 8 (by decide)) (f 9 (by decide))⟩
    intro k hk
    rw [e 34 (by omega), f 4 (by decide)]
    exact hF k hk
  unfold wX4_tear wX5_tear
  simp only [sto_eq]
  rcases hK with ⟨h1, h2⟩ | ⟨h1, h2, -⟩
  · rw [h1, h2]
    exact ⟨fun _ => ⟨fun _ => ⟨trivial, fin⟩, fun h => absurd rfl h⟩, fun h => absurd rfl h⟩
  · rw [h1, h2]
    exact ⟨fun h => absurd h (by decide), fun _ => ⟨fun h => absurd h (by decide), fun _ => ⟨trivial, fin⟩⟩⟩
theorem TR.wipe {c m : zz_H} : TR (zz_st c 29 (upd (c 29) 1 0)) (zz_st m 0 (upd (m 0) 7 0)) := ⟨0, by decide, by rw [zz_st_self, pk_us]; rfl, by rw [zz_st_self, pk_us]; rfl, fun i hi => absurd hi (by omega)⟩
theorem op_wipe {c m : zz_H} (hR : Rel c m) : wX4_wipe c (fun r c' => wX5_wipe m (fun r' m' => r = r' ∧ Rel c' m')) := by
  obtain ⟨⟨P, C, hW, hM⟩, hK, hF, hT, hS⟩ := id hR
  obtain ⟨T, t1, t2, t3, t4⟩ := hT
  have e : ∀ k, k ≠ 29 → zz_st c 29 (upd (c 29) 1 0) k = c k := fun k hk => zz_st_ne _ _ hk
  have f : ∀ k, k ≠ 0 → zz_st m 0 (upd (m 0) 7 0) k = m k := fun k hk => zz_st_ne _ _ hk
  unfold wX4_wipe wX5_wipe
  simp only [sto_eq]
  refine ⟨t2.trans t3.symm, ⟨P, C, by rw [f 1 (by decide)]; exact hW, by rw [f 1 (by decide)]; exact hM.cong (fun k a b => e k (by omega))⟩, hK.cong (fun k a b => e k (by omega)) (by rw [e 0 (by omega)]) (by rw [zz_st_self, pk_un (by decide)]) (f 2 (by decide)), ?_, TR.wipe, hS.cong (fun k a => e k (by omega)) (f 7 (by decide)) (f 8 (by decide)) (f 9 (by decide))⟩
  intro k hk
  rw [e 34 (by omega), f 4 (by decide)]
  exact hF k hk
