theorem m1_toInt {x : Int32} {a : Int} (h : x.toInt = a) (h1 : -1000 ≤ a) (h2 : a ≤ 1000) : (x + (-1)).toInt = a - 1 := by
  have l : ((-1 : Int32)).toInt = -1 := rfl
  rw [fb_addI (by rw [l]; omega) (by rw [l]; omega), l]; omega
/-- the reference seeks a line downwards: the first one that n pass, after N that fewer pass -/
theorem m_lineLoop {m : zz_H} {P C k n N : Nat} (hW : WF (m 1) P C) (hk : k < C) (hn : n ≤ 12) (hN : N ≤ 401) (hlow : ∀ x : Int32, 400 - (N : Int) < x.toInt → x.toInt ≤ 400 → ctg (MK (m 1) P (m 1 (223 + 2 * k)) (m 1 (224 + 2 * k))) P x < n) (post : Int32 → zz_H → Prop)
    (hend : (N = 401 ∧ ∀ m', SM m m' → post ((-1000004) : Int32) (mF m' 3)) ∨ (N ≤ 400 ∧ ∀ x m', x.toInt = 400 - (N : Int) → SM m m' → n ≤ ctg (MK (m 1) P (m 1 (223 + 2 * k)) (m 1 (224 + 2 * k))) P x ∧ post x m')) : ∃ t9, zz_lp (fun K (s : Int32 × zz_H) => wX5_line_b31 (nI k) (nI n) post K s.1 s.2) t9 (400, m) := by
  have hP := hW.2.1
  have l0 : (0 : Int32).toInt = 0 := rfl
  refine lp_inv N (fun j x => x.1.toInt = 400 - (j : Int) ∧ SM m x.2 ∧ x.2 1 = m 1) ⟨rfl, SM.rf m, rfl⟩ ?_ ?_
  · rintro j ⟨x, d⟩ K hj ⟨e1, e2, e3⟩ hK
    dsimp only at e1 e2 e3
    have nl : ¬ x < 0 := by rw [fa_lt]; omega
    refine ⟨fun z => absurd z nl, fun _ => ?_⟩
    have hW' : WF (d 1) P C := by rw [e3]; exact hW
    refine m_passing hW' hk x _ (fun m' f g => m_ones _ hP _ ?_)
    have hl := hlow x (by omega) (by omega)
    rw [e3]
    have hc : ctg (MK (m 1) P (m 1 (223 + 2 * k)) (m 1 (224 + 2 * k))) P x ≤ P := fb_ct_le _ P
    refine ⟨fun _ => hK _ ⟨?_, e2.tr f, g.trans e3⟩, fun z => absurd (nI_lt (a := ctg (MK (m 1) P (m 1 (223 + 2 * k)) (m 1 (224 + 2 * k))) P x) hl (by omega)) z⟩
    show (x + (-1)).toInt = _
    rw [m1_toInt e1 (by omega) (by omega)]; omega
  · rintro ⟨x, d⟩ K ⟨e1, e2, e3⟩
    dsimp only at e1 e2 e3
    rcases hend with ⟨q, h⟩ | ⟨q, h⟩
    · have nl : x < 0 := by rw [fa_lt]; omega
      refine ⟨fun _ => ?_, fun z => absurd nl z⟩
      dsimp only
      rw [finds3]
      exact h d e2
    · have nl : ¬ x < 0 := by rw [fa_lt]; omega
      refine ⟨fun z => absurd z nl, fun _ => ?_⟩
      have hW' : WF (d 1) P C := by rw [e3]; exact hW
      refine m_passing hW' hk x _ (fun m' f g => m_ones _ hP _ ?_)
      obtain ⟨h1, h2⟩ := h x m' e1 (e2.tr f)
      rw [e3]
      have hc : ctg (MK (m 1) P (m 1 (223 + 2 * k)) (m 1 (224 + 2 * k))) P x ≤ P := fb_ct_le _ P
      refine ⟨fun z => absurd h1 (Nat.not_le.mpr ?_), fun _ => h2⟩
      exact (nI_ltI (a := ctg (MK (m 1) P (m 1 (223 + 2 * k)) (m 1 (224 + 2 * k))) P x) (by omega) (by omega)).mp z
set_option maxRecDepth 20000 in
set_option maxHeartbeats 4000000 in
theorem op_line {c m : zz_H} (hR : Rel c m) (p1 : Int32) (p2 : Int32) : wX4_line p1 p2 c (fun r c' => wX5_line p1 p2 m (fun r' m' => r = r' ∧ Rel c' m')) := by
  obtain ⟨⟨P, C, hW, hM⟩, hK, hF, hT, hS⟩ := id hR
  have eP : c 1 7 = nI P := hM.1
  have eC : c 1 8 = nI C := hM.2.1
  have eP' : m 1 17 = nI P := hW.1
  have eC' : m 1 18 = nI C := hW.2.2.1
  have bP : P ≤ 12 := hW.2.1
  have bC : C ≤ 6 := hW.2.2.2.1
  unfold wX4_line wX5_line 
  by_cases h0 : (0 : Int32) ≤ p1 ∧ p1 ≤ nI C - 1
  case neg =>
    simp only [tell0, tell1, tell2, tell3, tell4, tell5, tell6, finds0, finds1, finds2, finds3, finds4, finds5, finds6, c_isQuestion, c_isMarker, c_isKind, c_isBy, c_isLine, c_isSpot, c_isSheet, c_isPupil, c_isCurve, m_isQuestion, m_isLine, m_isOne, m_isPupil, m_isCurve, within_eq, in_eq, wl_ge0, wl_ge1, wl_le1, wl_le3, wl_le4, wl_le5, wl_le6, wl_le7, wl_le9, wl_le12, wl_le40, wl_le100, wl_le400, wl_gem1, wl_ww, zz_10, not_false_eq_true, not_true_eq_false, true_and, and_true, false_implies, true_implies, forall_const, eP, eC, eP', eC', if_neg h0]
    exact hR.find (i := 0) (by decide)
  by_cases h1 : (0 : Int32) ≤ p2 ∧ p2 ≤ 12
  case neg =>
    simp only [tell0, tell1, tell2, tell3, tell4, tell5, tell6, finds0, finds1, finds2, finds3, finds4, finds5, finds6, c_isQuestion, c_isMarker, c_isKind, c_isBy, c_isLine, c_isSpot, c_isSheet, c_isPupil, c_isCurve, m_isQuestion, m_isLine, m_isOne, m_isPupil, m_isCurve, within_eq, in_eq, wl_ge0, wl_ge1, wl_le1, wl_le3, wl_le4, wl_le5, wl_le6, wl_le7, wl_le9, wl_le12, wl_le40, wl_le100, wl_le400, wl_gem1, wl_ww, zz_10, not_false_eq_true, not_true_eq_false, true_and, and_true, false_implies, true_implies, forall_const, eP, eC, eP', eC', if_pos h0, if_neg h1]
    exact hR.find (i := 0) (by decide)
  simp only [tell0, tell1, tell2, tell3, tell4, tell5, tell6, finds0, finds1, finds2, finds3, finds4, finds5, finds6, c_isQuestion, c_isMarker, c_isKind, c_isBy, c_isLine, c_isSpot, c_isSheet, c_isPupil, c_isCurve, m_isQuestion, m_isLine, m_isOne, m_isPupil, m_isCurve, within_eq, in_eq, wl_ge0, wl_ge1, wl_le1, wl_le3, wl_le4, wl_le5, wl_le6, wl_le7, wl_le9, wl_le12, wl_le40, wl_le100, wl_le400, wl_gem1, wl_ww, zz_10, not_false_eq_true, not_true_eq_false, true_and, and_true, false_implies, true_implies, forall_const, eP, eC, eP', eC', if_pos h0, if_pos h1]
  obtain ⟨k, hk, rfl⟩ := idx_of (by omega) h0
  have hb := (hW.2.2.2.2.2.2.2.2.1 k hk).2
  have hz : ∀ p, p < P → zb (MK (m 1) P (m 1 (223 + 2 * k)) (m 1 (224 + 2 * k)) p) 0 320 := fun p hp => MK_zb hW hp _ hb
  
  obtain ⟨n, hn, rfl⟩ := idx_le (n := 12) (by decide) h1
  have l4 : (400 : Int32).toInt = 400 := rfl
  by_cases hnP : n ≤ P
  case neg =>
    refine ⟨fun z => absurd ((nI_leI (by omega) (by omega)).mp z) hnP, fun _ => ?_⟩
    refine m_lineLoop (N := 401) hW hk hn (by decide) (fun x _ _ => ?_) _ (Or.inl ⟨rfl, fun m' f => ⟨rfl, ?_⟩⟩)
    · have : ctg (MK (m 1) P (m 1 (223 + 2 * k)) (m 1 (224 + 2 * k))) P x ≤ P := fb_ct_le _ P
      omega
    · exact (hR.se (SE.rf c) f).find (by decide)
  refine ⟨fun _ => ?_, fun z => absurd (nI_le hnP (by omega)) z⟩
  by_cases hn0 : n = 0
  · subst hn0
    refine ⟨fun z => absurd rfl z, fun _ => ?_⟩
    refine m_lineLoop (N := 0) hW hk hn (by decide) (fun x a b => absurd b (by omega)) _ (Or.inr ⟨by decide, fun x m' e f => ⟨by omega, ?_, hR.se (SE.rf c) f⟩⟩)
    rw [fa_eq, e]; rfl
  · refine ⟨fun _ => ?_, fun z => absurd z (nI_ne0 (by omega) (by omega))⟩
    refine c_work hW hM hk _ (fun c' e cv _ => c_grb cv hn _ ?_)
    obtain ⟨gz, g1, g2, g3⟩ := grb_spec hz (show 0 < n by omega) hnP
    generalize hG : grb (MK (m 1) P (m 1 (223 + 2 * k)) (m 1 (224 + 2 * k))) P n P = G at gz g1 g2 g3
    have z1 := gz.1
    have z2 := gz.2
    have em : zz_min 400 G = G := by rw [fa_eq, min_toInt]; omega
    rw [em]
    refine m_lineLoop (N := (400 - G.toInt).toNat) hW hk hn (by omega) (fun x a b => g2 x (by omega)) _ (Or.inr ⟨by omega, fun x m' ex f => ?_⟩)
    have : x = G := by rw [fa_eq]; omega
    subst this
    exact ⟨g1, rfl, hR.se e f⟩
/-- the first curve by which most pass: (its number, how many), from (b0, -1) on -/
def kq (f : Nat → Nat) (b0 : Int32) : Nat → Int32 × Int32
  | 0 => (b0, -1)
  | j + 1 => if nI (f j) ≤ (kq f b0 j).2 then kq f b0 j else (nI j, nI (f j))
theorem kq_same (f : Nat → Nat) (hf : ∀ j, f j ≤ 12) (a b : Int32) : ∀ j, kq f a (j + 1) = kq f b (j + 1)
  | 0 => by
    have h : ¬ nI (f 0) ≤ (-1 : Int32) := by
      rw [fa_le, nI_toInt (by have := hf 0; omega)]
      show ¬ ((f 0 : Nat) : Int) ≤ -1
      omega
    show (if nI (f 0) ≤ (-1 : Int32) then _ else _) = (if nI (f 0) ≤ (-1 : Int32) then _ else _)
    rw [if_neg h, if_neg h]
  | j + 1 => by
    show (if nI (f (j + 1)) ≤ (kq f a (j + 1)).2 then kq f a (j + 1) else _) = (if nI (f (j + 1)) ≤ (kq f b (j + 1)).2 then kq f b (j + 1) else _)
    rw [kq_same f hf a b j]
theorem kq_pos (f : Nat → Nat) (hf : ∀ j, f j ≤ 12) : ∀ j, j ≤ 6 → 0 ≤ (kq f 0 j).1
  | 0, _ => (by decide : (0 : Int32) ≤ 0)
  | j + 1, h => by
    show 0 ≤ (if nI (f j) ≤ (kq f 0 j).2 then kq f 0 j else (nI j, nI (f j))).1
    by_cases q : nI (f j) ≤ (kq f 0 j).2
    · rw [if_pos q]; exact kq_pos f hf j (by omega)
    · rw [if_neg q]; exact nI_pos' (by omega)
set_option maxRecDepth 20000 in
set_option maxHeartbeats 4000000 in
theorem op_kindest {c m : zz_H} (hR : Rel c m) (p1 : Int32) : wX4_kindest p1 c (fun r c' => wX5_kindest p1 m (fun r' m' => r = r' ∧ Rel c' m')) := by
  obtain ⟨⟨P, C, hW, hM⟩, hK, hF, hT, hS⟩ := id hR
  have eP : c 1 7 = nI P := hM.1
  have eC : c 1 8 = nI C := hM.2.1
  have eP' : m 1 17 = nI P := hW.1
  have eC' : m 1 18 = nI C := hW.2.2.1
  have bP : P ≤ 12 := hW.2.1
  have bC : C ≤ 6 := hW.2.2.2.1
  unfold wX4_kindest wX5_kindest 
  by_cases h0 : (0 : Int32) ≤ p1 ∧ p1 ≤ 400
  case neg =>
    simp only [tell0, tell1, tell2, tell3, tell4, tell5, tell6, finds0, finds1, finds2, finds3, finds4, finds5, finds6, c_isQuestion, c_isMarker, c_isKind, c_isBy, c_isLine, c_isSpot, c_isSheet, c_isPupil, c_isCurve, m_isQuestion, m_isLine, m_isOne, m_isPupil, m_isCurve, within_eq, in_eq, wl_ge0, wl_ge1, wl_le1, wl_le3, wl_le4, wl_le5, wl_le6, wl_le7, wl_le9, wl_le12, wl_le40, wl_le100, wl_le400, wl_gem1, wl_ww, zz_10, not_false_eq_true, not_true_eq_false, true_and, and_true, false_implies, true_implies, forall_const, eP, eC, eP', eC', if_neg h0]
    exact hR.find (i := 0) (by decide)
  simp only [tell0, tell1, tell2, tell3, tell4, tell5, tell6, finds0, finds1, finds2, finds3, finds4, finds5, finds6, c_isQuestion, c_isMarker, c_isKind, c_isBy, c_isLine, c_isSpot, c_isSheet, c_isPupil, c_isCurve, m_isQuestion, m_isLine, m_isOne, m_isPupil, m_isCurve, within_eq, in_eq, wl_ge0, wl_ge1, wl_le1, wl_le3, wl_le4, wl_le5, wl_le6, wl_le7, wl_le9, wl_le12, wl_le40, wl_le100, wl_le400, wl_gem1, wl_ww, zz_10, not_false_eq_true, not_true_eq_false, true_and, and_true, false_implies, true_implies, forall_const, eP, eC, eP', eC', if_pos h0]
  have hf : ∀ j, ctg (MK (m 1) P (m 1 (223 + 2 * j)) (m 1 (224 + 2 * j))) P p1 ≤ 12 := fun j => Nat.le_trans (fb_ct_le _ P) bP
  by_cases hC0 : C = 0
  case pos =>
    subst hC0
    refine ⟨fun z => absurd rfl z, fun _ => ?_⟩
    refine lp_for 0 (fun _ => ((-1 : Int32), (-1 : Int32), (0 : Int32), m)) (fun j hj => absurd hj (by omega)) ?_
    intro K
    refine ⟨fun _ => ?_, fun z => absurd (show m 1 18 ≤ 0 from by rw [eC']; decide) z⟩
    show wX5_kindest_j63 _ (-1) m
    unfold wX5_kindest_j63
    refine ⟨fun z => absurd z (by decide), fun _ => ?_⟩
    rw [finds3]
    exact ⟨rfl, hR.find (by decide)⟩
  refine ⟨fun _ => ?_, fun z => absurd z (nI_ne0 (by omega) (by omega))⟩
  refine lp_inv C (fun j x => (x.1, x.2.1) = kq (fun j => ctg (MK (m 1) P (m 1 (223 + 2 * j)) (m 1 (224 + 2 * j))) P p1) 0 j ∧ x.2.2.1 = nI j ∧ SE c x.2.2.2) ⟨rfl, rfl, SE.rf c⟩ ?_ ?_
  · rintro j ⟨x2, x3, x4, d⟩ K hj ⟨e1, e2, e3⟩ hK
    have e2 : x4 = nI j := e2
    subst e2
    dsimp only at e1 e3
    have hM' : PM d 1 (m 1) P C := hM.cong (fun a b e => e3 a (by omega))
    refine ⟨fun z => absurd (show nI C ≤ nI j from hM'.2.1 ▸ z) (lt_nle hj (by omega)), fun _ => ?_⟩
    refine c_work hW hM' hj _ (fun c' e cv _ => c_marksFrom cv _ _ ?_)
    have hr : ∀ a b : Int32, (a, b) = (if nI (ctg (MK (m 1) P (m 1 (223 + 2 * j)) (m 1 (224 + 2 * j))) P p1) ≤ x3 then (x2, x3) else (nI j, nI (ctg (MK (m 1) P (m 1 (223 + 2 * j)) (m 1 (224 + 2 * j))) P p1))) → K (a, b, nI j + 1, c') := by
      intro a b hab
      refine hK _ ⟨?_, nI_1 j, e3.tr e⟩
      show (a, b) = (if nI (ctg (MK (m 1) P (m 1 (223 + 2 * j)) (m 1 (224 + 2 * j))) P p1) ≤ (kq _ 0 j).2 then kq _ 0 j else (nI j, nI (ctg (MK (m 1) P (m 1 (223 + 2 * j)) (m 1 (224 + 2 * j))) P p1)))
      rw [← e1]
      exact hab
    exact ⟨fun q => hr _ _ (if_pos q).symm, fun q => hr _ _ (if_neg q).symm⟩
  · rintro ⟨x2, x3, x4, d⟩ K ⟨e1, e2, e3⟩
    have e2 : x4 = nI C := e2
    subst e2
    dsimp only at e1 e3
    have hM' : PM d 1 (m 1) P C := hM.cong (fun a b e => e3 a (by omega))
    refine ⟨fun _ => ?_, fun z => absurd (show d 1 8 ≤ nI C from hM'.2.1 ▸ nI_le (Nat.le_refl C) (by omega)) z⟩
    dsimp only
    refine lp_inv C (fun j x => (x.1, x.2.1) = kq (fun j => ctg (MK (m 1) P (m 1 (223 + 2 * j)) (m 1 (224 + 2 * j))) P p1) (-1) j ∧ x.2.2.1 = nI j ∧ SM m x.2.2.2 ∧ x.2.2.2 1 = m 1) ⟨rfl, rfl, SM.rf m, rfl⟩ ?_ ?_
    · rintro j ⟨y2, y3, y4, n⟩ K' hj ⟨f1, f2, f3, f4⟩ hK'
      have f2 : y4 = nI j := f2
      subst f2
      dsimp only at f1 f3 f4
      have hW' : WF (n 1) P C := by rw [f4]; exact hW
      refine ⟨fun z => absurd (show nI C ≤ nI j from hW'.2.2.1 ▸ z) (lt_nle hj (by omega)), fun _ => ?_⟩
      refine m_passing hW' hj _ _ (fun m' f g => m_ones _ bP _ ?_)
      rw [f4]
      have hr : ∀ a b : Int32, (a, b) = (if nI (ctg (MK (m 1) P (m 1 (223 + 2 * j)) (m 1 (224 + 2 * j))) P p1) ≤ y3 then (y2, y3) else (nI j, nI (ctg (MK (m 1) P (m 1 (223 + 2 * j)) (m 1 (224 + 2 * j))) P p1))) → K' (a, b, nI j + 1, m') := by
        intro a b hab
        refine hK' _ ⟨?_, nI_1 j, f3.tr f, g.trans f4⟩
        show (a, b) = (if nI (ctg (MK (m 1) P (m 1 (223 + 2 * j)) (m 1 (224 + 2 * j))) P p1) ≤ (kq _ (-1) j).2 then kq _ (-1) j else (nI j, nI (ctg (MK (m 1) P (m 1 (223 + 2 * j)) (m 1 (224 + 2 * j))) P p1)))
        rw [← f1]
        exact hab
      exact ⟨fun q => hr _ _ (if_pos q).symm, fun q => hr _ _ (if_neg q).symm⟩
    · rintro ⟨y2, y3, y4, n⟩ K' ⟨f1, f2, f3, f4⟩
      have f2 : y4 = nI C := f2
      subst f2
      dsimp only at f1 f3 f4
      refine ⟨fun _ => ?_, fun z => absurd (show n 1 18 ≤ nI C from by rw [f4, eC']; exact nI_le (Nat.le_refl C) (by omega)) z⟩
      dsimp only
      unfold wX5_kindest_j63
      obtain ⟨C', rfl⟩ : ∃ C', C = C' + 1 := ⟨C - 1, by omega⟩
      rw [kq_same _ hf (-1) 0] at f1
      have hxy : y2 = x2 := congrArg Prod.fst (f1.trans e1.symm)
      subst hxy
      have hp : 0 ≤ y2 := by
        have := kq_pos _ hf (C' + 1) bC
        rw [← f1] at this
        exact this
      exact ⟨fun _ => ⟨rfl, hR.se e3 f3⟩, fun z => absurd hp z⟩
