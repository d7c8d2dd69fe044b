/-! the greatest mark that n pupils reach -/
def ctg (M : Nat → Int32) (P : Nat) (t : Int32) : Nat := fb_ct (fun j => decide (t ≤ M j)) P
def grb (M : Nat → Int32) (P n : Nat) : Nat → Int32
  | 0 => 0
  | j + 1 => if M j ≤ grb M P n j then grb M P n j else if ctg M P (M j) < n then grb M P n j else M j
theorem c_grb {c : zz_H} {P : Nat} {M R : Nat → Int32} (h : CV c P M R) {n : Nat} (hn : n ≤ 12) (post : Int32 → Prop) (k : post (grb M P n P)) : wX4_greatestReachedBy (nI n) c post := by
  have hP := h.2.1
  refine lp_for P (fun j => (grb M P n j, nI j)) ?_ ?_
  · intro j hj K hK
    refine ⟨fun z => absurd (show nI P ≤ nI j from h.1 ▸ z) (lt_nle hj (by omega)), fun _ => ?_⟩
    have hK : K ((if M j ≤ grb M P n j then grb M P n j else if ctg M P (M j) < n then grb M P n j else M j), nI (j + 1)) := hK
    generalize grb M P n j = g at hK ⊢
    have v : vp_in (nI j) 12 := in_nI (by omega) (by decide)
    show vp_in (nI j) 12 ∧ ((c 32 (nI j).toNatClampNeg ≤ g → K (g, nI j + 1)) ∧ (¬ c 32 (nI j).toNatClampNeg ≤ g → vp_in (nI j) 12 ∧ wX4_marksFrom (c 32 (nI j).toNatClampNeg) c (fun r4 => (r4 < nI n → K (g, nI j + 1)) ∧ (¬ r4 < nI n → vp_in (nI j) 12 ∧ K (c 32 (nI j).toNatClampNeg, nI j + 1)))))
    rw [nI_clamp (by omega), nI_1, h.2.2.1 j hj]
    refine ⟨v, fun q => ?_, fun q => ⟨v, c_marksFrom h _ _ ?_⟩⟩
    · rw [if_pos q] at hK; exact hK
    · have hl : ctg M P (M j) ≤ P := fb_ct_le _ P
      rw [if_neg q] at hK
      refine ⟨fun q2 => ?_, fun q2 => ⟨v, ?_⟩⟩
      · have q3 : ctg M P (M j) < n := (nI_ltI (a := ctg M P (M j)) (by omega) (by omega)).mp q2
        rw [if_pos q3] at hK; exact hK
      · have q3 : ¬ ctg M P (M j) < n := fun z => q2 ((nI_ltI (a := ctg M P (M j)) (by omega) (by omega)).mpr z)
        rw [if_neg q3] at hK; exact hK
  · intro K
    exact ⟨fun _ => k, fun z => absurd (show c 1 7 ≤ nI P from h.1 ▸ nI_le (Nat.le_refl P) (by omega)) z⟩
theorem ctg_mono {M : Nat → Int32} {P : Nat} {t u : Int32} (h : t.toInt ≤ u.toInt) : ctg M P u ≤ ctg M P t := fb_ct_sub (fun j _ z => by
  simp only [decide_eq_true_eq, fa_le] at z ⊢
  omega)
theorem grb_inv (M : Nat → Int32) (P n : Nat) : ∀ j, j ≤ P → (grb M P n j = 0 ∨ ∃ p, p < P ∧ grb M P n j = M p ∧ n ≤ ctg M P (M p)) ∧ ∀ p, p < j → n ≤ ctg M P (M p) → (M p).toInt ≤ (grb M P n j).toInt
  | 0, _ => ⟨Or.inl rfl, fun p hp => absurd hp (by omega)⟩
  | j + 1, hj => by
    obtain ⟨a, b⟩ := grb_inv M P n j (by omega)
    have e : grb M P n (j + 1) = if M j ≤ grb M P n j then grb M P n j else if ctg M P (M j) < n then grb M P n j else M j := rfl
    by_cases q : M j ≤ grb M P n j
    · rw [e, if_pos q]
      refine ⟨a, fun p hp h => ?_⟩
      by_cases ep : p = j
      · subst ep; exact (fa_le _ _).mp q
      · exact b p (by omega) h
    · by_cases q2 : ctg M P (M j) < n
      · rw [e, if_neg q, if_pos q2]
        refine ⟨a, fun p hp h => ?_⟩
        by_cases ep : p = j
        · subst ep; omega
        · exact b p (by omega) h
      · rw [e, if_neg q, if_neg q2]
        refine ⟨Or.inr ⟨j, by omega, rfl, by omega⟩, fun p hp h => ?_⟩
        by_cases ep : p = j
        · subst ep; exact Int.le_refl _
        · have := b p (by omega) h
          rw [fa_le] at q
          omega
/-- n pupils reach it, and n don't reach more -/
theorem grb_spec {M : Nat → Int32} {P n : Nat} (hz : ∀ p, p < P → zb (M p) 0 320) (h0 : 0 < n) (hn : n ≤ P) : zb (grb M P n P) 0 320 ∧ n ≤ ctg M P (grb M P n P) ∧ (∀ t : Int32, (grb M P n P).toInt < t.toInt → ctg M P t < n) ∧ (grb M P n P = 0 ∨ ∃ p, p < P ∧ grb M P n P = M p) := by
  obtain ⟨a, b⟩ := grb_inv M P n P (Nat.le_refl P)
  refine ⟨?_, ?_, fun t ht => ?_, ?_⟩
  · rcases a with a | ⟨p, hp, a, _⟩
    · rw [a]; exact ⟨by decide, by decide⟩
    · rw [a]; exact hz p hp
  · rcases a with a | ⟨p, hp, a, h⟩
    · rw [a]
      have : ctg M P 0 = P := fb_ct_all.mpr (fun j hj => by simp only [decide_eq_true_eq]; exact (fa_le _ _).mpr (hz j hj).1)
      omega
    · rw [a]; exact h
  · rcases Nat.lt_or_ge (ctg M P t) n with h | h
    · exact h
    · exfalso
      obtain ⟨j0, hj0, hj1⟩ := fb_ct_pos.mp (show 0 < fb_ct (fun j => decide (t ≤ M j)) P by unfold ctg at h; omega)
      have hj1 : t ≤ M j0 := by simpa using hj1
      obtain ⟨i, hi, hmin, -⟩ := fb_low (fun j => if t ≤ M j then (M j).toInt else 1000) (n := P) (by omega)
      have hi0 := hmin j0 hj0
      rw [if_pos hj1] at hi0
      have hz0 := hz j0 hj0
      have hti : t ≤ M i := by
        by_cases q : t ≤ M i
        · exact q
        · rw [if_neg q] at hi0
          have := hz0.2
          omega
      have hge : ctg M P t ≤ ctg M P (M i) := fb_ct_sub (fun j hj z => by
        simp only [decide_eq_true_eq] at z ⊢
        have := hmin j hj
        rw [if_pos hti, if_pos z] at this
        exact (fa_le _ _).mpr this)
      have := b i hi (by omega)
      rw [fa_le] at hti
      omega
  · rcases a with a | ⟨p, hp, a, _⟩
    · exact Or.inl a
    · exact Or.inr ⟨p, hp, a⟩
set_option maxRecDepth 20000 in
set_option maxHeartbeats 4000000 in
theorem op_middle {c m : zz_H} (hR : Rel c m) (p1 : Int32) : wX4_middle p1 c (fun r c' => wX5_middle p1 m (fun r' m' => r = r' ∧ Rel c' m')) := by
  obtain ⟨⟨P, C, hW, hM⟩, hK, hF, hT, hS⟩ := id hR
  have eP : c 1 7 = nI P := hM.1
  have eC : c 1 8 = nI C := hM.2.1
  have eP' : m 1 17 = nI P := hW.1
  have eC' : m 1 18 = nI C := hW.2.2.1
  have bP : P ≤ 12 := hW.2.1
  have bC : C ≤ 6 := hW.2.2.2.1
  unfold wX4_middle wX5_middle 
  by_cases h0 : (0 : Int32) ≤ p1 ∧ p1 ≤ nI C - 1
  case neg =>
    simp only [tell0, tell1, tell2, tell3, tell4, tell5, tell6, finds0, finds1, finds2, finds3, finds4, finds5, finds6, c_isQuestion, c_isMarker, c_isKind, c_isBy, c_isLine, c_isSpot, c_isSheet, c_isPupil, c_isCurve, m_isQuestion, m_isLine, m_isOne, m_isPupil, m_isCurve, within_eq, in_eq, wl_ge0, wl_ge1, wl_le1, wl_le3, wl_le4, wl_le5, wl_le6, wl_le7, wl_le9, wl_le12, wl_le40, wl_le100, wl_le400, wl_gem1, wl_ww, zz_10, not_false_eq_true, not_true_eq_false, true_and, and_true, false_implies, true_implies, forall_const, eP, eC, eP', eC', if_neg h0]
    exact hR.find (i := 0) (by decide)
  simp only [tell0, tell1, tell2, tell3, tell4, tell5, tell6, finds0, finds1, finds2, finds3, finds4, finds5, finds6, c_isQuestion, c_isMarker, c_isKind, c_isBy, c_isLine, c_isSpot, c_isSheet, c_isPupil, c_isCurve, m_isQuestion, m_isLine, m_isOne, m_isPupil, m_isCurve, within_eq, in_eq, wl_ge0, wl_ge1, wl_le1, wl_le3, wl_le4, wl_le5, wl_le6, wl_le7, wl_le9, wl_le12, wl_le40, wl_le100, wl_le400, wl_gem1, wl_ww, zz_10, not_false_eq_true, not_true_eq_false, true_and, and_true, false_implies, true_implies, forall_const, eP, eC, eP', eC', if_pos h0]
  obtain ⟨k, hk, rfl⟩ := idx_of (by omega) h0
  have hb := (hW.2.2.2.2.2.2.2.2.1 k hk).2
  have hz : ∀ p, p < P → zb (MK (m 1) P (m 1 (223 + 2 * k)) (m 1 (224 + 2 * k)) p) 0 320 := fun p hp => MK_zb hW hp _ hb
  
  by_cases hP0 : P = 0
  case pos =>
    subst hP0
    exact ⟨fun z => absurd rfl z, fun _ => ⟨fun z => absurd rfl z, fun _ => hR.find (i := 3) (by decide)⟩⟩
  have nz : ¬ nI P = 0 := nI_ne0 (by omega) (by omega)
  refine ⟨fun _ => ?_, fun z => absurd z nz⟩
  refine c_work hW hM hk _ (fun c' e cv _ => ?_)
  have hd : (nI P - 1) / 2 = nI ((P - 1) / 2) := by
    rw [show nI P - 1 = nI (P - 1) from pk_sub (a := P) (b := 1) (by omega)]
    exact pk_div (a := P - 1) (d := 2) (by omega) (by decide) (by decide)
  rw [cv.1, hd, pk_sub (by omega)]
  refine c_grb cv (by omega) _ ?_
  refine ⟨fun _ => ?_, fun z => absurd z nz⟩
  refine m_find hW hk _ (fun m' f mv => ?_)
  generalize MK (m 1) P (m 1 (223 + 2 * k)) (m 1 (224 + 2 * k)) = M at hz mv
  obtain ⟨h1, h2, -, h3⟩ := mv
  obtain ⟨gz, g1, g2, g3⟩ := grb_spec (M := M) (P := P) (n := P - (P - 1) / 2) hz (by omega) (by omega)
  generalize grb M P (P - (P - 1) / 2) P = G at gz g1 g2 g3
  have fin : ∀ x : Int32, x = G → G = x ∧ Rel c' m' := fun x hx => ⟨hx.symm, hR.se e f⟩
  have key : ∀ p, p < P → ((fb_ct (fun q => decide (M q < M p)) P ≤ (P - 1) / 2 ∧ (P - 1) / 2 < fb_ct (fun q => decide (M q < M p)) P + fb_ct (fun q => decide (M q = M p)) P) ↔ M p = G) := by
    intro p hp
    have zp := hz p hp
    have c1 : fb_ct (fun q => decide (M q < M p)) P + ctg M P (M p) = P := by
      have := fb_ct_not (fun q => decide (M q < M p)) P
      rw [show fb_ct (fun k => !decide (M k < M p)) P = ctg M P (M p) from fb_ct_cong (fun q _ => by rw [← decide_not]; exact decide_eq_decide.mpr ⟨fa_of_nlt, fun z q => (fa_of_lt q).2.1 z⟩)] at this
      exact this
    have e1 : (M p + 1).toInt = (M p).toInt + 1 := fb_addI (by have := zp.1; show _ ≤ _ + (1 : Int); omega) (by have := zp.2; show _ + (1 : Int) < _; omega)
    have c2 : fb_ct (fun q => decide (M q < M p)) P + fb_ct (fun q => decide (M q = M p)) P + ctg M P (M p + 1) = P := by
      have o := fb_ct_or (p := fun q => decide (M q < M p)) (q := fun q => decide (M q = M p)) (n := P) (fun q hq z => by
        simp only [decide_eq_true_eq] at z
        exact (fa_of_lt z.1).2.2.2.1 z.2)
      have := fb_ct_not (fun q => decide (M q < M p) || decide (M q = M p)) P
      rw [o, show fb_ct (fun k => !(decide (M k < M p) || decide (M k = M p))) P = ctg M P (M p + 1) from fb_ct_cong (fun q _ => by
        rw [Bool.eq_iff_iff]
        simp only [Bool.not_eq_true', Bool.or_eq_false_iff, decide_eq_false_iff_not, decide_eq_true_eq, fa_lt, fa_eq, fa_le, e1]
        omega)] at this
      exact this
    constructor
    · rintro ⟨a, b⟩
      rw [fa_eq]
      rcases Int.lt_trichotomy (M p).toInt G.toInt with h | h | h
      · have := ctg_mono (M := M) (P := P) (t := M p + 1) (u := G) (by omega)
        omega
      · exact h
      · have := g2 (M p) h
        omega
    · intro a
      have := g2 (M p + 1) (by rw [e1, a]; omega)
      have g1' : P - (P - 1) / 2 ≤ ctg M P (M p) := by rw [a]; exact g1
      omega
  have e17 : m' 1 17 = nI P := by rw [h1]; exact h2
  refine lp_inv P (fun j x => x.2 = nI j ∧ (x.1 = G ∨ x.1 = 0) ∧ ∀ p, p < j → M p = G → x.1 = G) ⟨rfl, Or.inr rfl, fun p hp => absurd hp (by omega)⟩ ?_ ?_
  · rintro j ⟨x, y⟩ K hj ⟨e1, e2, e3⟩ hK
    have e1 : y = nI j := e1
    subst e1
    dsimp only at e2 e3
    refine ⟨fun z => absurd (show nI P ≤ nI j from eP' ▸ z) (lt_nle hj (by omega)), fun _ => ?_⟩
    refine lp_for P (fun i => (nI (fb_ct (fun q => decide (M q < M j)) i), nI (fb_ct (fun q => decide (M q = M j)) i), nI i)) ?_ ?_
    · intro i hi K' hK'
      refine ⟨fun z => absurd (show nI P ≤ nI i from eP' ▸ z) (lt_nle hi (by omega)), fun _ => ?_⟩
      have hK' : K' (nI (fb_ct (fun q => decide (M q < M j)) i + (if decide (M i < M j) then 1 else 0)), nI (fb_ct (fun q => decide (M q = M j)) i + (if decide (M i = M j) then 1 else 0)), nI (i + 1)) := hK'
      dsimp only
      generalize fb_ct (fun q => decide (M q < M j)) i = z1 at hK' ⊢
      generalize fb_ct (fun q => decide (M q = M j)) i = z2 at hK' ⊢
      have v1 : vp_in (nI i) 12 := in_nI (by omega) (by decide)
      have v2 : vp_in (nI j) 12 := in_nI (by omega) (by decide)
      have jj : ∀ y : Int32, y = (if M i < M j then 1 else 0) → wX5_middle_j89 m' (nI j) (nI z1) (nI z2) (nI i) K' y := by
        intro y hy
        unfold wX5_middle_j89
        rw [nI_clamp (by omega), nI_clamp (by omega), h3 i hi, h3 j hj]
        have ey : nI z1 + y = nI (z1 + (if decide (M i < M j) then 1 else 0)) := by
          rw [hy]
          by_cases q : M i < M j
          · rw [if_pos q, show (if decide (M i < M j) then 1 else 0) = 1 by simp [q]]; exact nI_1 z1
          · rw [if_neg q, show (if decide (M i < M j) then 1 else 0) = 0 by simp [q]]; exact nI_ct z1
        rw [ey, nI_ct, nI_1, nI_1]
        refine ⟨v1, v2, fun q => ?_, fun q => ?_⟩
        · rw [show (if decide (M i = M j) then 1 else 0) = 0 by simp [q]] at hK'; exact hK'
        · rw [show (if decide (M i = M j) then 1 else 0) = 1 by simp [q]] at hK'; exact hK'
      rw [nI_clamp (by omega), nI_clamp (by omega), h3 i hi, h3 j hj]
      refine ⟨v1, v2, fun q => jj 0 (by rw [if_neg (fun z => (fa_of_lt z).2.1 q)]), fun q => jj 1 (by rw [if_pos (fa_of_nle q)])⟩
    · intro K'
      refine ⟨fun _ => ?_, fun z => absurd (show m 1 17 ≤ nI P from eP' ▸ nI_le (Nat.le_refl P) (by omega)) z⟩
      dsimp only
      unfold wX5_middle_j125
      have l1 : fb_ct (fun q => decide (M q < M j)) P ≤ P := fb_ct_le _ P
      have l2 : fb_ct (fun q => decide (M q = M j)) P ≤ P := fb_ct_le _ P
      have kj := key j hj
      rw [eP', hd, nI_clamp (by omega), nI_1, nI_add, h3 j hj]
      have keep : ¬ M j = G → K (x, nI (j + 1)) := fun ne => hK _ ⟨rfl, e2, fun p hp q => by
        by_cases ep : p = j
        · subst ep; exact absurd q ne
        · exact e3 p (by omega) q⟩
      refine ⟨fun q => keep (fun z => ?_), fun q => ⟨fun q2 => keep (fun z => ?_), fun q2 => ⟨in_nI (by omega) (by decide), ?_⟩⟩⟩
      · have := (nI_ltI (by omega) (by omega)).mp q
        have := (kj.mpr z).1
        omega
      · have := (nI_leI (by omega) (by omega)).mp q2
        have := (kj.mpr z).2
        omega
      · have a1 : fb_ct (fun q => decide (M q < M j)) P ≤ (P - 1) / 2 := Nat.not_lt.mp (fun z => q ((nI_ltI (by omega) (by omega)).mpr z))
        have a2 : (P - 1) / 2 < fb_ct (fun q => decide (M q < M j)) P + fb_ct (fun q => decide (M q = M j)) P := Nat.not_le.mp (fun z => q2 ((nI_leI (by omega) (by omega)).mpr z))
        have eG := kj.mp ⟨a1, a2⟩
        exact hK _ ⟨rfl, Or.inl eG, fun p hp _ => eG⟩
  · rintro ⟨x, y⟩ K ⟨e1, e2, e3⟩
    have e1 : y = nI P := e1
    subst e1
    dsimp only at e2 e3
    refine ⟨fun _ => fin x ?_, fun z => absurd (show m 1 17 ≤ nI P from eP' ▸ nI_le (Nat.le_refl P) (by omega)) z⟩
    rcases g3 with g3 | ⟨p, hp, g3⟩
    · rcases e2 with q | q
      · exact q
      · rw [q, g3]
    · exact e3 p hp g3.symm
