/-! markers -/
def lnF (s : Nat → Int32) (p q : Nat) : Int32 := s (28 + 17 * p + q) - s (20 + 17 * p + q)
theorem c_leanIn {c : zz_H} {s : Nat → Int32} {P C p q : Nat} (h : PM c 1 s P C) (hP : P ≤ 12) (hp : p < P) (hq : q < 8) (post : Int32 → Prop) (k : post (lnF s p q)) : wX0_leanIn 1 (nI p) (nI q) c post := by
  unfold wX0_leanIn
  simp only [spot_eq]
  have e0 : (nI p * 8 + nI q) * 2 + 0 = nI (16 * p + 2 * q + 0) := ix_spot p q 0
  have e1 : (nI p * 8 + nI q) * 2 + 1 = nI (16 * p + 2 * q + 1) := ix_spot p q 1
  rw [e0, e1, nI_clamp (by omega), nI_clamp (by omega)]
  refine ⟨in_nI (by omega) (by decide), in_nI (by omega) (by decide), ?_⟩
  rw [h.2.2.2.2.2.2.1 p q 0 hp hq (by decide), h.2.2.2.2.2.2.1 p q 1 hp hq (by decide)]
  rw [show 20 + 17 * p + 8 * 0 + q = 20 + 17 * p + q by omega, show 20 + 17 * p + 8 * 1 + q = 28 + 17 * p + q by omega]
  exact k
theorem ix_at0 (p q : Nat) : (19 : Int32) + 17 * nI p + 1 + 8 * 0 + nI q = nI (20 + 17 * p + q) := ix_at p 0 q
theorem ix_at1 (p q : Nat) : (19 : Int32) + 17 * nI p + 1 + 8 * 1 + nI q = nI (28 + 17 * p + q) := by
  have := ix_at p 1 q
  rw [show 20 + 17 * p + 8 * 1 + q = 28 + 17 * p + q by omega] at this
  exact this
theorem m_apart {m : zz_H} {p q : Nat} (hp : p < 12) (hq : q < 8) (post : Int32 → Prop) (k : post (lnF (m 1) p q)) : wX5_apart (nI p) (nI q) m post := by
  unfold wX5_apart
  simp only [at_eq]
  rw [ix_at0, ix_at1, nI_clamp (by omega), nI_clamp (by omega)]
  exact ⟨in_nI (by omega) (by decide), in_nI (by omega) (by decide), k⟩
theorem op_lean {c m : zz_H} (hR : Rel c m) : wX4_lean c (fun r => wX5_lean m (fun r' => r = r')) := by
  obtain ⟨⟨P, C, hW, hM⟩, hK, hF, hT, hS⟩ := id hR
  have eP : c 1 7 = nI P := hM.1
  have eP' : m 1 17 = nI P := hW.1
  have bP : P ≤ 12 := hW.2.1
  have fin : ∀ R : Int32, R = (if P = 0 then 0 else 100 * zsum (fun p => zsum (lnF (m 1) p) 8) P / nI P) → wX5_lean m (fun r' => R = r') := by
    intro R hRr
    refine lp_for P (fun j => (zsum (fun p => zsum (lnF (m 1) p) 8) j, nI j)) ?_ ?_
    · intro j hj K hK
      refine ⟨fun z => absurd (show nI P ≤ nI j from eP' ▸ z) (lt_nle hj (by omega)), fun _ => ?_⟩
      have hK : K (zsum (fun p => zsum (lnF (m 1) p) 8) j + zsum (lnF (m 1) j) 8, nI (j + 1)) := hK
      generalize zsum (fun p => zsum (lnF (m 1) p) 8) j = z at hK ⊢
      have this := lp_for (b := fun K' (s : Int32 × Int32) => wX5_lean_b17 m (nI j) K K' s.1 s.2) 8 (fun i => (z + zsum (lnF (m 1) j) i, nI i)) ?_ ?_
      · have e0 : z + zsum (lnF (m 1) j) 0 = z := Int32.add_zero z
        simp only [e0] at this
        exact this
      · intro i hi K' hK'
        have hK' : K' (z + (zsum (lnF (m 1) j) i + lnF (m 1) j i), nI (i + 1)) := hK'
        rw [← Int32.add_assoc] at hK'
        refine ⟨fun q => absurd q (lt_nle (N := 8) hi (by decide)), fun _ => m_apart (by omega) hi _ ?_⟩
        dsimp only
        rw [nI_1]; exact hK'
      · intro K'
        refine ⟨fun _ => ?_, fun q => absurd (show nI 8 ≤ nI 8 from nI_le (Nat.le_refl 8) (by decide)) q⟩
        show K (z + zsum (lnF (m 1) j) 8, nI j + 1)
        rw [nI_1]; exact hK
    · intro K
      refine ⟨fun _ => ?_, fun z => absurd (show m 1 17 ≤ nI P from eP' ▸ nI_le (Nat.le_refl P) (by omega)) z⟩
      show wX5_lean_j44 m _ (zsum (fun p => zsum (lnF (m 1) p) 8) P)
      unfold wX5_lean_j44
      rw [eP']
      by_cases h0 : P = 0
      · subst h0
        exact ⟨fun z => absurd rfl z, fun _ => hRr⟩
      · have nz := nI_ne0 (n := P) (by omega) (by omega)
        rw [if_neg h0] at hRr
        exact ⟨fun _ => ⟨nz, hRr⟩, fun z => absurd z nz⟩
  refine lp_for P (fun j => (zsum (fun p => zsum (lnF (m 1) p) 8) j, nI j)) ?_ ?_
  · intro j hj K hK
    refine ⟨fun z => absurd (show nI P ≤ nI j from eP ▸ z) (lt_nle hj (by omega)), fun _ => ?_⟩
    have hK : K (zsum (fun p => zsum (lnF (m 1) p) 8) j + zsum (lnF (m 1) j) 8, nI (j + 1)) := hK
    generalize zsum (fun p => zsum (lnF (m 1) p) 8) j = z at hK ⊢
    have this := lp_for (b := fun K' (s : Int32 × Int32) => wX4_lean_b17 c (nI j) K K' s.1 s.2) 8 (fun i => (z + zsum (lnF (m 1) j) i, nI i)) ?_ ?_
    · have e0 : z + zsum (lnF (m 1) j) 0 = z := Int32.add_zero z
      simp only [e0] at this
      exact this
    · intro i hi K' hK'
      have hK' : K' (z + (zsum (lnF (m 1) j) i + lnF (m 1) j i), nI (i + 1)) := hK'
      rw [← Int32.add_assoc] at hK'
      refine ⟨fun q => absurd q (lt_nle (N := 8) hi (by decide)), fun _ => c_leanIn hM bP hj hi _ ?_⟩
      dsimp only
      rw [nI_1]; exact hK'
    · intro K'
      refine ⟨fun _ => ?_, fun q => absurd (show nI 8 ≤ nI 8 from nI_le (Nat.le_refl 8) (by decide)) q⟩
      show K (z + zsum (lnF (m 1) j) 8, nI j + 1)
      rw [nI_1]; exact hK
  · intro K
    refine ⟨fun _ => ?_, fun z => absurd (show c 1 7 ≤ nI P from eP ▸ nI_le (Nat.le_refl P) (by omega)) z⟩
    show wX4_lean_j47 c _ (zsum (fun p => zsum (lnF (m 1) p) 8) P)
    unfold wX4_lean_j47
    rw [eP]
    by_cases h0 : P = 0
    · subst h0
      exact ⟨fun _ => fin 0 rfl, fun z => absurd (by decide) z⟩
    · exact ⟨fun z => absurd z (nI_nle (by omega) (by omega)), fun _ => ⟨nI_ne0 (by omega) (by omega), fin _ (by rw [if_neg h0])⟩⟩
def apF (s : Nat → Int32) (p : Nat) : Int32 := zsum (fun q => zz_abs (lnF s p q)) 8
theorem WF.lnb {s : Nat → Int32} {P C p q : Nat} (hW : WF s P C) (hp : p < P) (hq : q < 8) : -40 ≤ (lnF s p q).toInt ∧ (lnF s p q).toInt ≤ 40 := by
  have h1 := hW.2.2.2.2.2.2.2.1 p q 0 hp hq (by decide)
  have h2 := hW.2.2.2.2.2.2.2.1 p q 1 hp hq (by decide)
  have h3 := hW.2.2.2.2.1 q hq
  rw [show 20 + 17 * p + 8 * 0 + q = 20 + 17 * p + q by omega] at h1
  rw [show 20 + 17 * p + 8 * 1 + q = 28 + 17 * p + q by omega] at h2
  have a1 := h1.1; have a2 := h1.2; have b1 := h2.1; have b2 := h2.2; have d := h3.2
  unfold lnF
  rw [fb_subI (by omega) (by omega)]
  omega
theorem apF_pos {s : Nat → Int32} {P C p : Nat} (hW : WF s P C) (hp : p < P) : 0 ≤ (apF s p).toInt := by
  have := zsum_zb (f := fun q => zz_abs (lnF s p q)) (B := 40) (n := 8) (fun q hq => by
    have := hW.lnb hp hq
    unfold zb
    rw [abs_toInt (by omega)]
    split <;> omega) (by decide)
  exact this.1
theorem c_markersApart {c : zz_H} {s : Nat → Int32} {P C p : Nat} (h : PM c 1 s P C) (hP : P ≤ 12) (hp : p < P) (post : Int32 → Prop) (k : post (apF s p)) : wX0_markersApart 1 (nI p) c post := by
  refine lp_for 8 (fun j => (zsum (fun q => zz_abs (lnF s p q)) j, nI j)) ?_ ?_
  · intro j hj K hK
    refine ⟨fun z => absurd z (lt_nle (N := 8) hj (by decide)), fun _ => c_leanIn h hP hp hj _ ?_⟩
    show K (zsum (fun q => zz_abs (lnF s p q)) j + zz_abs (lnF s p j), nI j + 1)
    rw [nI_1]; exact hK
  · intro K
    exact ⟨fun _ => k, fun z => absurd (show nI 8 ≤ nI 8 from nI_le (Nat.le_refl 8) (by decide)) z⟩
/-- the first of the greatest, with how much: from (b0, -1) on -/
def ulq (f : Nat → Int32) (b0 : Int32) : Nat → Int32 × Int32
  | 0 => (b0, -1)
  | j + 1 => if f j ≤ (ulq f b0 j).2 then ulq f b0 j else (nI j, f j)
theorem ulq_same (f : Nat → Int32) (h0 : 0 ≤ (f 0).toInt) (a b : Int32) : ∀ j, ulq f a (j + 1) = ulq f b (j + 1)
  | 0 => by
    have h : ¬ f 0 ≤ (-1 : Int32) := by
      rw [fa_le]
      show ¬ (f 0).toInt ≤ -1
      omega
    show (if f 0 ≤ (-1 : Int32) then _ else _) = (if f 0 ≤ (-1 : Int32) then _ else _)
    rw [if_neg h, if_neg h]
  | j + 1 => by
    show (if f (j + 1) ≤ (ulq f a (j + 1)).2 then ulq f a (j + 1) else _) = (if f (j + 1) ≤ (ulq f b (j + 1)).2 then ulq f b (j + 1) else _)
    rw [ulq_same f h0 a b j]
theorem ulq_pos (f : Nat → Int32) : ∀ j, j ≤ 12 → 0 ≤ (ulq f 0 j).1
  | 0, _ => (by decide : (0 : Int32) ≤ 0)
  | j + 1, h => by
    show 0 ≤ (if f j ≤ (ulq f 0 j).2 then ulq f 0 j else (nI j, f j)).1
    by_cases q : f j ≤ (ulq f 0 j).2
    · rw [if_pos q]; exact ulq_pos f j (by omega)
    · rw [if_neg q]; exact nI_pos' (by omega)
set_option maxRecDepth 20000 in
set_option maxHeartbeats 4000000 in
theorem op_unlike {c m : zz_H} (hR : Rel c m) (p1 : Int32) : wX4_unlike p1 c (fun r c' => wX5_unlike p1 m (fun r' m' => r = r' ∧ Rel c' m')) := by
  obtain ⟨⟨P, C, hW, hM⟩, hK, hF, hT, hS⟩ := id hR
  have eP : c 1 7 = nI P := hM.1
  have eC : c 1 8 = nI C := hM.2.1
  have eP' : m 1 17 = nI P := hW.1
  have eC' : m 1 18 = nI C := hW.2.2.1
  have bP : P ≤ 12 := hW.2.1
  have bC : C ≤ 6 := hW.2.2.2.1
  unfold wX4_unlike wX5_unlike 
  by_cases h0 : (0 : Int32) ≤ p1 ∧ p1 ≤ 1
  case neg =>
    simp only [tell0, tell1, tell2, tell3, tell4, tell5, tell6, finds0, finds1, finds2, finds3, finds4, finds5, finds6, c_isQuestion, c_isMarker, c_isKind, c_isBy, c_isLine, c_isSpot, c_isSheet, c_isPupil, c_isCurve, m_isQuestion, m_isLine, m_isOne, m_isPupil, m_isCurve, within_eq, in_eq, wl_ge0, wl_ge1, wl_le1, wl_le3, wl_le4, wl_le5, wl_le6, wl_le7, wl_le9, wl_le12, wl_le40, wl_le100, wl_le400, wl_gem1, wl_ww, zz_10, not_false_eq_true, not_true_eq_false, true_and, and_true, false_implies, true_implies, forall_const, eP, eC, eP', eC', if_neg h0]
    exact hR.find (i := 0) (by decide)
  simp only [tell0, tell1, tell2, tell3, tell4, tell5, tell6, finds0, finds1, finds2, finds3, finds4, finds5, finds6, c_isQuestion, c_isMarker, c_isKind, c_isBy, c_isLine, c_isSpot, c_isSheet, c_isPupil, c_isCurve, m_isQuestion, m_isLine, m_isOne, m_isPupil, m_isCurve, within_eq, in_eq, wl_ge0, wl_ge1, wl_le1, wl_le3, wl_le4, wl_le5, wl_le6, wl_le7, wl_le9, wl_le12, wl_le40, wl_le100, wl_le400, wl_gem1, wl_ww, zz_10, not_false_eq_true, not_true_eq_false, true_and, and_true, false_implies, true_implies, forall_const, eP, eC, eP', eC', if_pos h0]
  have hloop : ∀ post : Int32 → zz_H → Prop, (P = 0 → post ((-1000004) : Int32) (mF m 3)) → (0 < P → (p1 = 0 → post (ulq (apF (m 1)) 0 P).1 m) ∧ (¬ p1 = 0 → post (ulq (apF (m 1)) 0 P).2 m)) → ∃ t9, zz_lp (fun K (s : Int32 × Int32 × Int32) => wX5_unlike_b24 p1 m post K s.1 s.2.1 s.2.2) t9 (-1, -1, 0) := by
    intro post k0 k1
    refine lp_for P (fun j => ((ulq (apF (m 1)) (-1) j).1, (ulq (apF (m 1)) (-1) j).2, nI j)) ?_ ?_
    · intro j hj K hK
      refine ⟨fun z => absurd (show nI P ≤ nI j from eP' ▸ z) (lt_nle hj (by omega)), fun _ => ?_⟩
      refine lp_for 8 (fun i => (zsum (fun q => zz_abs (lnF (m 1) j q)) i, nI i)) ?_ ?_
      · intro i hi K' hK'
        refine ⟨fun z => absurd z (lt_nle (N := 8) hi (by decide)), fun _ => m_apart (by omega) hi _ ?_⟩
        rw [m_size]
        show K' (zsum (fun q => zz_abs (lnF (m 1) j q)) i + zz_abs (lnF (m 1) j i), nI i + 1)
        rw [nI_1]; exact hK'
      · intro K'
        refine ⟨fun _ => ?_, fun z => absurd (show nI 8 ≤ nI 8 from nI_le (Nat.le_refl 8) (by decide)) z⟩
        show wX5_unlike_j71 (ulq (apF (m 1)) (-1) j).1 (ulq (apF (m 1)) (-1) j).2 (nI j) K (apF (m 1) j)
        unfold wX5_unlike_j71
        have e : ulq (apF (m 1)) (-1) (j + 1) = if apF (m 1) j ≤ (ulq (apF (m 1)) (-1) j).2 then ulq (apF (m 1)) (-1) j else (nI j, apF (m 1) j) := rfl
        rw [e] at hK
        rw [nI_1]
        refine ⟨fun q => ?_, fun q => ?_⟩
        · rw [if_pos q] at hK; exact hK
        · rw [if_neg q] at hK; exact hK
    · intro K
      refine ⟨fun _ => ?_, fun z => absurd (show m 1 17 ≤ nI P from eP' ▸ nI_le (Nat.le_refl P) (by omega)) z⟩
      show wX5_unlike_j89 p1 m post (ulq (apF (m 1)) (-1) P).1 (ulq (apF (m 1)) (-1) P).2
      unfold wX5_unlike_j89
      by_cases hP0 : P = 0
      · subst hP0
        refine ⟨fun z => absurd z (by show ¬ (0 : Int32) ≤ -1; decide), fun _ => ?_⟩
        rw [finds3]; exact k0 rfl
      · obtain ⟨k2, k3⟩ := k1 (by omega)
        have e : ulq (apF (m 1)) (-1) P = ulq (apF (m 1)) 0 P := by
          obtain ⟨i, rfl⟩ : ∃ i, P = i + 1 := ⟨P - 1, by omega⟩
          exact ulq_same _ (apF_pos hW (by omega)) _ _ i
        rw [e]
        exact ⟨fun _ => ⟨k3, k2⟩, fun z => absurd (ulq_pos _ P bP) z⟩
  by_cases hP0 : P = 0
  case pos =>
    refine ⟨fun z => absurd (by rw [hP0]; rfl) z, fun _ => ?_⟩
    exact hloop _ (fun _ => ⟨rfl, hR.find (by decide)⟩) (fun z => absurd z (by omega))
  refine ⟨fun _ => ?_, fun z => absurd z (nI_ne0 (by omega) (by omega))⟩
  refine lp_for P (fun j => ((ulq (apF (m 1)) 0 j).1, (ulq (apF (m 1)) 0 j).2, nI j)) ?_ ?_
  · intro j hj K hK
    refine ⟨fun z => absurd (show nI P ≤ nI j from eP ▸ z) (lt_nle hj (by omega)), fun _ => c_markersApart hM bP hj _ ?_⟩
    have e : ulq (apF (m 1)) 0 (j + 1) = if apF (m 1) j ≤ (ulq (apF (m 1)) 0 j).2 then ulq (apF (m 1)) 0 j else (nI j, apF (m 1) j) := rfl
    rw [e] at hK
    dsimp only
    rw [nI_1]
    refine ⟨fun q => ?_, fun q => ?_⟩
    · rw [if_pos q] at hK; exact hK
    · rw [if_neg q] at hK; exact hK
  · intro K
    refine ⟨fun _ => ?_, fun z => absurd (show c 1 7 ≤ nI P from eP ▸ nI_le (Nat.le_refl P) (by omega)) z⟩
    show wX4_unlike_j81 p1 c _ (ulq (apF (m 1)) 0 P).1 (ulq (apF (m 1)) 0 P).2
    unfold wX4_unlike_j81
    exact ⟨fun q => hloop _ (fun z => absurd z hP0) (fun _ => ⟨fun z => absurd z q, fun _ => ⟨rfl, hR⟩⟩), fun q => hloop _ (fun z => absurd z hP0) (fun _ => ⟨fun _ => ⟨rfl, hR⟩, fun z => absurd q z⟩)⟩
