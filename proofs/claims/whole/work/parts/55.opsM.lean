def bcI (p1 : Int32) : Int32 := (((((((p1 - ((zz_ushr p1 (1 : Int32)) &&& (1431655765 : Int32))) &&& (858993459 : Int32)) + ((zz_ushr (p1 - ((zz_ushr p1 (1 : Int32)) &&& (1431655765 : Int32))) (2 : Int32)) &&& (858993459 : Int32))) + (zz_ushr (((p1 - ((zz_ushr p1 (1 : Int32)) &&& (1431655765 : Int32))) &&& (858993459 : Int32)) + ((zz_ushr (p1 - ((zz_ushr p1 (1 : Int32)) &&& (1431655765 : Int32))) (2 : Int32)) &&& (858993459 : Int32))) (4 : Int32))) &&& (252645135 : Int32)) + (zz_ushr (((((p1 - ((zz_ushr p1 (1 : Int32)) &&& (1431655765 : Int32))) &&& (858993459 : Int32)) + ((zz_ushr (p1 - ((zz_ushr p1 (1 : Int32)) &&& (1431655765 : Int32))) (2 : Int32)) &&& (858993459 : Int32))) + (zz_ushr (((p1 - ((zz_ushr p1 (1 : Int32)) &&& (1431655765 : Int32))) &&& (858993459 : Int32)) + ((zz_ushr (p1 - ((zz_ushr p1 (1 : Int32)) &&& (1431655765 : Int32))) (2 : Int32)) &&& (858993459 : Int32))) (4 : Int32))) &&& (252645135 : Int32)) (8 : Int32))) + (zz_ushr ((((((p1 - ((zz_ushr p1 (1 : Int32)) &&& (1431655765 : Int32))) &&& (858993459 : Int32)) + ((zz_ushr (p1 - ((zz_ushr p1 (1 : Int32)) &&& (1431655765 : Int32))) (2 : Int32)) &&& (858993459 : Int32))) + (zz_ushr (((p1 - ((zz_ushr p1 (1 : Int32)) &&& (1431655765 : Int32))) &&& (858993459 : Int32)) + ((zz_ushr (p1 - ((zz_ushr p1 (1 : Int32)) &&& (1431655765 : Int32))) (2 : Int32)) &&& (858993459 : Int32))) (4 : Int32))) &&& (252645135 : Int32)) + (zz_ushr (((((p1 - ((zz_ushr p1 (1 : Int32)) &&& (1431655765 : Int32))) &&& (858993459 : Int32)) + ((zz_ushr (p1 - ((zz_ushr p1 (1 : Int32)) &&& (1431655765 : Int32))) (2 : Int32)) &&& (858993459 : Int32))) + (zz_ushr (((p1 - ((zz_ushr p1 (1 : Int32)) &&& (1431655765 : Int32))) &&& (858993459 : Int32)) + ((zz_ushr (p1 - ((zz_ushr p1 (1 : Int32)) &&& (1431655765 : Int32))) (2 : Int32)) &&& (858993459 : Int32))) (4 : Int32))) &&& (252645135 : Int32)) (8 : Int32))) (16 : Int32))) &&& (63 : Int32)
theorem bc_eq (x : Int32) (h : zz_H) (post : Int32 → Prop) : wJ6_bitCount_0f7a4 x h post = post (bcI x) := rfl
theorem bc_cb (b : Nat → Bool) : bcI (cbB b 8) = nI (fb_ct b 8) := by
  have key : ∀ b0 b1 b2 b3 b4 b5 b6 b7 : Bool, bcI (cbB (fun k => [b0, b1, b2, b3, b4, b5, b6, b7].getD k false) 8) = nI (fb_ct (fun k => [b0, b1, b2, b3, b4, b5, b6, b7].getD k false) 8) := by decide +kernel
  have h := key (b 0) (b 1) (b 2) (b 3) (b 4) (b 5) (b 6) (b 7)
  have e : ∀ i, i < 8 → [b 0, b 1, b 2, b 3, b 4, b 5, b 6, b 7].getD i false = b i := by
    intro i hi
    rcases (show i = 0 ∨ i = 1 ∨ i = 2 ∨ i = 3 ∨ i = 4 ∨ i = 5 ∨ i = 6 ∨ i = 7 by omega) with rfl | rfl | rfl | rfl | rfl | rfl | rfl | rfl <;> rfl
  rw [cbB_congr (b' := b) (fun i hi => e i hi), fb_ct_cong (q := b) (fun i hi => e i hi)] at h
  exact h
def usd (s : Nat → Int32) : Nat := fb_ct (fun k => decide (0 ≤ s (235 + k))) 10
theorem c_spotsInUse {c : zz_H} {s : Nat → Int32} {P C : Nat} (h : PM c 1 s P C) (post : Int32 → Prop) (k : post (nI (usd s))) : wX0_spotsInUse 1 c post := by
  refine lp_for 10 (fun j => (nI (fb_ct (fun k => decide (0 ≤ s (235 + k))) j), nI j)) ?_ ?_
  · intro j hj K hK
    have hK : K (nI (fb_ct (fun k => decide (0 ≤ s (235 + k))) j + (if decide (0 ≤ s (235 + j)) then 1 else 0)), nI (j + 1)) := hK
    refine ⟨fun z => absurd z (lt_nle (N := 10) hj (by decide)), fun _ => ?_⟩
    dsimp only
    generalize fb_ct (fun k => decide (0 ≤ s (235 + k))) j = z at hK ⊢
    rw [nI_clamp (by omega), nI_1, nI_1, show c (1 + 7) j = s (235 + j) from h.2.2.2.2.2.2.2.2 j hj]
    refine ⟨in_nI hj (by decide), fun q => ?_, fun q => ?_⟩
    · rw [if_neg (by simpa using (fa_of_lt q).2.1)] at hK; exact hK
    · rw [if_pos (by simpa using fa_of_nlt q)] at hK; exact hK
  · intro K
    exact ⟨fun _ => k, fun z => absurd (show nI 10 ≤ nI 10 from nI_le (Nat.le_refl 10) (by decide)) z⟩
theorem m_spots {m : zz_H} (post : Int32 → zz_H → Prop) (k : post (nI (usd (m 1))) m) : ∃ t9, zz_lp (fun K (s : Int32 × Int32) => wX5_count_b79 m post K s.1 s.2) t9 (0, 0) := by
  refine lp_for 10 (fun j => (nI (fb_ct (fun k => decide (0 ≤ m 1 (235 + k))) j), nI j)) ?_ ?_
  · intro j hj K hK
    have hK : K (nI (fb_ct (fun k => decide (0 ≤ m 1 (235 + k))) j + (if decide (0 ≤ m 1 (235 + j)) then 1 else 0)), nI (j + 1)) := hK
    refine ⟨fun z => absurd z (lt_nle (N := 10) hj (by decide)), fun _ => ?_⟩
    dsimp only
    generalize fb_ct (fun k => decide (0 ≤ m 1 (235 + k))) j = z at hK ⊢
    rw [ix_spt, nI_clamp (by omega), nI_ct, nI_1, nI_1]
    refine ⟨in_nI (by omega) (by decide), fun q => ?_, fun q => ?_⟩
    · rw [if_pos (by simpa using q)] at hK; exact hK
    · rw [if_neg (by simpa using q)] at hK; exact hK
  · intro K
    exact ⟨fun _ => k, fun z => absurd (show nI 10 ≤ nI 10 from nI_le (Nat.le_refl 10) (by decide)) z⟩
set_option maxHeartbeats 4000000 in
theorem op_count {c m : zz_H} (hR : Rel c m) (p1 : Int32) : wX4_count p1 c (fun r c' => wX5_count p1 m (fun r' m' => r = r' ∧ Rel c' m')) := by
  obtain ⟨⟨P, C, hW, hM⟩, hK, hF, hT, hS⟩ := id hR
  obtain ⟨T, t1, t2, t3, t4⟩ := hT
  unfold wX4_count
  have md : ∀ (r : Int32) (c' : zz_H), Rel c' m → (p1 = 0 → r = nI P) → (p1 = 1 → r = nI C) → (p1 = 2 → r = nI (fb_ct (fun q => decide (0 ≤ m 1 (8 + q))) 8)) → (p1 = 3 → r = nI T) → (p1 = 4 → r = m 1 16) → (p1 = 5 → r = nI (usd (m 1))) → (p1 = 0 ∨ p1 = 1 ∨ p1 = 2 ∨ p1 = 3 ∨ p1 = 4 ∨ p1 = 5) → wX5_count p1 m (fun r' m' => r = r' ∧ Rel c' m') := by
    intro r c' hr e0 e1 e2 e3 e4 e5 hor
    unfold wX5_count
    refine ⟨fun q => ⟨(e0 q).trans hW.1.symm, hr⟩, fun q => ⟨(e1 q).trans hW.2.2.1.symm, hr⟩, fun q => m_commons _ (m_ones _ (by decide) _ ⟨e2 q, hr⟩), fun q => ⟨(e3 q).trans t3.symm, hr⟩, fun q => ⟨e4 q, hr⟩, fun q => m_spots _ ⟨e5 q, hr⟩, fun n0 n1 n2 n3 n4 n5 => ?_⟩
    rcases hor with q | q | q | q | q | q
    · exact absurd q n0
    · exact absurd q n1
    · exact absurd q n2
    · exact absurd q n3
    · exact absurd q n4
    · exact absurd q n5
  refine ⟨fun q => ?_, fun q => ?_, fun q => ?_, fun q => ?_, fun q => ?_, fun q => ?_, fun n0 n1 n2 n3 n4 n5 => ?_⟩
  · subst q; exact md _ _ hR (fun _ => hM.1) (fun z => absurd z (by decide)) (fun z => absurd z (by decide)) (fun z => absurd z (by decide)) (fun z => absurd z (by decide)) (fun z => absurd z (by decide)) (Or.inl rfl)
  · subst q; exact md _ _ hR (fun z => absurd z (by decide)) (fun _ => hM.2.1) (fun z => absurd z (by decide)) (fun z => absurd z (by decide)) (fun z => absurd z (by decide)) (fun z => absurd z (by decide)) (Or.inr (Or.inl rfl))
  · subst q
    refine c_commonSet _ ?_
    rw [bc_eq]
    unfold cbO
    rw [cbB_congr (b' := fun q => decide (0 ≤ m 1 (8 + q))) (fun q hq => by rw [show c (1 + 2) q = m 1 (8 + q) from hM.2.2.2.2.1 q hq]), bc_cb]
    exact md _ _ hR (fun z => absurd z (by decide)) (fun z => absurd z (by decide)) (fun _ => rfl) (fun z => absurd z (by decide)) (fun z => absurd z (by decide)) (fun z => absurd z (by decide)) (Or.inr (Or.inr (Or.inl rfl)))
  · subst q; exact md _ _ hR (fun z => absurd z (by decide)) (fun z => absurd z (by decide)) (fun z => absurd z (by decide)) (fun _ => t2) (fun z => absurd z (by decide)) (fun z => absurd z (by decide)) (Or.inr (Or.inr (Or.inr (Or.inl rfl))))
  · subst q; exact md _ _ hR (fun z => absurd z (by decide)) (fun z => absurd z (by decide)) (fun z => absurd z (by decide)) (fun z => absurd z (by decide)) (fun _ => hM.2.2.1) (fun z => absurd z (by decide)) (Or.inr (Or.inr (Or.inr (Or.inr (Or.inl rfl)))))
  · subst q; exact c_spotsInUse hM _ (md _ _ hR (fun z => absurd z (by decide)) (fun z => absurd z (by decide)) (fun z => absurd z (by decide)) (fun z => absurd z (by decide)) (fun z => absurd z (by decide)) (fun _ => rfl) (Or.inr (Or.inr (Or.inr (Or.inr (Or.inr rfl))))))
  · rw [tell0]
    unfold wX5_count
    refine ⟨fun q => absurd q n0, fun q => absurd q n1, fun q => absurd q n2, fun q => absurd q n3, fun q => absurd q n4, fun q => absurd q n5, fun _ _ _ _ _ _ => ?_⟩
    rw [finds0]
    exact ⟨rfl, hR.find (by decide)⟩
/-! kinds under kinds -/
def uB (a b : Nat) : Bool := b == 0 || a == b || (b == 1 && a == 5) || (b == 2 && a == 3)
theorem iu_end {c : zz_H} {b : Int32} {post : Int32 → Prop} {i : Nat} (hi : i < 7) (k : post 0) : ∃ t9, zz_lp (fun K (s : Int32 × Int32) => wX4_isUnder_b4 b c post K s.1 s.2) t9 (-1, nI i) := by
  refine ⟨1, fun z => absurd z (lt_nle (N := 7) hi (by decide)), fun _ => ?_⟩
  rw [c_isKind]
  exact ⟨fun _ => k, fun z => absurd rfl z⟩
theorem iu_step {c : zz_H} {b : Int32} {post : Int32 → Prop} {i a : Nat} {x : Int32} (hi : i < 7) (ha : a < 7) (hx : zz_over.getD a 0 = x) (k1 : nI a = b → post 1) (k2 : ¬ nI a = b → ∃ t9, zz_lp (fun K (s : Int32 × Int32) => wX4_isUnder_b4 b c post K s.1 s.2) t9 (x, nI (i + 1))) : ∃ t9, zz_lp (fun K (s : Int32 × Int32) => wX4_isUnder_b4 b c post K s.1 s.2) t9 (nI a, nI i) := by
  have hk : (0 : Int32) ≤ nI a ∧ nI a ≤ 6 := ⟨nI_pos' (by omega), nI_le (a := a) (b := 6) (by omega) (by decide)⟩
  by_cases e : nI a = b
  · refine ⟨1, fun z => absurd z (lt_nle (N := 7) hi (by decide)), fun _ => ?_⟩
    rw [c_isKind, if_pos hk]
    exact ⟨fun z => absurd z (by decide), fun _ => ⟨fun z => absurd e z, fun _ => k1 e⟩⟩
  · obtain ⟨t, ht⟩ := k2 e
    refine ⟨t + 1, fun z => absurd z (lt_nle (N := 7) hi (by decide)), fun _ => ?_⟩
    rw [c_isKind, if_pos hk]
    refine ⟨fun z => absurd z (by decide), fun _ => ⟨fun _ => ⟨in_nI ha (by decide), ?_⟩, fun z => absurd z e⟩⟩
    show zz_lp _ t (zz_over.getD (nI a).toNatClampNeg 0, nI i + 1)
    rw [nI_clamp (by omega), hx, nI_1]
    exact ht
theorem c_isUnder {c : zz_H} {a b : Nat} (ha : a < 7) (hb : b < 7) (post : Int32 → Prop) (k : post (if uB a b then 1 else 0)) : wX4_isUnder (nI a) (nI b) c post := by
  have ne : ∀ x, x < 7 → (nI x = nI b ↔ x = b) := fun x hx => nI_eq (by omega) (by omega)
  have fin0 : uB a b = false → post 0 := fun h => by rw [h] at k; exact k
  have fin1 : uB a b = true → post 1 := fun h => by rw [h] at k; exact k
  have z0 : ∀ i, i < 6 → (0 = b → post 1) → (¬ 0 = b → post 0) → ∃ t9, zz_lp (fun K (s : Int32 × Int32) => wX4_isUnder_b4 (nI b) c post K s.1 s.2) t9 (0, nI i) := fun i hi k1 k2 =>
    iu_step (a := 0) (x := -1) (by omega) (by decide) rfl (fun q => k1 ((ne 0 (by decide)).mp q)) (fun q => iu_end (by omega) (k2 (fun w => q ((ne 0 (by decide)).mpr w))))
  have leaf : ∀ x, x < 7 → zz_over.getD x 0 = 0 → ∀ i, i < 5 → (x = b → post 1) → (0 = b → post 1) → (¬ x = b → ¬ 0 = b → post 0) → ∃ t9, zz_lp (fun K (s : Int32 × Int32) => wX4_isUnder_b4 (nI b) c post K s.1 s.2) t9 (nI x, nI i) := fun x hx ho i hi k1 k2 k3 =>
    iu_step (x := 0) (by omega) hx ho (fun q => k1 ((ne x hx).mp q)) (fun q => z0 (i + 1) (by omega) k2 (fun w => k3 (fun v => q ((ne x hx).mpr v)) w))
  unfold wX4_isUnder
  rcases (show a = 0 ∨ a = 1 ∨ a = 2 ∨ a = 3 ∨ a = 4 ∨ a = 5 ∨ a = 6 by omega) with rfl | rfl | rfl | rfl | rfl | rfl | rfl
  · exact z0 0 (by decide) (fun q => fin1 (by rw [← q]; rfl)) (fun q => fin0 (by unfold uB; simp; omega))
  · exact leaf 1 (by decide) rfl 0 (by decide) (fun q => fin1 (by rw [← q]; rfl)) (fun q => fin1 (by rw [← q]; rfl)) (fun q1 q2 => fin0 (by unfold uB; simp; omega))
  · exact leaf 2 (by decide) rfl 0 (by decide) (fun q => fin1 (by rw [← q]; rfl)) (fun q => fin1 (by rw [← q]; rfl)) (fun q1 q2 => fin0 (by unfold uB; simp; omega))
  · exact iu_step (a := 3) (x := 2) (i := 0) (by decide) (by decide) rfl (fun q => fin1 (by rw [← (ne 3 (by decide)).mp q]; rfl)) (fun q => leaf 2 (by decide) rfl 1 (by decide) (fun q => fin1 (by rw [← q]; rfl)) (fun q => fin1 (by rw [← q]; rfl)) (fun q1 q2 => fin0 (by
      have q3 : ¬ 3 = b := fun w => q ((ne 3 (by decide)).mpr w)
      unfold uB; simp; omega)))
  · exact leaf 4 (by decide) rfl 0 (by decide) (fun q => fin1 (by rw [← q]; rfl)) (fun q => fin1 (by rw [← q]; rfl)) (fun q1 q2 => fin0 (by unfold uB; simp; omega))
  · exact iu_step (a := 5) (x := 1) (i := 0) (by decide) (by decide) rfl (fun q => fin1 (by rw [← (ne 5 (by decide)).mp q]; rfl)) (fun q => leaf 1 (by decide) rfl 1 (by decide) (fun q => fin1 (by rw [← q]; rfl)) (fun q => fin1 (by rw [← q]; rfl)) (fun q1 q2 => fin0 (by
      have q3 : ¬ 5 = b := fun w => q ((ne 5 (by decide)).mpr w)
      unfold uB; simp; omega)))
  · exact leaf 6 (by decide) rfl 0 (by decide) (fun q => fin1 (by rw [← q]; rfl)) (fun q => fin1 (by rw [← q]; rfl)) (fun q1 q2 => fin0 (by unfold uB; simp; omega))
set_option maxRecDepth 20000 in
set_option maxHeartbeats 4000000 in
theorem op_as {c m : zz_H} (hR : Rel c m) (p1 : Int32) (p2 : Int32) : wX4_as p1 p2 c (fun r c' => wX5_as p1 p2 m (fun r' m' => r = r' ∧ Rel c' m')) := by
  obtain ⟨⟨P, C, hW, hM⟩, hK, hF, hT, hS⟩ := id hR
  have eP : c 1 7 = nI P := hM.1
  have eC : c 1 8 = nI C := hM.2.1
  have eP' : m 1 17 = nI P := hW.1
  have eC' : m 1 18 = nI C := hW.2.2.1
  have bP : P ≤ 12 := hW.2.1
  have bC : C ≤ 6 := hW.2.2.2.1
  unfold wX4_as wX5_as 
  by_cases h0 : (0 : Int32) ≤ p1 ∧ p1 ≤ 9
  case neg =>
    simp only [tell0, tell1, tell2, tell3, tell4, tell5, tell6, finds0, finds1, finds2, finds3, finds4, finds5, finds6, c_isQuestion, c_isMarker, c_isKind, c_isBy, c_isLine, c_isSpot, c_isSheet, c_isPupil, c_isCurve, m_isQuestion, m_isLine, m_isOne, m_isPupil, m_isCurve, within_eq, in_eq, wl_ge0, wl_ge1, wl_le1, wl_le3, wl_le4, wl_le5, wl_le6, wl_le7, wl_le9, wl_le12, wl_le40, wl_le100, wl_le400, wl_gem1, wl_ww, zz_10, not_false_eq_true, not_true_eq_false, true_and, and_true, false_implies, true_implies, forall_const, eP, eC, eP', eC', if_neg h0]
    exact hR.find (i := 0) (by decide)
  by_cases h1 : (0 : Int32) ≤ p2 ∧ p2 ≤ 6
  case neg =>
    simp only [tell0, tell1, tell2, tell3, tell4, tell5, tell6, finds0, finds1, finds2, finds3, finds4, finds5, finds6, c_isQuestion, c_isMarker, c_isKind, c_isBy, c_isLine, c_isSpot, c_isSheet, c_isPupil, c_isCurve, m_isQuestion, m_isLine, m_isOne, m_isPupil, m_isCurve, within_eq, in_eq, wl_ge0, wl_ge1, wl_le1, wl_le3, wl_le4, wl_le5, wl_le6, wl_le7, wl_le9, wl_le12, wl_le40, wl_le100, wl_le400, wl_gem1, wl_ww, zz_10, not_false_eq_true, not_true_eq_false, true_and, and_true, false_implies, true_implies, forall_const, eP, eC, eP', eC', if_pos h0, if_neg h1]
    exact hR.find (i := 0) (by decide)
  simp only [tell0, tell1, tell2, tell3, tell4, tell5, tell6, finds0, finds1, finds2, finds3, finds4, finds5, finds6, c_isQuestion, c_isMarker, c_isKind, c_isBy, c_isLine, c_isSpot, c_isSheet, c_isPupil, c_isCurve, m_isQuestion, m_isLine, m_isOne, m_isPupil, m_isCurve, within_eq, in_eq, wl_ge0, wl_ge1, wl_le1, wl_le3, wl_le4, wl_le5, wl_le6, wl_le7, wl_le9, wl_le12, wl_le40, wl_le100, wl_le400, wl_gem1, wl_ww, zz_10, not_false_eq_true, not_true_eq_false, true_and, and_true, false_implies, true_implies, forall_const, eP, eC, eP', eC', if_pos h0, if_pos h1]
  obtain ⟨i, hi, rfl⟩ := idx_le (n := 9) (by decide) h0
  obtain ⟨b, hb, rfl⟩ := idx_le (n := 6) (by decide) h1
  have e8 : c 8 i = m 1 (235 + i) := hM.2.2.2.2.2.2.2.2 i (by omega)
  have zs := hW.2.2.2.2.2.2.2.2.2 i (by omega)
  rw [ix_spt, nI_clamp (by omega), nI_clamp (by omega), e8]
  have v1 : vp_in (nI i) 10 := in_nI (by omega) (by decide)
  have v2 : vp_in (nI (235 + i)) 245 := in_nI (by omega) (by decide)
  refine ⟨v1, ?_⟩
  by_cases hn : 0 ≤ m 1 (235 + i)
  case neg =>
    have hc : ¬ ((0 : Int32) ≤ m 1 (235 + i) ∧ m 1 (235 + i) ≤ nI C - 1) := fun z => hn z.1
    rw [if_neg hc]
    refine ⟨fun z => absurd rfl z, fun _ => ⟨v2, fun z => absurd z hn, fun _ => ?_⟩⟩
    exact hR.find (i := 5) (by decide)
  obtain ⟨k, hk, ek⟩ : ∃ k, k < C ∧ m 1 (235 + i) = nI k := by
    rw [fa_le] at hn
    obtain ⟨k, hk, ek⟩ := zb_nI (x := m 1 (235 + i)) (n := C - 1) ⟨hn, by have := zs.2; have l0 : (0 : Int32).toInt = 0 := rfl; omega⟩
    refine ⟨k, ?_, ek⟩
    have := zs.2
    rw [ek, nI_toInt (by omega)] at this
    omega
  have hc : (0 : Int32) ≤ m 1 (235 + i) ∧ m 1 (235 + i) ≤ nI C - 1 := idx_ofb (by omega) ek hk
  rw [if_pos hc]
  refine ⟨fun _ => ?_, fun z => absurd z (by decide)⟩
  rw [ek, nI_clamp (by omega), show c 6 k = m 1 (223 + 2 * k) from (hM.2.2.2.2.2.2.2.1 k hk).1]
  obtain ⟨a, ha, ea⟩ := zb_nI (n := 6) (hW.2.2.2.2.2.2.2.2.1 k hk).1
  rw [ea]
  refine ⟨in_nI (by omega) (by decide), c_isUnder (by omega) (by omega) _ ?_⟩
  have ne : ∀ x y : Nat, x < 10 → y < 10 → (nI x = nI y ↔ x = y) := fun x y hx hy => nI_eq (by omega) (by omega)
  have j104 : ∀ y : Int32, y = (if uB a b then 1 else 0) → ∀ post : Int32 → zz_H → Prop, (uB a b = true → post (nI k) m) → (uB a b = false → post ((-1000003) : Int32) (mF m 2)) → wX5_as_j104 (nI i) m post y := by
    intro y hy post k1 k2
    unfold wX5_as_j104
    rw [hy, ix_spt, nI_clamp (by omega), ek]
    by_cases q : uB a b = true
    · rw [if_pos q]; exact ⟨fun z => absurd z (by decide), fun _ => k1 q⟩
    · rw [if_neg q]
      refine ⟨fun _ => ?_, fun z => absurd rfl z⟩
      rw [finds2]; exact k2 (by simpa using q)
  have md : ∀ post : Int32 → zz_H → Prop, (uB a b = true → post (nI k) m) → (uB a b = false → post ((-1000003) : Int32) (mF m 2)) → (nI b = 0 → wX5_as_j99 (nI i) m post) ∧ (¬ nI b = 0 → (nI a = nI b → wX5_as_j99 (nI i) m post) ∧ (¬ nI a = nI b → (¬ nI b = 1 → wX5_as_j88 (nI i) (nI b) m post) ∧ (nI b = 1 → (nI a = 5 → wX5_as_j99 (nI i) m post) ∧ (¬ nI a = 5 → wX5_as_j88 (nI i) (nI b) m post)))) := by
    intro post k1 k2
    have y1 : uB a b = true → wX5_as_j99 (nI i) m post := fun q => j104 1 (by rw [if_pos q]) post k1 k2
    have y0 : uB a b = false → wX5_as_j103 (nI i) m post := fun q => j104 0 (by rw [if_neg (by simp [q])]) post k1 k2
    have n0 : nI b = 0 ↔ b = 0 := ne b 0 (by omega) (by decide)
    have n1 : nI b = 1 ↔ b = 1 := ne b 1 (by omega) (by decide)
    have n2 : nI b = 2 ↔ b = 2 := ne b 2 (by omega) (by decide)
    have n5 : nI a = 5 ↔ a = 5 := ne a 5 (by omega) (by decide)
    have n3 : nI a = 3 ↔ a = 3 := ne a 3 (by omega) (by decide)
    have nb : nI a = nI b ↔ a = b := ne a b (by omega) (by omega)
    have j88 : ¬ b = 0 → ¬ a = b → ¬ (b = 1 ∧ a = 5) → wX5_as_j88 (nI i) (nI b) m post := by
      intro q0 q1 q2
      unfold wX5_as_j88
      rw [ix_spt, nI_clamp (by omega), ek, ix_kind, nI_clamp (by omega), ea, n2, n3]
      refine ⟨fun z => y0 ?_, fun z => ⟨fun z3 => y0 ?_, fun z3 => y1 ?_⟩⟩
      · unfold uB; simp; omega
      · unfold uB; simp; omega
      · unfold uB; simp; omega
    rw [n0, nb, n1, n5]
    refine ⟨fun z => y1 (by unfold uB; simp; omega), fun z => ⟨fun z1 => y1 (by unfold uB; simp; omega), fun z1 => ⟨fun z2 => j88 z z1 (by omega), fun z2 => ⟨fun z3 => y1 (by unfold uB; simp; omega), fun z3 => j88 z z1 (by omega)⟩⟩⟩⟩
  rw [zz_i0]
  refine ⟨fun z => ⟨v2, fun _ => ?_, fun q => absurd (nI_pos' (by omega)) q⟩, fun z => ⟨v2, fun _ => ?_, fun q => absurd (nI_pos' (by omega)) q⟩⟩
  · rw [ix_kind, nI_clamp (by omega), ea]
    refine ⟨in_nI (by omega) (by decide), md _ (fun q => absurd q z) (fun _ => ⟨rfl, hR.find (by decide)⟩)⟩
  · rw [ix_kind, nI_clamp (by omega), ea]
    refine ⟨in_nI (by omega) (by decide), md _ (fun _ => ⟨rfl, hR⟩) (fun q => absurd (show ¬ uB a b = true by simp [q]) z)⟩
