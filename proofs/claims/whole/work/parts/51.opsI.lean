/-! the first two that break the order -/
def brk (M R : Nat → Int32) (p o : Nat) : Bool := decide (¬ R p ≤ R o) && decide (¬ M o ≤ M p)
def bri (M R : Nat → Int32) (P p : Nat) : Nat := fa_first (brk M R p) P
def bro (M R : Nat → Int32) (P : Nat) : Nat := fa_first (fun p => decide (bri M R P p < P)) P
def brv (M R : Nat → Int32) (P : Nat) : Int32 := if bro M R P < P then nI (100 * bro M R P + bri M R P (bro M R P)) else -1
theorem brk_no {M R : Nat → Int32} {p o : Nat} (h : brk M R p o = false) : R p ≤ R o ∨ M o ≤ M p := by
  unfold brk at h
  by_cases a : R p ≤ R o
  · exact Or.inl a
  · by_cases b : M o ≤ M p
    · exact Or.inr b
    · simp [a, b] at h
theorem brk_yes {M R : Nat → Int32} {p o : Nat} (h : brk M R p o = true) : ¬ R p ≤ R o ∧ ¬ M o ≤ M p := by
  unfold brk at h
  simpa using h
theorem ix_100 (a b : Nat) : (100 : Int32) * nI a + nI b = nI (100 * a + b) := by
  show nI 100 * nI a + nI b = _
  rw [pk_mul, nI_add]
theorem c_break {c : zz_H} {P : Nat} {M R : Nat → Int32} (h : CV c P M R) (post : Int32 → zz_H → Prop) (k : post (brv M R P) c) : ∃ t9, zz_lp (fun K (s : Int32) => wX4_firstBreak_b7 post c K s) t9 0 := by
  have hP := h.2.1
  have o1 := fa_first_le (fun p => decide (bri M R P p < P)) P
  have o2 := fa_first_no (fun p => decide (bri M R P p < P)) P
  have o3 := fa_first_yes (fun p => decide (bri M R P p < P)) P
  have hb : bro M R P = fa_first (fun p => decide (bri M R P p < P)) P := rfl
  rw [← hb] at o1 o2 o3
  have inner : ∀ (j : Nat) (K : Int32 → Prop), j < P → (bri M R P j < P → post (nI (100 * j + bri M R P j)) c) → (¬ bri M R P j < P → K (nI (j + 1))) → ∃ t9, zz_lp (fun K' (s : Int32) => wX4_firstBreak_b20 post c (nI j) K K' s) t9 0 := by
    intro j K hj h1 h2
    have i1 := fa_first_le (brk M R j) P
    have i2 := fa_first_no (brk M R j) P
    have i3 := fa_first_yes (brk M R j) P
    have hi : bri M R P j = fa_first (brk M R j) P := rfl
    rw [← hi] at i1 i2 i3
    have v1 : vp_in (nI j) 12 := in_nI (by omega) (by decide)
    refine lp_for (bri M R P j) (fun i => nI i) ?_ ?_
    · intro i hii K' hK'
      have hK' : K' (nI (i + 1)) := hK'
      have v2 : vp_in (nI i) 12 := in_nI (by omega) (by decide)
      refine ⟨fun z => absurd (show nI P ≤ nI i from h.1 ▸ z) (lt_nle (by omega) (by omega)), fun _ => ?_⟩
      rw [nI_clamp (by omega), nI_clamp (by omega), nI_1, h.2.2.2 j hj, h.2.2.2 i (by omega), h.2.2.1 j hj, h.2.2.1 i (by omega)]
      refine ⟨v1, v2, fun _ => hK', fun q => ⟨v1, v2, fun _ => hK', fun q2 => ?_⟩⟩
      rcases brk_no (i2 i hii) with z | z
      · exact absurd z q
      · exact absurd z q2
    · intro K'
      by_cases hlt : bri M R P j < P
      · have v2 : vp_in (nI (bri M R P j)) 12 := in_nI (by omega) (by decide)
        obtain ⟨b1, b2⟩ := brk_yes (i3 hlt)
        refine ⟨fun z => absurd (show nI P ≤ nI (bri M R P j) from h.1 ▸ z) (lt_nle hlt (by omega)), fun _ => ?_⟩
        rw [nI_clamp (by omega), nI_clamp (by omega), h.2.2.2 j hj, h.2.2.2 _ hlt, h.2.2.1 j hj, h.2.2.1 _ hlt]
        refine ⟨v1, v2, fun q => absurd q b1, fun q => ⟨v1, v2, fun q => absurd q b2, fun _ => ?_⟩⟩
        show post (100 * nI j + nI (bri M R P j)) c
        rw [ix_100]; exact h1 hlt
      · have e : bri M R P j = P := by omega
        refine ⟨fun _ => ?_, fun z => absurd (show c 1 7 ≤ nI (bri M R P j) from by rw [e, h.1]; exact nI_le (Nat.le_refl P) (by omega)) z⟩
        show K (nI j + 1)
        rw [nI_1]; exact h2 hlt
  refine lp_for (bro M R P) (fun j => nI j) ?_ ?_
  · intro j hj K hK
    refine ⟨fun z => absurd (show nI P ≤ nI j from h.1 ▸ z) (lt_nle (by omega) (by omega)), fun _ => ?_⟩
    have nb : ¬ bri M R P j < P := of_decide_eq_false (o2 j hj)
    exact inner j K (by omega) (fun q => absurd q nb) (fun _ => hK)
  · intro K
    unfold brv at k
    by_cases hlt : bro M R P < P
    · refine ⟨fun z => absurd (show nI P ≤ nI (bro M R P) from h.1 ▸ z) (lt_nle hlt (by omega)), fun _ => ?_⟩
      rw [if_pos hlt] at k
      have yb : bri M R P (bro M R P) < P := of_decide_eq_true (o3 hlt)
      exact inner _ K hlt (fun _ => k) (fun q => absurd yb q)
    · rw [if_neg hlt] at k
      have e : bro M R P = P := by omega
      exact ⟨fun _ => k, fun z => absurd (show c 1 7 ≤ nI (bro M R P) from by rw [e, h.1]; exact nI_le (Nat.le_refl P) (by omega)) z⟩
theorem m_break {m : zz_H} {s : Nat → Int32} {P : Nat} {M : Nat → Int32} (h : MV m s P M) (post : Int32 → zz_H → Prop) (k : post (brv M (rawS (sc s)) P) m) : ∃ t9, zz_lp (fun K (s : Int32) => wX5_breaking_b7 post m K s) t9 0 := by
  obtain ⟨q1, q2, hP, q3⟩ := h
  subst q1
  have o1 := fa_first_le (fun p => decide (bri M (rawS (sc (m 1))) P p < P)) P
  have o2 := fa_first_no (fun p => decide (bri M (rawS (sc (m 1))) P p < P)) P
  have o3 := fa_first_yes (fun p => decide (bri M (rawS (sc (m 1))) P p < P)) P
  have hb : bro M (rawS (sc (m 1))) P = fa_first (fun p => decide (bri M (rawS (sc (m 1))) P p < P)) P := rfl
  rw [← hb] at o1 o2 o3
  have inner : ∀ (j : Nat) (K : Int32 → Prop), j < P → (bri M (rawS (sc (m 1))) P j < P → post (nI (100 * j + bri M (rawS (sc (m 1))) P j)) m) → (¬ bri M (rawS (sc (m 1))) P j < P → K (nI (j + 1))) → ∃ t9, zz_lp (fun K' (s : Int32) => wX5_breaking_b20 post m (nI j) K K' s) t9 0 := by
    intro j K hj h1 h2
    have i1 := fa_first_le (brk M (rawS (sc (m 1))) j) P
    have i2 := fa_first_no (brk M (rawS (sc (m 1))) j) P
    have i3 := fa_first_yes (brk M (rawS (sc (m 1))) j) P
    have hi : bri M (rawS (sc (m 1))) P j = fa_first (brk M (rawS (sc (m 1))) j) P := rfl
    rw [← hi] at i1 i2 i3
    have v1 : vp_in (nI j) 12 := in_nI (by omega) (by decide)
    refine lp_for (bri M (rawS (sc (m 1))) P j) (fun i => nI i) ?_ ?_
    · intro i hii K' hK'
      have hK' : K' (nI (i + 1)) := hK'
      have v2 : vp_in (nI i) 12 := in_nI (by omega) (by decide)
      refine ⟨fun z => absurd (show nI P ≤ nI i from q2 ▸ z) (lt_nle (by omega) (by omega)), fun _ => m_raw (by omega) _ (m_raw (by omega) _ ?_)⟩
      rw [nI_clamp (by omega), nI_clamp (by omega), nI_1, q3 j hj, q3 i (by omega)]
      refine ⟨fun _ => hK', fun q => ⟨v1, v2, fun _ => hK', fun q2 => ?_⟩⟩
      rcases brk_no (i2 i hii) with z | z
      · exact absurd z q
      · exact absurd z q2
    · intro K'
      by_cases hlt : bri M (rawS (sc (m 1))) P j < P
      · have v2 : vp_in (nI (bri M (rawS (sc (m 1))) P j)) 12 := in_nI (by omega) (by decide)
        obtain ⟨b1, b2⟩ := brk_yes (i3 hlt)
        refine ⟨fun z => absurd (show nI P ≤ nI (bri M (rawS (sc (m 1))) P j) from q2 ▸ z) (lt_nle hlt (by omega)), fun _ => m_raw (by omega) _ (m_raw (by omega) _ ?_)⟩
        rw [nI_clamp (by omega), nI_clamp (by omega), q3 j hj, q3 _ hlt]
        refine ⟨fun q => absurd q b1, fun q => ⟨v1, v2, fun q => absurd q b2, fun _ => ?_⟩⟩
        show post (100 * nI j + nI (bri M (rawS (sc (m 1))) P j)) m
        rw [ix_100]; exact h1 hlt
      · have e : bri M (rawS (sc (m 1))) P j = P := by omega
        refine ⟨fun _ => ?_, fun z => absurd (show m 1 17 ≤ nI (bri M (rawS (sc (m 1))) P j) from by rw [e, q2]; exact nI_le (Nat.le_refl P) (by omega)) z⟩
        show K (nI j + 1)
        rw [nI_1]; exact h2 hlt
  refine lp_for (bro M (rawS (sc (m 1))) P) (fun j => nI j) ?_ ?_
  · intro j hj K hK
    refine ⟨fun z => absurd (show nI P ≤ nI j from q2 ▸ z) (lt_nle (by omega) (by omega)), fun _ => ?_⟩
    have nb : ¬ bri M (rawS (sc (m 1))) P j < P := of_decide_eq_false (o2 j hj)
    exact inner j K (by omega) (fun q => absurd q nb) (fun _ => hK)
  · intro K
    unfold brv at k
    by_cases hlt : bro M (rawS (sc (m 1))) P < P
    · refine ⟨fun z => absurd (show nI P ≤ nI (bro M (rawS (sc (m 1))) P) from q2 ▸ z) (lt_nle hlt (by omega)), fun _ => ?_⟩
      rw [if_pos hlt] at k
      have yb : bri M (rawS (sc (m 1))) P (bro M (rawS (sc (m 1))) P) < P := of_decide_eq_true (o3 hlt)
      exact inner _ K hlt (fun _ => k) (fun q => absurd yb q)
    · rw [if_neg hlt] at k
      have e : bro M (rawS (sc (m 1))) P = P := by omega
      exact ⟨fun _ => k, fun z => absurd (show m 1 17 ≤ nI (bro M (rawS (sc (m 1))) P) from by rw [e, q2]; exact nI_le (Nat.le_refl P) (by omega)) z⟩
set_option maxRecDepth 20000 in
set_option maxHeartbeats 4000000 in
theorem op_keeps {c m : zz_H} (hR : Rel c m) (p1 : Int32) : wX4_keeps p1 c (fun r c' => wX5_keeps p1 m (fun r' m' => r = r' ∧ Rel c' m')) := by
  obtain ⟨⟨P, C, hW, hM⟩, hK, hF, hT, hS⟩ := id hR
  have eP : c 1 7 = nI P := hM.1
  have eC : c 1 8 = nI C := hM.2.1
  have eP' : m 1 17 = nI P := hW.1
  have eC' : m 1 18 = nI C := hW.2.2.1
  have bP : P ≤ 12 := hW.2.1
  have bC : C ≤ 6 := hW.2.2.2.1
  unfold wX4_keeps wX5_keeps 
  by_cases h0 : (0 : Int32) ≤ p1 ∧ p1 ≤ nI C - 1
  case neg =>
    simp only [tell0, tell1, tell2, tell3, tell4, tell5, tell6, finds0, finds1, finds2, finds3, finds4, finds5, finds6, c_isQuestion, c_isMarker, c_isKind, c_isBy, c_isLine, c_isSpot, c_isSheet, c_isPupil, c_isCurve, m_isQuestion, m_isLine, m_isOne, m_isPupil, m_isCurve, within_eq, in_eq, wl_ge0, wl_ge1, wl_le1, wl_le3, wl_le4, wl_le5, wl_le6, wl_le7, wl_le9, wl_le12, wl_le40, wl_le100, wl_le400, wl_gem1, wl_ww, zz_10, not_false_eq_true, not_true_eq_false, true_and, and_true, false_implies, true_implies, forall_const, eP, eC, eP', eC', if_neg h0]
    exact hR.find (i := 0) (by decide)
  simp only [tell0, tell1, tell2, tell3, tell4, tell5, tell6, finds0, finds1, finds2, finds3, finds4, finds5, finds6, c_isQuestion, c_isMarker, c_isKind, c_isBy, c_isLine, c_isSpot, c_isSheet, c_isPupil, c_isCurve, m_isQuestion, m_isLine, m_isOne, m_isPupil, m_isCurve, within_eq, in_eq, wl_ge0, wl_ge1, wl_le1, wl_le3, wl_le4, wl_le5, wl_le6, wl_le7, wl_le9, wl_le12, wl_le40, wl_le100, wl_le400, wl_gem1, wl_ww, zz_10, not_false_eq_true, not_true_eq_false, true_and, and_true, false_implies, true_implies, forall_const, eP, eC, eP', eC', if_pos h0]
  obtain ⟨k, hk, rfl⟩ := idx_of (by omega) h0
  have hb := (hW.2.2.2.2.2.2.2.2.1 k hk).2
  have hz : ∀ p, p < P → zb (MK (m 1) P (m 1 (223 + 2 * k)) (m 1 (224 + 2 * k)) p) 0 320 := fun p hp => MK_zb hW hp _ hb
  
  unfold wX4_firstBreak wX5_breaking
  refine c_work hW hM hk _ (fun c' e cv _ => c_break cv _ ?_)
  refine ⟨fun z => ?_, fun z => ?_⟩
  · exact m_find hW hk _ (fun m' f mv => m_break mv _ ⟨fun _ => hR.se e f, fun q => absurd z q⟩)
  · exact m_find hW hk _ (fun m' f mv => m_break mv _ ⟨fun q => absurd q z, fun _ => hR.se e f⟩)
set_option maxRecDepth 20000 in
set_option maxHeartbeats 4000000 in
theorem op_breaks {c m : zz_H} (hR : Rel c m) (p1 : Int32) : wX4_breaks p1 c (fun r c' => wX5_breaks p1 m (fun r' m' => r = r' ∧ Rel c' m')) := by
  obtain ⟨⟨P, C, hW, hM⟩, hK, hF, hT, hS⟩ := id hR
  have eP : c 1 7 = nI P := hM.1
  have eC : c 1 8 = nI C := hM.2.1
  have eP' : m 1 17 = nI P := hW.1
  have eC' : m 1 18 = nI C := hW.2.2.1
  have bP : P ≤ 12 := hW.2.1
  have bC : C ≤ 6 := hW.2.2.2.1
  unfold wX4_breaks wX5_breaks 
  by_cases h0 : (0 : Int32) ≤ p1 ∧ p1 ≤ nI C - 1
  case neg =>
    simp only [tell0, tell1, tell2, tell3, tell4, tell5, tell6, finds0, finds1, finds2, finds3, finds4, finds5, finds6, c_isQuestion, c_isMarker, c_isKind, c_isBy, c_isLine, c_isSpot, c_isSheet, c_isPupil, c_isCurve, m_isQuestion, m_isLine, m_isOne, m_isPupil, m_isCurve, within_eq, in_eq, wl_ge0, wl_ge1, wl_le1, wl_le3, wl_le4, wl_le5, wl_le6, wl_le7, wl_le9, wl_le12, wl_le40, wl_le100, wl_le400, wl_gem1, wl_ww, zz_10, not_false_eq_true, not_true_eq_false, true_and, and_true, false_implies, true_implies, forall_const, eP, eC, eP', eC', if_neg h0]
    exact hR.find (i := 0) (by decide)
  simp only [tell0, tell1, tell2, tell3, tell4, tell5, tell6, finds0, finds1, finds2, finds3, finds4, finds5, finds6, c_isQuestion, c_isMarker, c_isKind, c_isBy, c_isLine, c_isSpot, c_isSheet, c_isPupil, c_isCurve, m_isQuestion, m_isLine, m_isOne, m_isPupil, m_isCurve, within_eq, in_eq, wl_ge0, wl_ge1, wl_le1, wl_le3, wl_le4, wl_le5, wl_le6, wl_le7, wl_le9, wl_le12, wl_le40, wl_le100, wl_le400, wl_gem1, wl_ww, zz_10, not_false_eq_true, not_true_eq_false, true_and, and_true, false_implies, true_implies, forall_const, eP, eC, eP', eC', if_pos h0]
  obtain ⟨k, hk, rfl⟩ := idx_of (by omega) h0
  have hb := (hW.2.2.2.2.2.2.2.2.1 k hk).2
  have hz : ∀ p, p < P → zb (MK (m 1) P (m 1 (223 + 2 * k)) (m 1 (224 + 2 * k)) p) 0 320 := fun p hp => MK_zb hW hp _ hb
  
  unfold wX4_firstBreak wX5_breaking
  refine c_work hW hM hk _ (fun c' e cv _ => c_break cv _ ?_)
  refine ⟨fun z => ?_, fun z => ?_⟩
  · exact m_find hW hk _ (fun m' f mv => m_break mv _ ⟨fun _ => ⟨rfl, hR.se e f⟩, fun q => absurd z q⟩)
  · try rw [tell3]
    refine m_find hW hk _ (fun m' f mv => m_break mv _ ⟨fun q => absurd q z, fun _ => ?_⟩)
    try rw [finds3]
    first | exact ⟨rfl, (hR.se e f).find (by decide)⟩ | exact (hR.se e f).find (by decide)
/-! sums over all two -/
theorem zsum_add (f g : Nat → Int32) : ∀ n, zsum (fun i => f i + g i) n = zsum f n + zsum g n
  | 0 => rfl
  | n + 1 => by
    show zsum (fun i => f i + g i) n + (f n + g n) = zsum f n + f n + (zsum g n + g n)
    rw [zsum_add f g n]
    grind
def tri1 (f : Nat → Nat → Int32) (n j : Nat) : Int32 := zsum (fun p => zsum (fun i => f p (p + 1 + i)) (n - p - 1)) j
def tri2 (f : Nat → Nat → Int32) (j : Nat) : Int32 := zsum (fun p => zsum (fun q => f p q) p) j
theorem tri_eq {f : Nat → Nat → Int32} (hs : ∀ p q, f p q = f q p) : ∀ n, tri1 f n n = tri2 f n
  | 0 => rfl
  | n + 1 => by
    have e : zsum (fun p => zsum (fun i => f p (p + 1 + i)) (n + 1 - p - 1)) n = zsum (fun p => zsum (fun i => f p (p + 1 + i)) (n - p - 1) + f p n) n := zsum_congr (fun p hp => by
      obtain ⟨d, hd⟩ : ∃ d, n - p - 1 = d ∧ n = p + 1 + d := ⟨n - p - 1, rfl, by omega⟩
      rw [show n + 1 - p - 1 = d + 1 by omega, hd.1]
      show zsum (fun i => f p (p + 1 + i)) d + f p (p + 1 + d) = _
      rw [← hd.2])
    show zsum (fun p => zsum (fun i => f p (p + 1 + i)) (n + 1 - p - 1)) n + zsum (fun i => f n (n + 1 + i)) (n + 1 - n - 1) = tri2 f n + zsum (fun q => f n q) n
    rw [e, zsum_add, show n + 1 - n - 1 = 0 by omega]
    have ih : zsum (fun p => zsum (fun i => f p (p + 1 + i)) (n - p - 1)) n = tri2 f n := tri_eq hs n
    rw [ih, zsum_congr (f := fun p => f p n) (g := fun q => f n q) (fun p _ => hs p n)]
    exact Int32.add_zero _
def hpF (M R : Nat → Int32) (p q : Nat) : Int32 := if R p = R q then 0 else if M p = M q then 1 else 0
theorem hpF_comm (M R : Nat → Int32) (p q : Nat) : hpF M R p q = hpF M R q p := by
  unfold hpF
  by_cases a : R p = R q
  · rw [if_pos a, if_pos a.symm]
  · have a' : ¬ R q = R p := fun z => a z.symm
    rw [if_neg a, if_neg a']
    by_cases b : M p = M q
    · rw [if_pos b, if_pos b.symm]
    · have b' : ¬ M q = M p := fun z => b z.symm
      rw [if_neg b, if_neg b']
theorem c_heaped {c : zz_H} {P : Nat} {M R : Nat → Int32} (h : CV c P M R) (post : Int32 → zz_H → Prop) (k : post (tri1 (hpF M R) P P) c) : ∃ t9, zz_lp (fun K (s : Int32 × Int32) => wX4_heaped_b24 post c K s.1 s.2) t9 (0, 0) := by
  have hP := h.2.1
  refine lp_for P (fun j => (tri1 (hpF M R) P j, nI j)) ?_ ?_
  · intro j hj K hK
    refine ⟨fun z => absurd (show nI P ≤ nI j from h.1 ▸ z) (lt_nle hj (by omega)), fun _ => ?_⟩
    have hK : K (tri1 (hpF M R) P j + zsum (fun i => hpF M R j (j + 1 + i)) (P - j - 1), nI (j + 1)) := hK
    generalize tri1 (hpF M R) P j = z at hK ⊢
    have this := lp_for (b := fun K' (s : Int32 × Int32) => wX4_heaped_b40 c (nI j) K K' s.1 s.2) (P - j - 1) (fun i => (z + zsum (fun i => hpF M R j (j + 1 + i)) i, nI (j + 1 + i))) ?_ ?_
    · have e0 : z + zsum (fun i => hpF M R j (j + 1 + i)) 0 = z := Int32.add_zero z
      have e1 : nI (j + 1 + 0) = nI j + 1 := (nI_1 j).symm
      simp only [e0, e1] at this
      exact this
    · intro i hi K' hK'
      have hK' : K' (z + (zsum (fun i => hpF M R j (j + 1 + i)) i + hpF M R j (j + 1 + i)), nI (j + 1 + i + 1)) := hK'
      rw [← Int32.add_assoc] at hK'
      refine ⟨fun q => absurd (show nI P ≤ nI (j + 1 + i) from h.1 ▸ q) (lt_nle (by omega) (by omega)), fun _ => ?_⟩
      dsimp only
      generalize z + zsum (fun i => hpF M R j (j + 1 + i)) i = y at hK' ⊢
      have v1 : vp_in (nI j) 12 := in_nI (by omega) (by decide)
      have v2 : vp_in (nI (j + 1 + i)) 12 := in_nI (by omega) (by decide)
      rw [nI_clamp (by omega), nI_clamp (by omega), nI_1, h.2.2.1 j hj, h.2.2.1 (j + 1 + i) (by omega), h.2.2.2 j hj, h.2.2.2 (j + 1 + i) (by omega)]
      unfold hpF at hK'
      refine ⟨v1, v2, fun q => ?_, fun q => ⟨v1, v2, fun q2 => ?_, fun q2 => ?_⟩⟩
      · rw [if_pos q, Int32.add_zero] at hK'; exact hK'
      · rw [if_neg q, if_neg q2, Int32.add_zero] at hK'; exact hK'
      · rw [if_neg q, if_pos q2] at hK'; exact hK'
    · intro K'
      refine ⟨fun _ => ?_, fun q => absurd (show c 1 7 ≤ nI (j + 1 + (P - j - 1)) from by rw [show j + 1 + (P - j - 1) = P by omega, h.1]; exact nI_le (Nat.le_refl P) (by omega)) q⟩
      show K (z + zsum (fun i => hpF M R j (j + 1 + i)) (P - j - 1), nI j + 1)
      rw [nI_1]; exact hK
  · intro K
    exact ⟨fun _ => k, fun z => absurd (show c 1 7 ≤ nI P from h.1 ▸ nI_le (Nat.le_refl P) (by omega)) z⟩
theorem m_heaped {m : zz_H} {s : Nat → Int32} {P : Nat} {M : Nat → Int32} (h : MV m s P M) (post : Int32 → zz_H → Prop) (k : post (tri2 (hpF M (rawS (sc s))) P) m) : ∃ t9, zz_lp (fun K (s : Int32 × Int32) => wX5_heaped_b24 post m K s.1 s.2) t9 (0, 0) := by
  obtain ⟨q1, q2, hP, q3⟩ := h
  subst q1
  refine lp_for P (fun j => (tri2 (hpF M (rawS (sc (m 1)))) j, nI j)) ?_ ?_
  · intro j hj K hK
    refine ⟨fun z => absurd (show nI P ≤ nI j from q2 ▸ z) (lt_nle hj (by omega)), fun _ => ?_⟩
    have hK : K (tri2 (hpF M (rawS (sc (m 1)))) j + zsum (fun q => hpF M (rawS (sc (m 1))) j q) j, nI (j + 1)) := hK
    generalize tri2 (hpF M (rawS (sc (m 1)))) j = z at hK ⊢
    have this := lp_for (b := fun K' (s : Int32 × Int32) => wX5_heaped_b38 m (nI j) K K' s.1 s.2) j (fun i => (z + zsum (fun q => hpF M (rawS (sc (m 1))) j q) i, nI i)) ?_ ?_
    · have e0 : z + zsum (fun q => hpF M (rawS (sc (m 1))) j q) 0 = z := Int32.add_zero z
      simp only [e0] at this
      exact this
    · intro i hi K' hK'
      have hK' : K' (z + (zsum (fun q => hpF M (rawS (sc (m 1))) j q) i + hpF M (rawS (sc (m 1))) j i), nI (i + 1)) := hK'
      rw [← Int32.add_assoc] at hK'
      refine ⟨fun q => absurd q (lt_nle hi (by omega)), fun _ => m_raw (by omega) _ (m_raw (by omega) _ ?_)⟩
      dsimp only
      generalize z + zsum (fun q => hpF M (rawS (sc (m 1))) j q) i = y at hK' ⊢
      have v1 : vp_in (nI j) 12 := in_nI (by omega) (by decide)
      have v2 : vp_in (nI i) 12 := in_nI (by omega) (by decide)
      rw [nI_clamp (by omega), nI_clamp (by omega), nI_1, q3 j hj, q3 i (by omega)]
      unfold hpF at hK'
      refine ⟨fun q => ?_, fun q => ⟨v1, v2, fun q2 => ?_, fun q2 => ?_⟩⟩
      · rw [if_pos q] at hK'; exact hK'
      · rw [if_neg q, if_neg q2] at hK'; exact hK'
      · rw [if_neg q, if_pos q2] at hK'; exact hK'
    · intro K'
      refine ⟨fun _ => ?_, fun q => absurd (show nI j ≤ nI j from nI_le (Nat.le_refl j) (by omega)) q⟩
      show K (z + zsum (fun q => hpF M (rawS (sc (m 1))) j q) j, nI j + 1)
      rw [nI_1]; exact hK
  · intro K
    exact ⟨fun _ => k, fun z => absurd (show m 1 17 ≤ nI P from q2 ▸ nI_le (Nat.le_refl P) (by omega)) z⟩
set_option maxRecDepth 20000 in
set_option maxHeartbeats 4000000 in
theorem op_heaped {c m : zz_H} (hR : Rel c m) (p1 : Int32) : wX4_heaped p1 c (fun r c' => wX5_heaped p1 m (fun r' m' => r = r' ∧ Rel c' m')) := by
  obtain ⟨⟨P, C, hW, hM⟩, hK, hF, hT, hS⟩ := id hR
  have eP : c 1 7 = nI P := hM.1
  have eC : c 1 8 = nI C := hM.2.1
  have eP' : m 1 17 = nI P := hW.1
  have eC' : m 1 18 = nI C := hW.2.2.1
  have bP : P ≤ 12 := hW.2.1
  have bC : C ≤ 6 := hW.2.2.2.1
  unfold wX4_heaped wX5_heaped 
  by_cases h0 : (0 : Int32) ≤ p1 ∧ p1 ≤ nI C - 1
  case neg =>
    simp only [tell0, tell1, tell2, tell3, tell4, tell5, tell6, finds0, finds1, finds2, finds3, finds4, finds5, finds6, c_isQuestion, c_isMarker, c_isKind, c_isBy, c_isLine, c_isSpot, c_isSheet, c_isPupil, c_isCurve, m_isQuestion, m_isLine, m_isOne, m_isPupil, m_isCurve, within_eq, in_eq, wl_ge0, wl_ge1, wl_le1, wl_le3, wl_le4, wl_le5, wl_le6, wl_le7, wl_le9, wl_le12, wl_le40, wl_le100, wl_le400, wl_gem1, wl_ww, zz_10, not_false_eq_true, not_true_eq_false, true_and, and_true, false_implies, true_implies, forall_const, eP, eC, eP', eC', if_neg h0]
    exact hR.find (i := 0) (by decide)
  simp only [tell0, tell1, tell2, tell3, tell4, tell5, tell6, finds0, finds1, finds2, finds3, finds4, finds5, finds6, c_isQuestion, c_isMarker, c_isKind, c_isBy, c_isLine, c_isSpot, c_isSheet, c_isPupil, c_isCurve, m_isQuestion, m_isLine, m_isOne, m_isPupil, m_isCurve, within_eq, in_eq, wl_ge0, wl_ge1, wl_le1, wl_le3, wl_le4, wl_le5, wl_le6, wl_le7, wl_le9, wl_le12, wl_le40, wl_le100, wl_le400, wl_gem1, wl_ww, zz_10, not_false_eq_true, not_true_eq_false, true_and, and_true, false_implies, true_implies, forall_const, eP, eC, eP', eC', if_pos h0]
  obtain ⟨k, hk, rfl⟩ := idx_of (by omega) h0
  have hb := (hW.2.2.2.2.2.2.2.2.1 k hk).2
  have hz : ∀ p, p < P → zb (MK (m 1) P (m 1 (223 + 2 * k)) (m 1 (224 + 2 * k)) p) 0 320 := fun p hp => MK_zb hW hp _ hb
  
  refine c_work hW hM hk _ (fun c' e cv _ => c_heaped cv _ (m_find hW hk _ (fun m' f mv => m_heaped mv _ ⟨?_, hR.se e f⟩)))
  exact tri_eq (hpF_comm _ _) P
