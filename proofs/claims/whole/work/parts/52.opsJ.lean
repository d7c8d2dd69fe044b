def spF (S : Nat → Nat → Int32) (q p o : Nat) : Int32 := zz_abs (S p q - S o q)
theorem abs_toInt {x : Int32} (h : -1000 ≤ x.toInt) : (zz_abs x).toInt = if 0 ≤ x.toInt then x.toInt else - x.toInt := by
  unfold zz_abs
  have l0 : (0 : Int32).toInt = 0 := rfl
  by_cases q : 0 ≤ x
  · rw [if_pos q]; rw [fa_le] at q; rw [if_pos (by omega)]
  · rw [if_neg q]
    rw [fa_le] at q
    rw [if_neg (by omega), fb_subI (by rw [l0]; omega) (by rw [l0]; omega), l0]
    omega
theorem spF_comm {S : Nat → Nat → Int32} {q p o : Nat} (h1 : zb (S p q) 0 400) (h2 : zb (S o q) 0 400) : spF S q p o = spF S q o p := by
  unfold spF
  have a1 := h1.1; have a2 := h1.2; have b1 := h2.1; have b2 := h2.2
  have e1 : (S p q - S o q).toInt = (S p q).toInt - (S o q).toInt := fb_subI (by omega) (by omega)
  have e2 : (S o q - S p q).toInt = (S o q).toInt - (S p q).toInt := fb_subI (by omega) (by omega)
  rw [fa_eq, abs_toInt (by omega), abs_toInt (by omega), e1, e2]
  split <;> split <;> omega
theorem tri_eqP {f : Nat → Nat → Int32} {n : Nat} (hs : ∀ p q, p < n → q < n → f p q = f q p) : tri1 f n n = tri2 f n := by
  have h := tri_eq (f := fun p q => if p < n ∧ q < n then f p q else 0) (fun p q => by
    by_cases a : p < n ∧ q < n
    · rw [if_pos a, if_pos ⟨a.2, a.1⟩]; exact hs p q a.1 a.2
    · rw [if_neg a, if_neg (fun z => a ⟨z.2, z.1⟩)]) n
  have e1 : tri1 (fun p q => if p < n ∧ q < n then f p q else 0) n n = tri1 f n n := zsum_congr (fun p hp => zsum_congr (fun i hi => if_pos ⟨hp, by omega⟩))
  have e2 : tri2 (fun p q => if p < n ∧ q < n then f p q else 0) n = tri2 f n := zsum_congr (fun p hp => zsum_congr (fun q hq => if_pos ⟨hp, by omega⟩))
  rw [← e1, ← e2]; exact h
theorem m_size (x : Int32) (h : zz_H) (post : Int32 → Prop) : wX5_size x h post = post (zz_abs x) := by
  unfold wX5_size zz_abs
  apply propext
  by_cases q : 0 ≤ x <;> simp [q]
theorem c_spread {c : zz_H} {S : Nat → Nat → Int32} {W O : Nat → Int32} {P q : Nat} (h : SC c S W O P) (hP : P ≤ 12) (hq : q < 8) (post : Int32 → Prop) (k : post (tri1 (spF S q) P P)) : wX1_spreadIn (nI q) c post := by
  refine lp_for P (fun j => (tri1 (spF S q) P j, nI j)) ?_ ?_
  · intro j hj K hK
    refine ⟨fun z => absurd (show nI P ≤ nI j from h.1 ▸ z) (lt_nle hj (by omega)), fun _ => ?_⟩
    have hK : K (tri1 (spF S q) P j + zsum (fun i => spF S q j (j + 1 + i)) (P - j - 1), nI (j + 1)) := hK
    generalize tri1 (spF S q) P j = z at hK ⊢
    have this := lp_for (b := fun K' (s : Int32 × Int32) => wX1_spreadIn_b17 (nI q) c (nI j) K K' s.1 s.2) (P - j - 1) (fun i => (z + zsum (fun i => spF S q j (j + 1 + i)) i, nI (j + 1 + i))) ?_ ?_
    · have e0 : z + zsum (fun i => spF S q j (j + 1 + i)) 0 = z := Int32.add_zero z
      have e1 : nI (j + 1 + 0) = nI j + 1 := (nI_1 j).symm
      simp only [e0, e1] at this
      exact this
    · intro i hi K' hK'
      have hK' : K' (z + (zsum (fun i => spF S q j (j + 1 + i)) i + spF S q j (j + 1 + i)), nI (j + 1 + i + 1)) := hK'
      rw [← Int32.add_assoc] at hK'
      refine ⟨fun q => absurd (show nI P ≤ nI (j + 1 + i) from h.1 ▸ q) (lt_nle (by omega) (by omega)), fun _ => ?_⟩
      dsimp only
      generalize z + zsum (fun i => spF S q j (j + 1 + i)) i = y at hK' ⊢
      unfold wX1_scoreOf
      rw [ix_ps, ix_ps, nI_clamp (by omega), nI_clamp (by omega), nI_1, h.2.2.2.2.2.2.1 j q (by omega) hq, h.2.2.2.2.2.2.1 (j + 1 + i) q (by omega) hq]
      exact ⟨in_nI (by omega) (by decide), in_nI (by omega) (by decide), hK'⟩
    · intro K'
      refine ⟨fun _ => ?_, fun q => absurd (show c 25 3 ≤ nI (j + 1 + (P - j - 1)) from by rw [show j + 1 + (P - j - 1) = P by omega, h.1]; exact nI_le (Nat.le_refl P) (by omega)) q⟩
      show K (z + zsum (fun i => spF S q j (j + 1 + i)) (P - j - 1), nI j + 1)
      rw [nI_1]; exact hK
  · intro K
    exact ⟨fun _ => k, fun z => absurd (show c 25 3 ≤ nI P from h.1 ▸ nI_le (Nat.le_refl P) (by omega)) z⟩
theorem m_countsOf {m : zz_H} {P q : Nat} (e : m 1 17 = nI P) (hP : P ≤ 12) (hq : q < 8) (post : Int32 → Prop) (k : post (tri2 (spF (sc (m 1)) q) P)) : wX5_countsOf (nI q) m post := by
  refine lp_for P (fun j => (tri2 (spF (sc (m 1)) q) j, nI j)) ?_ ?_
  · intro j hj K hK
    refine ⟨fun z => absurd (show nI P ≤ nI j from e ▸ z) (lt_nle hj (by omega)), fun _ => ?_⟩
    have hK : K (tri2 (spF (sc (m 1)) q) j + zsum (fun o => spF (sc (m 1)) q j o) j, nI (j + 1)) := hK
    generalize tri2 (spF (sc (m 1)) q) j = z at hK ⊢
    have this := lp_for (b := fun K' (s : Int32 × Int32) => wX5_countsOf_b18 (nI q) m (nI j) K K' s.1 s.2) j (fun i => (z + zsum (fun o => spF (sc (m 1)) q j o) i, nI i)) ?_ ?_
    · have e0 : z + zsum (fun o => spF (sc (m 1)) q j o) 0 = z := Int32.add_zero z
      simp only [e0] at this
      exact this
    · intro i hi K' hK'
      have hK' : K' (z + (zsum (fun o => spF (sc (m 1)) q j o) i + spF (sc (m 1)) q j i), nI (i + 1)) := hK'
      rw [← Int32.add_assoc] at hK'
      refine ⟨fun q => absurd q (lt_nle hi (by omega)), fun _ => m_score (by omega) hq _ (m_score (by omega) hq _ ?_)⟩
      rw [m_size]
      dsimp only
      rw [nI_1]; exact hK'
    · intro K'
      refine ⟨fun _ => ?_, fun q => absurd (show nI j ≤ nI j from nI_le (Nat.le_refl j) (by omega)) q⟩
      show K (z + zsum (fun o => spF (sc (m 1)) q j o) j, nI j + 1)
      rw [nI_1]; exact hK
  · intro K
    exact ⟨fun _ => k, fun z => absurd (show m 1 17 ≤ nI P from e ▸ nI_le (Nat.le_refl P) (by omega)) z⟩
def cnt (s : Nat → Int32) (P q : Nat) : Int32 := tri2 (spF (sc s) q) P
theorem cnt_sS {s : Nat → Int32} {P C q : Nat} (hW : WF s P C) (hq : q < 8) : tri1 (spF (sS s P) q) P P = cnt s P q := by
  have ok := hW.ok
  have e1 : tri1 (spF (sS s P) q) P P = tri1 (spF (sc s) q) P P := zsum_congr (fun p hp => zsum_congr (fun i hi => by unfold spF sS; rw [if_pos hp, if_pos (by omega)]))
  rw [e1]
  have bd : ∀ p, p < P → zb (sc s p q) 0 400 := fun p hp => ⟨(ok.2.2 p q hp hq).1, by have := (ok.2.2 p q hp hq).2; have := (ok.2.1 q hq).2; omega⟩
  exact tri_eqP (fun p o hp ho => spF_comm (bd p hp) (bd o ho))
theorem abs_pos {x : Int32} (h : -1000 ≤ x.toInt) : 0 ≤ (zz_abs x).toInt := by
  rw [abs_toInt h]; split <;> omega
theorem cnt_pos {s : Nat → Int32} {P C q : Nat} (hW : WF s P C) (hq : q < 8) : 0 ≤ (cnt s P q).toInt := by
  have ok := hW.ok
  have hP := ok.1
  have bd : ∀ p, p < P → zb (sc s p q) 0 40 := fun p hp => ⟨(ok.2.2 p q hp hq).1, by have := (ok.2.2 p q hp hq).2; have := (ok.2.1 q hq).2; omega⟩
  have z1 : ∀ p, p < P → zb (zsum (fun o => spF (sc s) q p o) p) 0 ((480 : Nat) : Int) := by
    intro p hp
    have := zsum_zb (f := fun o => spF (sc s) q p o) (B := 40) (n := p) (fun o ho => by
      have a := bd p hp; have b := bd o (by omega)
      have a1 := a.1; have a2 := a.2; have b1 := b.1; have b2 := b.2
      have e : (sc s p q - sc s o q).toInt = (sc s p q).toInt - (sc s o q).toInt := fb_subI (by omega) (by omega)
      unfold spF zb
      rw [abs_toInt (by omega), e]
      split <;> omega) (by omega)
    exact ⟨this.1, by have := this.2; omega⟩
  have := zsum_zb (f := fun p => zsum (fun o => spF (sc s) q p o) p) (B := 480) (n := P) z1 (by omega)
  exact this.1
set_option maxRecDepth 20000 in
set_option maxHeartbeats 4000000 in
theorem op_counts {c m : zz_H} (hR : Rel c m) (p1 : Int32) : wX4_counts p1 c (fun r c' => wX5_counts p1 m (fun r' m' => r = r' ∧ Rel c' m')) := by
  obtain ⟨⟨P, C, hW, hM⟩, hK, hF, hT, hS⟩ := id hR
  have eP : c 1 7 = nI P := hM.1
  have eC : c 1 8 = nI C := hM.2.1
  have eP' : m 1 17 = nI P := hW.1
  have eC' : m 1 18 = nI C := hW.2.2.1
  have bP : P ≤ 12 := hW.2.1
  have bC : C ≤ 6 := hW.2.2.2.1
  unfold wX4_counts wX5_counts 
  by_cases h0 : (0 : Int32) ≤ p1 ∧ p1 ≤ 7
  case neg =>
    simp only [tell0, tell1, tell2, tell3, tell4, tell5, tell6, finds0, finds1, finds2, finds3, finds4, finds5, finds6, c_isQuestion, c_isMarker, c_isKind, c_isBy, c_isLine, c_isSpot, c_isSheet, c_isPupil, c_isCurve, m_isQuestion, m_isLine, m_isOne, m_isPupil, m_isCurve, within_eq, in_eq, wl_ge0, wl_ge1, wl_le1, wl_le3, wl_le4, wl_le5, wl_le6, wl_le7, wl_le9, wl_le12, wl_le40, wl_le100, wl_le400, wl_gem1, wl_ww, zz_10, not_false_eq_true, not_true_eq_false, true_and, and_true, false_implies, true_implies, forall_const, eP, eC, eP', eC', if_neg h0]
    exact hR.find (i := 0) (by decide)
  simp only [tell0, tell1, tell2, tell3, tell4, tell5, tell6, finds0, finds1, finds2, finds3, finds4, finds5, finds6, c_isQuestion, c_isMarker, c_isKind, c_isBy, c_isLine, c_isSpot, c_isSheet, c_isPupil, c_isCurve, m_isQuestion, m_isLine, m_isOne, m_isPupil, m_isCurve, within_eq, in_eq, wl_ge0, wl_ge1, wl_le1, wl_le3, wl_le4, wl_le5, wl_le6, wl_le7, wl_le9, wl_le12, wl_le40, wl_le100, wl_le400, wl_gem1, wl_ww, zz_10, not_false_eq_true, not_true_eq_false, true_and, and_true, false_implies, true_implies, forall_const, eP, eC, eP', eC', if_pos h0]
  obtain ⟨q, hq, rfl⟩ := idx_le (n := 7) (by decide) h0
  refine c_read hM bP _ (fun c1 ho hs => c_spread hs bP (by omega) _ ?_)
  rw [cnt_sS hW (by omega)]
  exact m_countsOf eP' bP (by omega) _ ⟨rfl, hR.se (fun j hj => ho j (by omega)) (SM.rf m)⟩
/-- the first of the greatest -/
def hvq (f : Nat → Int32) : Nat → Nat
  | 0 => 0
  | j + 1 => if f (j + 1) ≤ f (hvq f j) then hvq f j else j + 1
theorem hvq_le (f : Nat → Int32) : ∀ j, hvq f j ≤ j
  | 0 => Nat.le_refl 0
  | j + 1 => by
    show (if f (j + 1) ≤ f (hvq f j) then hvq f j else j + 1) ≤ j + 1
    split
    · exact Nat.le_succ_of_le (hvq_le f j)
    · exact Nat.le_refl _
theorem op_heavy {c m : zz_H} (hR : Rel c m) : wX4_heavy c (fun r c' => wX5_heavy m (fun r' => r = r' ∧ Rel c' m)) := by
  obtain ⟨⟨P, C, hW, hM⟩, hK, hF, hT, hS⟩ := id hR
  have eP' : m 1 17 = nI P := hW.1
  have bP : P ≤ 12 := hW.2.1
  unfold wX4_heavy wX5_heavy
  refine c_read hM bP _ (fun c1 ho hs => ?_)
  have fin : ∃ t9, zz_lp (fun K (s : Int32 × Int32) => wX5_heavy_b4 m (fun r' => nI (hvq (cnt (m 1) P) 7) = r' ∧ Rel c1 m) K s.1 s.2) t9 (0, 1) := by
    refine lp_for (b := fun K (s : Int32 × Int32) => wX5_heavy_b4 m (fun r' => nI (hvq (cnt (m 1) P) 7) = r' ∧ Rel c1 m) K s.1 s.2) 7 (fun j => (nI (hvq (cnt (m 1) P) j), nI (j + 1))) ?_ ?_
    · intro j hj K' hK'
      have hl := hvq_le (cnt (m 1) P) j
      refine ⟨fun z => absurd z (lt_nle (N := 8) (by omega) (by decide)), fun _ => m_countsOf eP' bP (by omega) _ (m_countsOf eP' bP (by omega) _ ?_)⟩
      have hK' : K' (nI (if cnt (m 1) P (j + 1) ≤ cnt (m 1) P (hvq (cnt (m 1) P) j) then hvq (cnt (m 1) P) j else j + 1), nI (j + 1 + 1)) := hK'
      dsimp only
      rw [nI_1]
      refine ⟨fun q => ?_, fun q => ?_⟩
      · have q : cnt (m 1) P (j + 1) ≤ cnt (m 1) P (hvq (cnt (m 1) P) j) := q
        rw [if_pos q] at hK'; exact hK'
      · have q : ¬ cnt (m 1) P (j + 1) ≤ cnt (m 1) P (hvq (cnt (m 1) P) j) := q
        rw [if_neg q] at hK'; exact hK'
    · intro K'
      exact ⟨fun _ => ⟨rfl, hR.se (fun j hj => ho j (by omega)) (SM.rf m)⟩, fun z => absurd (show nI 8 ≤ nI 8 from nI_le (Nat.le_refl 8) (by decide)) z⟩
  refine lp_inv 8 (fun j x => x.2.2 = nI j ∧ ((j = 0 ∧ x.1 = 0 ∧ x.2.1 = -1) ∨ (0 < j ∧ x.1 = nI (hvq (cnt (m 1) P) (j - 1)) ∧ x.2.1 = cnt (m 1) P (hvq (cnt (m 1) P) (j - 1))))) ⟨rfl, Or.inl ⟨rfl, rfl, rfl⟩⟩ ?_ ?_
  · rintro j ⟨x2, x3, x4⟩ K hj ⟨e1, e2⟩ hK
    have e1 : x4 = nI j := e1
    subst e1
    dsimp only at e2
    refine ⟨fun z => absurd z (lt_nle (N := 8) hj (by decide)), fun _ => c_spread hs bP hj _ ?_⟩
    rw [cnt_sS hW hj]
    dsimp only
    rw [nI_1]
    rcases e2 with ⟨q1, q2, q3⟩ | ⟨q1, q2, q3⟩
    · subst q1
      have hp := cnt_pos hW (q := 0) (by decide)
      have l1 : ((-1 : Int32)).toInt = -1 := rfl
      refine ⟨fun z => absurd z (by rw [q3, fa_le, l1]; omega), fun _ => hK _ ⟨rfl, Or.inr ⟨by omega, rfl, rfl⟩⟩⟩
    · obtain ⟨i, rfl⟩ : ∃ i, j = i + 1 := ⟨j - 1, by omega⟩
      have e : hvq (cnt (m 1) P) (i + 1 + 1 - 1) = if cnt (m 1) P (i + 1) ≤ cnt (m 1) P (hvq (cnt (m 1) P) i) then hvq (cnt (m 1) P) i else i + 1 := rfl
      rw [show i + 1 - 1 = i by omega] at q2 q3
      refine ⟨fun z => hK _ ⟨rfl, Or.inr ⟨by omega, ?_, ?_⟩⟩, fun z => hK _ ⟨rfl, Or.inr ⟨by omega, ?_, ?_⟩⟩⟩
      · rw [q3] at z; rw [e, if_pos z]; exact q2
      · rw [q3] at z; rw [e, if_pos z]; exact q3
      · rw [q3] at z; rw [e, if_neg z]
      · rw [q3] at z; rw [e, if_neg z]
  · rintro ⟨x2, x3, x4⟩ K ⟨e1, e2⟩
    have e1 : x4 = nI 8 := e1
    subst e1
    dsimp only at e2
    rcases e2 with ⟨q1, -⟩ | ⟨-, q2, -⟩
    · exact absurd q1 (by decide)
    · refine ⟨fun _ => ?_, fun z => absurd (show nI 8 ≤ nI 8 from nI_le (Nat.le_refl 8) (by decide)) z⟩
      dsimp only
      rw [q2]
      exact fin
