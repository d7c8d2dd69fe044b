def jnS (S : Nat → Nat → Int32) (W : Nat → Int32) (P : Nat) (v : Int32) (j : Nat) : Nat → Nat → Int32 := fun p q => if p = P ∧ q < j then zz_min v (W q) else S p q
theorem SC.more {c : zz_H} {S : Nat → Nat → Int32} {W O : Nat → Int32} {P : Nat} (h : SC c S W O P) : SC (zz_st c 25 (upd (c 25) 3 (nI (P + 1)))) S W O (P + 1) := by
  obtain ⟨h1, h2, h3, h4, h5, h6, h7, h8, h9⟩ := h
  have f : ∀ k, k ≠ 25 → zz_st c 25 (upd (c 25) 3 (nI (P + 1))) k = c k := fun k hk => zz_st_ne _ _ hk
  refine ⟨?_, ?_, ?_, ?_, ?_, fun i hi => ?_, fun p q hp hq => ?_, fun p hp => ?_, fun p q a b d => h9 p q (by omega) b d⟩
  · rw [zz_st_self, pk_us]
  · rw [zz_st_self, pk_un (by decide)]; exact h2
  · rw [zz_st_self, pk_un (by decide)]; exact h3
  · rw [zz_st_self, pk_un (by decide)]; exact h4
  · rw [zz_st_self, pk_un (by decide)]; exact h5
  · rw [f _ (by decide)]; exact h6 i hi
  · rw [f _ (by decide)]; exact h7 p q hp hq
  · rw [f _ (by decide)]; exact h8 p hp
theorem c_join {c : zz_H} {S : Nat → Nat → Int32} {W O : Nat → Int32} {P : Nat} (h : SC c S W O P) (hP : P < 12) (v : Int32) (post : Int32 → zz_H → Prop) (k : ∀ c', OS c c' → SC c' (jnS S W P v 8) W O (P + 1) → post 0 c') : wX1_join v c post := by
  unfold wX1_join
  rw [sto_eq, h.1, nI_1]
  have ho : OS c (zz_st c 25 (upd (c 25) 3 (nI (P + 1)))) := (OS.rf c).st (by omega) _
  have h0 := h.more
  have e25 := h.1
  generalize zz_st c 25 (upd (c 25) 3 (nI (P + 1))) = d at ho h0
  refine lp_inv 8 (fun j z => z.1 = nI j ∧ OS c z.2 ∧ SC z.2 (jnS S W P v j) W O (P + 1)) ⟨rfl, ho, h0.ext (fun p q' hp hq' => if_neg (by omega))⟩ ?_ ?_
  · rintro j ⟨x, e⟩ K hj ⟨e1, ho, hs⟩ hK
    dsimp only at e1 ho hs
    subst e1
    refine ⟨fun z => absurd z (lt_nle (N := 8) hj (by decide)), fun _ => ⟨in_nI hj (by decide), ?_⟩⟩
    dsimp only
    rw [e25, nI_clamp (by omega), hs.2.2.2.2.2.1 j hj]
    refine c_setScore hs (by omega) (by omega) hj _ _ (fun c' f hs' => hK _ ⟨nI_1 j, fun i hi => ?_, hs'.ext (fun p q' hp hq' => ?_)⟩)
    · dsimp only
      rw [f i (by omega) (by omega) (by omega)]; exact ho i hi
    · rw [upS_at]
      unfold jnS
      by_cases e : p = P ∧ q' = j
      · rw [if_pos e, if_pos (by omega), e.2]
      · rw [if_neg e]
        by_cases e2 : p = P ∧ q' < j
        · rw [if_pos e2, if_pos (by omega)]
        · rw [if_neg e2, if_neg (by omega)]
  · rintro ⟨x, e⟩ K ⟨e1, ho, hs⟩
    dsimp only at e1 ho hs
    subst e1
    exact ⟨fun _ => k _ ho hs, fun z => absurd (show nI 8 ≤ nI 8 from nI_le (Nat.le_refl 8) (by decide)) z⟩
def mvS (s : Nat → Int32) (P : Nat) (v : Int32) : Nat → (Nat → Int32)
  | 0 => nP s P 0
  | q + 1 => upd (upd (mvS s P v q) (20 + 17 * P + 8 * 0 + q) (zz_min v (s q))) (20 + 17 * P + 8 * 1 + q) (zz_min v (s q))
theorem mv_ne (s : Nat → Int32) (P : Nat) (v : Int32) {i : Nat} (hi : i < 20 + 17 * P ∨ 36 + 17 * P ≤ i) : ∀ j, j ≤ 8 → mvS s P v j i = nP s P 0 i
  | 0, _ => rfl
  | j + 1, h => by
    show upd (upd (mvS s P v j) (20 + 17 * P + 8 * 0 + j) _) (20 + 17 * P + 8 * 1 + j) _ i = _
    rw [pk_un (by omega), pk_un (by omega)]
    exact mv_ne s P v hi j (by omega)
theorem mv_at (s : Nat → Int32) (P : Nat) (v : Int32) {q k : Nat} (hk : k < 2) : ∀ j, j ≤ 8 → q < j → mvS s P v j (20 + 17 * P + 8 * k + q) = zz_min v (s q)
  | 0, _, h => absurd h (by omega)
  | j + 1, hj, h => by
    show upd (upd (mvS s P v j) (20 + 17 * P + 8 * 0 + j) _) (20 + 17 * P + 8 * 1 + j) _ (20 + 17 * P + 8 * k + q) = _
    by_cases e : q = j
    · subst e
      rcases (show k = 0 ∨ k = 1 by omega) with rfl | rfl
      · rw [pk_un (by omega), pk_us]
      · rw [pk_us]
    · rw [pk_un (by omega), pk_un (by omega)]
      exact mv_at s P v hk j (by omega) (by omega)
theorem min_zb' {x v : Int32} {B : Int} (hv : zb v 0 B) (hx : 0 ≤ x.toInt) : zb (zz_min v x) 0 x.toInt := by
  obtain ⟨h1, h2⟩ := hv
  unfold zb
  rw [min_toInt]
  omega
theorem mv_wf {s : Nat → Int32} {P C : Nat} (h : WF s P C) (hP : P < 12) {v : Int32} (hv : zb v 0 40) : ∀ j, j ≤ 8 → WF (mvS s P v j) (P + 1) C
  | 0, _ => h.newP hP ⟨by decide, by decide⟩
  | j + 1, hj => by
    have ih := mv_wf h hP hv j (by omega)
    have e : mvS s P v j j = s j := by rw [mv_ne s P v (by omega) j (by omega), nP_ne (by omega) (by omega)]
    have z : zb (zz_min v (s j)) 0 (s j).toInt := min_zb' hv (h.2.2.2.2.1 j (by omega)).1
    have i2 := ih.point (p0 := P) (q0 := j) (k0 := 0) (v := zz_min v (s j)) (by omega) (by omega) (by decide) (by rw [e]; exact z)
    refine i2.point (by omega) (by omega) (by decide) ?_
    rw [pk_un (by omega), e]
    exact z
theorem dbl {x : Int32} (h : zb x 0 40) : (x + x) / 2 = x := by
  obtain ⟨a, ha, rfl⟩ := zb_nI (n := 40) h
  rw [nI_add]
  show nI (a + a) / nI 2 = _
  rw [pk_div (by omega) (by decide) (by decide)]
  congr 1
  omega
theorem moves_mk {s : Nat → Int32} {P C p : Nat} (hW : WF s P C) (hP : P < 12) {v : Int32} (hv : zb v 0 40) (hp : p < P + 1) (kd : Int32) {b : Int32} (hb : zb b 0 100) : mkS (jnS (sS s P) s P v 8) s (fun i => s (8 + i)) (P + 1) kd b p = MK (mvS s P v 8) (P + 1) kd b p := by
  refine mkS_congr (fun p' q' hp' hq' => ?_) (fun q' hq' => ?_) (fun q' hq' => ?_) hp kd hb
  · unfold jnS sS sc
    by_cases e : p' = P
    · subst e
      rw [if_pos ⟨rfl, hq'⟩]
      have h0 := mv_at s p' v (k := 0) (by decide) 8 (Nat.le_refl 8) hq'
      have h1 := mv_at s p' v (k := 1) (by decide) 8 (Nat.le_refl 8) hq'
      rw [show 20 + 17 * p' + 8 * 0 + q' = 20 + 17 * p' + q' by omega] at h0
      rw [show 20 + 17 * p' + 8 * 1 + q' = 28 + 17 * p' + q' by omega] at h1
      rw [h0, h1]
      have z := hW.2.2.2.2.1 q' hq'
      have z2 : zb (zz_min v (s q')) 0 (s q').toInt := min_zb' hv z.1
      exact (dbl ⟨z2.1, by have := z.2; have := z2.2; omega⟩).symm
    · rw [if_neg (by omega), if_pos (by omega), mv_ne s P v (by omega) 8 (Nat.le_refl 8), mv_ne s P v (by omega) 8 (Nat.le_refl 8), nP_ne (by omega) (by omega), nP_ne (by omega) (by omega)]
  · rw [mv_ne s P v (by omega) 8 (Nat.le_refl 8), nP_ne (by omega) (by omega)]
  · show s (8 + q') = _
    rw [mv_ne s P v (by omega) 8 (Nat.le_refl 8), nP_ne (by omega) (by omega)]
theorem m_moveSet {m m1 : zz_H} {P C : Nat} (hW : WF (m 1) P C) (hP : P < 12) {v : Int32} (hv : zb v 0 40) (u : Int32) (post : Int32 → zz_H → Prop) {h6 : zz_H} (e6 : h6 = zz_st m1 1 (nP (m 1) P 0)) (k : wX5_moves_j140 u post m1 (zz_st m1 1 (mvS (m 1) P v 8))) : ∃ t9, zz_lp (fun K (s : Int32 × zz_H) => wX5_moves_b69 u v post m1 (nI P) K s.1 s.2) t9 (0, h6) := by
  subst e6
  refine lp_for 8 (fun j => (nI j, zz_st m1 1 (mvS (m 1) P v j))) ?_ ?_
  · intro j hj K hK
    have hK : K (nI (j + 1), zz_st m1 1 (upd (upd (mvS (m 1) P v j) (20 + 17 * P + 8 * 0 + j) (zz_min v (m 1 j))) (20 + 17 * P + 8 * 1 + j) (zz_min v (m 1 j)))) := hK
    have e : mvS (m 1) P v j j = m 1 j := by rw [mv_ne (m 1) P v (by omega) j (by omega), nP_ne (by omega) (by omega)]
    generalize mvS (m 1) P v j = y at hK e ⊢
    refine ⟨fun z => absurd z (lt_nle (N := 8) hj (by decide)), fun _ => ?_⟩
    dsimp only
    rw [ix_0, nI_clamp (by omega), zz_st_self, e]
    have v1 : vp_in (nI j) 245 := in_nI (by omega) (by decide)
    have lf : ∀ w, w = zz_min v (m 1 j) → wX5_moves_j102 (nI P) (nI j) (zz_st m1 1 y) K w := by
      intro w hw
      unfold wX5_moves_j102
      simp only [at_eq, sto_eq]
      rw [ix_a0, ix_a1, nI_clamp (by omega), nI_clamp (by omega), zz_st_self, st_st, zz_st_self, st_st, nI_1, hw]
      exact ⟨in_nI (by omega) (by decide), in_nI (by omega) (by decide), hK⟩
    unfold zz_min at lf
    refine ⟨v1, fun z => lf _ ?_, fun z => ⟨v1, lf _ ?_⟩⟩
    · rw [if_neg (fun w => (fa_of_lt w).2.1 z)]
    · rw [if_pos (fa_of_nle z)]
  · intro K
    exact ⟨fun _ => k, fun z => absurd (show nI 8 ≤ nI 8 from nI_le (Nat.le_refl 8) (by decide)) z⟩
set_option maxRecDepth 20000 in
set_option maxHeartbeats 4000000 in
theorem op_moves {c m : zz_H} (hR : Rel c m) (p1 : Int32) (p2 : Int32) : wX4_moves p1 p2 c (fun r c' => wX5_moves p1 p2 m (fun r' m' => r = r' ∧ Rel c' m')) := by
  obtain ⟨⟨P, C, hW, hM⟩, hK, hF, hT, hS⟩ := id hR
  have eP : c 1 7 = nI P := hM.1
  have eC : c 1 8 = nI C := hM.2.1
  have eP' : m 1 17 = nI P := hW.1
  have eC' : m 1 18 = nI C := hW.2.2.1
  have bP : P ≤ 12 := hW.2.1
  have bC : C ≤ 6 := hW.2.2.2.1
  unfold wX4_moves wX5_moves 
  by_cases h0 : (0 : Int32) ≤ p1 ∧ p1 ≤ nI C - 1
  case neg =>
    simp only [tell0, tell1, tell2, tell3, tell4, tell5, tell6, finds0, finds1, finds2, finds3, finds4, finds5, finds6, c_isQuestion, c_isMarker, c_isKind, c_isBy, c_isLine, c_isSpot, c_isSheet, c_isPupil, c_isCurve, m_isQuestion, m_isLine, m_isOne, m_isPupil, m_isCurve, within_eq, in_eq, wl_ge0, wl_ge1, wl_le1, wl_le3, wl_le4, wl_le5, wl_le6, wl_le7, wl_le9, wl_le12, wl_le40, wl_le100, wl_le400, wl_gem1, wl_ww, zz_10, not_false_eq_true, not_true_eq_false, true_and, and_true, false_implies, true_implies, forall_const, eP, eC, eP', eC', if_neg h0]
    exact hR.find (i := 0) (by decide)
  by_cases h1 : (0 : Int32) ≤ p2 ∧ p2 ≤ 40
  case neg =>
    simp only [tell0, tell1, tell2, tell3, tell4, tell5, tell6, finds0, finds1, finds2, finds3, finds4, finds5, finds6, c_isQuestion, c_isMarker, c_isKind, c_isBy, c_isLine, c_isSpot, c_isSheet, c_isPupil, c_isCurve, m_isQuestion, m_isLine, m_isOne, m_isPupil, m_isCurve, within_eq, in_eq, wl_ge0, wl_ge1, wl_le1, wl_le3, wl_le4, wl_le5, wl_le6, wl_le7, wl_le9, wl_le12, wl_le40, wl_le100, wl_le400, wl_gem1, wl_ww, zz_10, not_false_eq_true, not_true_eq_false, true_and, and_true, false_implies, true_implies, forall_const, eP, eC, eP', eC', if_pos h0, if_neg h1]
    exact hR.find (i := 0) (by decide)
  simp only [tell0, tell1, tell2, tell3, tell4, tell5, tell6, finds0, finds1, finds2, finds3, finds4, finds5, finds6, c_isQuestion, c_isMarker, c_isKind, c_isBy, c_isLine, c_isSpot, c_isSheet, c_isPupil, c_isCurve, m_isQuestion, m_isLine, m_isOne, m_isPupil, m_isCurve, within_eq, in_eq, wl_ge0, wl_ge1, wl_le1, wl_le3, wl_le4, wl_le5, wl_le6, wl_le7, wl_le9, wl_le12, wl_le40, wl_le100, wl_le400, wl_gem1, wl_ww, zz_10, not_false_eq_true, not_true_eq_false, true_and, and_true, false_implies, true_implies, forall_const, eP, eC, eP', eC', if_pos h0, if_pos h1]
  by_cases hP : P = 12
  · subst hP
    refine ⟨fun h => absurd h (by decide), fun _ => ⟨fun h => absurd rfl h, fun _ => hR.find (i := 4) (by decide)⟩⟩
  have hP : P < 12 := by omega
  refine ⟨fun _ => ?_, fun h => absurd (nI_lt (a := P) (b := 12) (by omega) (by decide)) h⟩
  obtain ⟨u, hu, rfl⟩ := idx_of (by omega) h0
  have hv : zb p2 0 40 := rng_zb h1 rfl rfl
  have hb := (hW.2.2.2.2.2.2.2.2.1 u hu).2
  refine c_work hW hM hu _ (fun c1 hse hcv hsc => c_join hsc hP p2 _ (fun c2 hos hs2 => ?_))
  have f6 : c2 6 u = m 1 (223 + 2 * u) := by rw [hos 6 (by omega), hse 6 (by omega)]; exact (hM.2.2.2.2.2.2.2.1 u hu).1
  have f7 : c2 7 u = m 1 (224 + 2 * u) := by rw [hos 7 (by omega), hse 7 (by omega)]; exact (hM.2.2.2.2.2.2.2.1 u hu).2
  rw [nI_clamp (show u < 2 ^ 31 by omega), f6, f7]
  have hw' : WF (mvS (m 1) P p2 8) (P + 1) C := mv_wf hW hP hv 8 (Nat.le_refl 8)
  have ok : OK (jnS (sS (m 1) P) (m 1) P p2 8) (m 1) (P + 1) := by
    refine ⟨by omega, hW.2.2.2.2.1, fun p i hp hi => ?_⟩
    unfold jnS
    by_cases e : p = P
    · rw [if_pos ⟨e, hi⟩]
      exact min_zb' hv (hW.2.2.2.2.1 i hi).1
    · rw [if_neg (by omega)]; exact (sS_ok hW.ok).2.2 p i (by omega) hi
  refine ⟨in_nI (by omega) (by decide), in_nI (by omega) (by decide), c_markAll hs2 ok _ hb (by decide) _ (fun g hg => ?_)⟩
  have hg2 : ∀ p, p < P → g p = MK (mvS (m 1) P p2 8) (P + 1) (m 1 (223 + 2 * u)) (m 1 (224 + 2 * u)) p := fun p hp => (hg p (by omega)).trans (moves_mk hW hP hv (by omega) _ hb)
  have hsc3 : SE c (zz_st c2 33 g) := fun k hk => by
    rw [zz_st_ne _ _ (by omega), hos k (by omega)]
    exact hse k hk
  have e17 : zz_st c2 33 g 1 7 = nI P := by rw [zz_st_ne _ _ (by decide), hos 1 (by omega)]; exact hcv.1
  have e33 : zz_st c2 33 g 33 = g := zz_st_self _ _ _
  have e32 : ∀ p, p < P → zz_st c2 33 g 32 p = MK (m 1) P (m 1 (223 + 2 * u)) (m 1 (224 + 2 * u)) p := fun p hp => by
    rw [zz_st_ne _ _ (by decide), hos 32 (by omega)]
    exact hcv.2.2.1 p hp
  generalize zz_st c2 33 g = c3 at hsc3 e17 e33 e32 ⊢
  have ew : ∀ i, i ≠ 17 → (i < 19 + 17 * P ∨ 223 ≤ i) → mvS (m 1) P p2 8 i = m 1 i := fun i h17 hi => by rw [mv_ne _ _ _ (by omega) 8 (Nat.le_refl 8), nP_ne h17 (by omega)]
  have md : ∀ post : Int32 → zz_H → Prop, (∀ m', Rel c3 m' → post (cbB (fun p => decide (¬ MK (mvS (m 1) P p2 8) (P + 1) (m 1 (223 + 2 * u)) (m 1 (224 + 2 * u)) p = MK (m 1) P (m 1 (223 + 2 * u)) (m 1 (224 + 2 * u)) p)) P) m') → wX5_findMarks (nI u) m (fun _ h5 => wX5_newPupil 0 h5 (fun r7 h6 => ∃ t9, zz_lp (fun K (s : Int32 × zz_H) => wX5_moves_b69 (nI u) p2 post h5 r7 K s.1 s.2) t9 (0, h6))) := by
    intro post kx
    refine m_find hW hu _ (fun m1 hsm hmv => ?_)
    have b17 : m1 1 17 = nI P := by rw [hmv.1]; exact eP'
    refine m_newPupil b17 hP _ _ (m_moveSet hW hP hv _ _ (by rw [hmv.1]) ?_)
    unfold wX5_moves_j140
    have b223 : mvS (m 1) P p2 8 (223 + 2 * u) = m 1 (223 + 2 * u) := ew _ (by omega) (by omega)
    have b224 : mvS (m 1) P p2 8 (224 + 2 * u) = m 1 (224 + 2 * u) := ew _ (by omega) (by omega)
    have b5 := hmv.2.2.2
    generalize mvS (m 1) P p2 8 = s' at hw' ew kx b223 b224 ⊢
    refine lp_for P (fun j => (cbB (fun p => decide (¬ MK s' (P + 1) (m 1 (223 + 2 * u)) (m 1 (224 + 2 * u)) p = MK (m 1) P (m 1 (223 + 2 * u)) (m 1 (224 + 2 * u)) p)) j, nI j)) ?_ ?_
    · intro j hj K hK
      have hK : K (if decide (¬ MK s' (P + 1) (m 1 (223 + 2 * u)) (m 1 (224 + 2 * u)) j = MK (m 1) P (m 1 (223 + 2 * u)) (m 1 (224 + 2 * u)) j) then cbB (fun p => decide (¬ MK s' (P + 1) (m 1 (223 + 2 * u)) (m 1 (224 + 2 * u)) p = MK (m 1) P (m 1 (223 + 2 * u)) (m 1 (224 + 2 * u)) p)) j ||| (1 <<< (nI j &&& 31)) else cbB (fun p => decide (¬ MK s' (P + 1) (m 1 (223 + 2 * u)) (m 1 (224 + 2 * u)) p = MK (m 1) P (m 1 (223 + 2 * u)) (m 1 (224 + 2 * u)) p)) j, nI (j + 1)) := hK
      generalize cbB (fun p => decide (¬ MK s' (P + 1) (m 1 (223 + 2 * u)) (m 1 (224 + 2 * u)) p = MK (m 1) P (m 1 (223 + 2 * u)) (m 1 (224 + 2 * u)) p)) j = z at hK ⊢
      refine ⟨fun w => absurd (show nI P ≤ nI j from b17 ▸ w) (lt_nle hj (by omega)), fun _ => ?_⟩
      refine m_markOf (P := P + 1) (by rw [zz_st_self]; exact hw') hu (by omega) _ ?_
      rw [zz_st_self, zz_st_ne _ _ (show 5 ≠ 1 by decide), nI_clamp (by omega), b5 j hj, b223, b224]
      refine ⟨in_nI (by omega) (by decide), fun w => ?_, fun w => ?_⟩
      · have w : ¬ MK s' (P + 1) (m 1 (223 + 2 * u)) (m 1 (224 + 2 * u)) j = MK (m 1) P (m 1 (223 + 2 * u)) (m 1 (224 + 2 * u)) j := w
        rw [if_pos (decide_eq_true w)] at hK
        dsimp only
        rw [nI_1]; exact hK
      · have w : MK s' (P + 1) (m 1 (223 + 2 * u)) (m 1 (224 + 2 * u)) j = MK (m 1) P (m 1 (223 + 2 * u)) (m 1 (224 + 2 * u)) j := w
        rw [if_neg (by simpa using w)] at hK
        dsimp only
        rw [nI_1, Int32.or_zero]; exact hK
    · intro K
      refine ⟨fun _ => ?_, fun w => absurd (show m1 1 17 ≤ nI P from b17 ▸ nI_le (Nat.le_refl P) (by omega)) w⟩
      unfold wX5_moves_j188
      rw [sto_eq, st_st, zz_st_self]
      refine kx _ (hR.aside hW hM hsc3 (fun k n1 n3 n5 n10 => ?_) (fun i hi => ?_))
      · rw [zz_st_ne _ _ n1]; exact hsm k n3 n5 n10
      · rw [zz_st_self]
        by_cases e : i = 17
        · subst e
          rw [pk_us, hw'.1, show nI (P + 1) - 1 = nI P from nI_pred P]
          exact eP'.symm
        · rw [pk_un e]; exact ew i e (by omega)
  refine lp_for P (fun j => (cbB (fun p => decide (¬ MK (mvS (m 1) P p2 8) (P + 1) (m 1 (223 + 2 * u)) (m 1 (224 + 2 * u)) p = MK (m 1) P (m 1 (223 + 2 * u)) (m 1 (224 + 2 * u)) p)) j, nI j)) ?_ ?_
  · intro j hj K hK
    have hK : K (if decide (¬ MK (mvS (m 1) P p2 8) (P + 1) (m 1 (223 + 2 * u)) (m 1 (224 + 2 * u)) j = MK (m 1) P (m 1 (223 + 2 * u)) (m 1 (224 + 2 * u)) j) then cbB (fun p => decide (¬ MK (mvS (m 1) P p2 8) (P + 1) (m 1 (223 + 2 * u)) (m 1 (224 + 2 * u)) p = MK (m 1) P (m 1 (223 + 2 * u)) (m 1 (224 + 2 * u)) p)) j ||| (1 <<< (nI j &&& 31)) else cbB (fun p => decide (¬ MK (mvS (m 1) P p2 8) (P + 1) (m 1 (223 + 2 * u)) (m 1 (224 + 2 * u)) p = MK (m 1) P (m 1 (223 + 2 * u)) (m 1 (224 + 2 * u)) p)) j, nI (j + 1)) := hK
    generalize cbB (fun p => decide (¬ MK (mvS (m 1) P p2 8) (P + 1) (m 1 (223 + 2 * u)) (m 1 (224 + 2 * u)) p = MK (m 1) P (m 1 (223 + 2 * u)) (m 1 (224 + 2 * u)) p)) j = z at hK ⊢
    dsimp only
    unfold wX4_moves_b91
    rw [e17, nI_clamp (by omega), e33, hg2 j hj, e32 j hj, nI_1]
    have v1 : vp_in (nI j) 12 := in_nI (by omega) (by decide)
    refine ⟨fun w => absurd w (lt_nle hj (by omega)), fun _ => ⟨v1, v1, fun w => ?_, fun w => ?_⟩⟩
    · rw [if_neg (by simpa using w)] at hK; exact hK
    · rw [if_pos (decide_eq_true w)] at hK; exact hK
  · intro K
    dsimp only
    unfold wX4_moves_b91
    rw [e17]
    refine ⟨fun _ => ⟨fun _ => ?_, fun h => absurd ((nI_eq (a := P) (b := 12) (by omega) (by decide)).mp h) (by omega)⟩, fun w => absurd (nI_le (Nat.le_refl P) (by omega)) w⟩
    exact md _ (fun m' hr => ⟨rfl, hr⟩)
