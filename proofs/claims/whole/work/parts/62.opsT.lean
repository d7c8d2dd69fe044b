/-! a question struck, a pupil joined -/
theorem WF.extP {s s' : Nat → Int32} {P C : Nat} (h : WF s P C) (e : ∀ i, (i < 19 + 17 * P ∨ 223 ≤ i ∧ i < 245) → s' i = s i) : WF s' P C := by
  obtain ⟨h1, h2, h3, h4, h5, h6, h7, h8, h9, h10⟩ := h
  refine ⟨by rw [e _ (by omega)]; exact h1, h2, by rw [e _ (by omega)]; exact h3, h4, fun q hq => ?_, fun q hq => ?_, fun p hp => ?_, fun p q k hp hq hk => ?_, fun k hk => ?_, fun k hk => ?_⟩
  · rw [e _ (by omega)]; exact h5 q hq
  · rw [e _ (by omega)]; exact h6 q hq
  · rw [e _ (by omega)]; exact h7 p hp
  · rw [e _ (by omega), e _ (by omega)]; exact h8 p q k hp hq hk
  · rw [e _ (by omega), e _ (by omega)]; exact h9 k hk
  · rw [e _ (by omega)]; exact h10 k hk
theorem PM.extP {c : zz_H} {a : Nat} {s s' : Nat → Int32} {P C : Nat} (h : PM c a s P C) (bC : C ≤ 6) (e : ∀ i, (i < 19 + 17 * P ∨ 223 ≤ i ∧ i < 245) → s' i = s i) : PM c a s' P C := by
  obtain ⟨h1, h2, h3, h4, h5, h6, h7, h8, h9⟩ := h
  refine ⟨h1, h2, ?_, fun q hq => ?_, fun q hq => ?_, fun p hp => ?_, fun p q k hp hq hk => ?_, fun k hk => ?_, fun k hk => ?_⟩
  · rw [e _ (by omega)]; exact h3
  · rw [e _ (by omega)]; exact h4 q hq
  · rw [e _ (by omega)]; exact h5 q hq
  · rw [e _ (by omega)]; exact h6 p hp
  · rw [e _ (by omega)]; exact h7 p q k hp hq hk
  · rw [e _ (by omega), e _ (by omega)]; exact h8 k hk
  · rw [e _ (by omega)]; exact h9 k hk
/-- the reference's paper may change where no pupil is -/
theorem Rel.aside {c c' m m' : zz_H} {P C : Nat} (hR : Rel c m) (hW : WF (m 1) P C) (hM : PM c 1 (m 1) P C) (hse : SE c c') (f : ∀ k, k ≠ 1 → k ≠ 3 → k ≠ 5 → k ≠ 10 → m' k = m k) (e : ∀ i, (i < 19 + 17 * P ∨ 223 ≤ i ∧ i < 245) → m' 1 i = m 1 i) : Rel c' m' := by
  have h1 := hR.paper (c' := c) (hW.extP e) (hM.extP hW.2.2.2.1 e) (fun _ _ => rfl)
  refine h1.se hse (fun k h3 h5 h10 => ?_)
  by_cases ek : k = 1
  · subst ek; rw [zz_st_self]
  · rw [zz_st_ne _ _ ek]; exact f k ek h3 h5 h10
def zqS (S : Nat → Nat → Int32) (q P : Nat) : Nat → Nat → Int32 := fun p q' => if p < P ∧ q' = q then 0 else S p q'
theorem SC.weigh {c : zz_H} {S : Nat → Nat → Int32} {W O : Nat → Int32} {P q : Nat} (h : SC c S W O P) (hq : q < 8) (v : Int32) {x : Int32} (hx : x = fullW W + (v - W q)) : SC (zz_st (zz_st c 25 (upd (c 25) 4 x)) 26 (upd (c 26) q v)) S (upd W q v) O P := by
  obtain ⟨h1, h2, h3, h4, h5, h6, h7, h8, h9⟩ := h
  have f25 : zz_st (zz_st c 25 (upd (c 25) 4 x)) 26 (upd (c 26) q v) 25 = upd (c 25) 4 x := by rw [zz_st_ne _ _ (by decide), zz_st_self]
  refine ⟨?_, ?_, ?_, ?_, ?_, fun i hi => ?_, fun p q hp hq => ?_, fun p hp => ?_, h9⟩
  · rw [f25, pk_un (by decide)]; exact h1
  · rw [f25, pk_us, hx]
    exact (zsum_upd W v hq).symm
  · rw [f25, pk_un (by decide)]; exact h3
  · rw [f25, pk_un (by decide)]; exact h4
  · rw [f25, pk_un (by decide)]; exact h5
  · rw [zz_st_self]
    by_cases e : i = q
    · subst e; rw [pk_us, pk_us]
    · rw [pk_un e, pk_un e]; exact h6 i hi
  · rw [zz_st_ne _ _ (by decide), zz_st_ne _ _ (by decide)]; exact h7 p q hp hq
  · rw [zz_st_ne _ _ (by decide), zz_st_ne _ _ (by decide)]; exact h8 p hp
theorem c_strike {c : zz_H} {S : Nat → Nat → Int32} {W O : Nat → Int32} {P q : Nat} (h : SC c S W O P) (hP : P ≤ 12) (hq : q < 8) (post : Int32 → zz_H → Prop) (k : ∀ c', OS c c' → SC c' (zqS S q P) (upd W q 0) O P → post 0 c') : wX1_strike (nI q) c post := by
  unfold wX1_strike
  have v1 : vp_in (nI q) 8 := in_nI hq (by decide)
  rw [sto_eq, sto_eq, nI_clamp (by omega), zz_st_ne _ _ (show 26 ≠ 25 by decide)]
  refine ⟨v1, v1, ?_⟩
  have h0 := h.weigh hq 0 (x := c 25 4 - c 26 q) (by rw [h.2.1, h.2.2.2.2.2.1 q hq]; grind)
  have ho : OS c (zz_st (zz_st c 25 (upd (c 25) 4 (c 25 4 - c 26 q))) 26 (upd (c 26) q 0)) := ((OS.rf c).st (by omega) _).st (by omega) _
  generalize zz_st (zz_st c 25 (upd (c 25) 4 (c 25 4 - c 26 q))) 26 (upd (c 26) q 0) = d at h0 ho
  refine lp_inv P (fun j z => z.1 = nI j ∧ OS c z.2 ∧ SC z.2 (zqS S q j) (upd W q 0) O P) ⟨rfl, ho, h0.ext (fun p q' hp hq' => if_neg (by omega))⟩ ?_ ?_
  · rintro j ⟨x, e⟩ K hj ⟨e1, ho, hs⟩ hK
    dsimp only at e1 ho hs
    subst e1
    refine ⟨fun z => absurd (show nI P ≤ nI j from hs.1 ▸ z) (lt_nle hj (by omega)), fun _ => ?_⟩
    refine c_setScore hs hP hj hq 0 _ (fun c' f hs' => hK _ ⟨nI_1 j, fun i hi => ?_, hs'.ext (fun p q' hp hq' => ?_)⟩)
    · dsimp only
      rw [f i (by omega) (by omega) (by omega)]; exact ho i hi
    · rw [upS_at]
      unfold zqS
      by_cases e : p = j ∧ q' = q
      · rw [if_pos e, if_pos (by omega)]
      · rw [if_neg e]
        by_cases e2 : p < j ∧ q' = q
        · rw [if_pos e2, if_pos (by omega)]
        · rw [if_neg e2, if_neg (by omega)]
  · rintro ⟨x, e⟩ K ⟨e1, ho, hs⟩
    dsimp only at e1 ho hs
    subst e1
    exact ⟨fun _ => k _ ho hs, fun z => absurd (show e 25 3 ≤ nI P from hs.1 ▸ nI_le (Nat.le_refl P) (by omega)) z⟩
theorem m_puts {m : zz_H} (post : Int32 → zz_H → Prop) (k : post 0 (zz_st m 3 (cp (m 1) (m 3) 245))) : wX5_puts m post := by
  unfold wX5_puts
  have this := lp_for (b := fun K (s : Int32 × zz_H) => wX5_puts_b2 post K s.1 s.2) 245 (fun j => (nI j, zz_st m 3 (cp (m 1) (m 3) j))) ?_ ?_
  · have e : zz_st m 3 (cp (m 1) (m 3) 0) = m := st_id m 3
    rw [e] at this
    exact this
  · intro j hj K hK
    refine ⟨fun q => absurd q (lt_nle (N := 245) hj (by decide)), fun _ => ⟨in_nI hj (by decide), in_nI hj (by decide), ?_⟩⟩
    dsimp only
    rw [sto_eq, zz_st_self, zz_st_ne _ _ (by decide), nI_clamp (by omega), st_st, nI_1]
    exact hK
  · intro K
    exact ⟨fun _ => k, fun z => absurd (show nI 245 ≤ nI 245 from nI_le (Nat.le_refl 245) (by decide)) z⟩
theorem m_putsBack {m : zz_H} (post : Int32 → zz_H → Prop) (k : post 0 (zz_st m 1 (cp (m 3) (m 1) 245))) : wX5_putsBack m post := by
  unfold wX5_putsBack
  have this := lp_for (b := fun K (s : Int32 × zz_H) => wX5_putsBack_b2 post K s.1 s.2) 245 (fun j => (nI j, zz_st m 1 (cp (m 3) (m 1) j))) ?_ ?_
  · have e : zz_st m 1 (cp (m 3) (m 1) 0) = m := st_id m 1
    rw [e] at this
    exact this
  · intro j hj K hK
    refine ⟨fun q => absurd q (lt_nle (N := 245) hj (by decide)), fun _ => ⟨in_nI hj (by decide), in_nI hj (by decide), ?_⟩⟩
    dsimp only
    rw [sto_eq, zz_st_self, zz_st_ne _ _ (by decide), nI_clamp (by omega), st_st, nI_1]
    exact hK
  · intro K
    exact ⟨fun _ => k, fun z => absurd (show nI 245 ≤ nI 245 from nI_le (Nat.le_refl 245) (by decide)) z⟩
def woS (f : Nat → Int32) : Nat → Int32 × Int32
  | 0 => (-1, 0)
  | j + 1 => if f j ≤ (woS f j).2 then woS f j else (nI j, f j)
theorem min0 {x : Int32} {B : Int} (hx : zb x 0 B) : zz_min x 0 = 0 := by
  have h := min_zb hx (v := 0) (by decide)
  rw [fa_eq]
  exact Int.le_antisymm h.2 h.1
theorem without_mk {s : Nat → Int32} {P C q p : Nat} (hW : WF s P C) (hq : q < 8) (hp : p < P) (kd : Int32) {b : Int32} (hb : zb b 0 100) : mkS (zqS (sS s P) q P) (upd s q 0) (fun i => s (8 + i)) P kd b p = MK (wpS q 0 (upd s q 0) P) P kd b p := by
  refine mkS_congr (fun p' q' hp' hq' => ?_) (fun q' hq' => ?_) (fun q' hq' => ?_) hp kd hb
  · unfold zqS sS sc
    by_cases e : q' = q
    · subst e
      rw [if_pos ⟨hp', rfl⟩]
      have h0 := wp_at (s := upd s q' 0) (v := 0) hq' (p := p') (k := 0) (by decide) hp'
      have h1 := wp_at (s := upd s q' 0) (v := 0) hq' (p := p') (k := 1) (by decide) hp'
      rw [pk_un (by omega), min0 (hW.2.2.2.2.2.2.2.1 p' q' 0 hp' hq' (by decide)), show 20 + 17 * p' + 8 * 0 + q' = 20 + 17 * p' + q' by omega] at h0
      rw [pk_un (by omega), min0 (hW.2.2.2.2.2.2.2.1 p' q' 1 hp' hq' (by decide)), show 20 + 17 * p' + 8 * 1 + q' = 28 + 17 * p' + q' by omega] at h1
      rw [h0, h1]
      decide
    · rw [if_neg (by omega), if_pos hp']
      have h0 := wp_ne (q := q) (v := 0) (s := upd s q 0) (i := 20 + 17 * p' + 8 * 0 + q') (j := P) (fun p k hp hk => ne_pt hq' hq (by decide) hk (by omega))
      have h1 := wp_ne (q := q) (v := 0) (s := upd s q 0) (i := 20 + 17 * p' + 8 * 1 + q') (j := P) (fun p k hp hk => ne_pt hq' hq (by decide) hk (by omega))
      rw [pk_un (by omega), show 20 + 17 * p' + 8 * 0 + q' = 20 + 17 * p' + q' by omega] at h0
      rw [pk_un (by omega), show 20 + 17 * p' + 8 * 1 + q' = 28 + 17 * p' + q' by omega] at h1
      rw [h0, h1]
  · exact (wp_ne (fun p k hp hk => by omega)).symm
  · show s (8 + q') = _
    rw [wp_ne (fun p k hp hk => by omega), pk_un (by omega)]
set_option maxRecDepth 20000 in
set_option maxHeartbeats 4000000 in
theorem op_without {c m : zz_H} (hR : Rel c m) (p1 : Int32) (p2 : Int32) : wX4_without p1 p2 c (fun r c' => wX5_without p1 p2 m (fun r' m' => r = r' ∧ Rel c' m')) := by
  obtain ⟨⟨P, C, hW, hM⟩, hK, hF, hT, hS⟩ := id hR
  have eP : c 1 7 = nI P := hM.1
  have eC : c 1 8 = nI C := hM.2.1
  have eP' : m 1 17 = nI P := hW.1
  have eC' : m 1 18 = nI C := hW.2.2.1
  have bP : P ≤ 12 := hW.2.1
  have bC : C ≤ 6 := hW.2.2.2.1
  unfold wX4_without wX5_without 
  by_cases h0 : (0 : Int32) ≤ p1 ∧ p1 ≤ nI C - 1
  case neg =>
    simp only [tell0, tell1, tell2, tell3, tell4, tell5, tell6, finds0, finds1, finds2, finds3, finds4, finds5, finds6, c_isQuestion, c_isMarker, c_isKind, c_isBy, c_isLine, c_isSpot, c_isSheet, c_isPupil, c_isCurve, m_isQuestion, m_isLine, m_isOne, m_isPupil, m_isCurve, within_eq, in_eq, wl_ge0, wl_ge1, wl_le1, wl_le3, wl_le4, wl_le5, wl_le6, wl_le7, wl_le9, wl_le12, wl_le40, wl_le100, wl_le400, wl_gem1, wl_ww, zz_10, not_false_eq_true, not_true_eq_false, true_and, and_true, false_implies, true_implies, forall_const, eP, eC, eP', eC', if_neg h0]
    exact hR.find (i := 0) (by decide)
  by_cases h1 : (0 : Int32) ≤ p2 ∧ p2 ≤ 7
  case neg =>
    simp only [tell0, tell1, tell2, tell3, tell4, tell5, tell6, finds0, finds1, finds2, finds3, finds4, finds5, finds6, c_isQuestion, c_isMarker, c_isKind, c_isBy, c_isLine, c_isSpot, c_isSheet, c_isPupil, c_isCurve, m_isQuestion, m_isLine, m_isOne, m_isPupil, m_isCurve, within_eq, in_eq, wl_ge0, wl_ge1, wl_le1, wl_le3, wl_le4, wl_le5, wl_le6, wl_le7, wl_le9, wl_le12, wl_le40, wl_le100, wl_le400, wl_gem1, wl_ww, zz_10, not_false_eq_true, not_true_eq_false, true_and, and_true, false_implies, true_implies, forall_const, eP, eC, eP', eC', if_pos h0, if_neg h1]
    exact hR.find (i := 0) (by decide)
  simp only [tell0, tell1, tell2, tell3, tell4, tell5, tell6, finds0, finds1, finds2, finds3, finds4, finds5, finds6, c_isQuestion, c_isMarker, c_isKind, c_isBy, c_isLine, c_isSpot, c_isSheet, c_isPupil, c_isCurve, m_isQuestion, m_isLine, m_isOne, m_isPupil, m_isCurve, within_eq, in_eq, wl_ge0, wl_ge1, wl_le1, wl_le3, wl_le4, wl_le5, wl_le6, wl_le7, wl_le9, wl_le12, wl_le40, wl_le100, wl_le400, wl_gem1, wl_ww, zz_10, not_false_eq_true, not_true_eq_false, true_and, and_true, false_implies, true_implies, forall_const, eP, eC, eP', eC', if_pos h0, if_pos h1]
  obtain ⟨u, hu, rfl⟩ := idx_of (by omega) h0
  obtain ⟨q, hq, rfl⟩ := idx_le (n := 7) (by decide) h1
  have hq : q < 8 := by omega
  have hb := (hW.2.2.2.2.2.2.2.2.1 u hu).2
  refine c_work hW hM hu _ (fun c1 hse hcv hsc => c_strike hsc bP hq _ (fun c2 hos hs2 => ?_))
  have f6 : c2 6 u = m 1 (223 + 2 * u) := by rw [hos 6 (by omega), hse 6 (by omega)]; exact (hM.2.2.2.2.2.2.2.1 u hu).1
  have f7 : c2 7 u = m 1 (224 + 2 * u) := by rw [hos 7 (by omega), hse 7 (by omega)]; exact (hM.2.2.2.2.2.2.2.1 u hu).2
  rw [nI_clamp (show u < 2 ^ 31 by omega), f6, f7]
  have hw' : WF (wpS q 0 (upd (m 1) q 0) P) P C := hW.worth hq ⟨by decide, by decide⟩
  have ok : OK (zqS (sS (m 1) P) q P) (upd (m 1) q 0) P := by
    refine ⟨bP, fun i hi => ?_, fun p i hp hi => ?_⟩
    · by_cases e : i = q
      · rw [e, pk_us]; exact ⟨by decide, by decide⟩
      · rw [pk_un e]; exact hW.2.2.2.2.1 i hi
    · unfold zqS
      by_cases e : i = q
      · rw [if_pos ⟨hp, e⟩, e, pk_us]; exact ⟨by decide, by decide⟩
      · rw [if_neg (by omega), pk_un e]; exact (sS_ok hW.ok).2.2 p i hp hi
  refine ⟨in_nI (by omega) (by decide), in_nI (by omega) (by decide), c_markAll hs2 ok _ hb (by decide) _ (fun g hg => ?_)⟩
  have hg2 : ∀ p, p < P → g p = MK (wpS q 0 (upd (m 1) q 0) P) P (m 1 (223 + 2 * u)) (m 1 (224 + 2 * u)) p := fun p hp => (hg p hp).trans (without_mk hW hq hp _ hb)
  have hsc3 : SE c (zz_st c2 33 g) := fun k hk => by
    rw [zz_st_ne _ _ (by omega), hos k (by omega)]
    exact hse k hk
  have e17 : zz_st c2 33 g 1 7 = nI P := by rw [zz_st_ne _ _ (by decide), hos 1 (by omega)]; exact hcv.1
  have e33 : zz_st c2 33 g 33 = g := zz_st_self _ _ _
  have e32 : ∀ p, p < P → zz_st c2 33 g 32 p = MK (m 1) P (m 1 (223 + 2 * u)) (m 1 (224 + 2 * u)) p := fun p hp => by
    rw [zz_st_ne _ _ (by decide), hos 32 (by omega)]
    exact hcv.2.2.1 p hp
  generalize zz_st c2 33 g = c3 at hsc3 e17 e33 e32 ⊢
  have ew : ∀ i, 19 ≤ i → (∀ p k, p < P → k < 2 → i ≠ 20 + 17 * p + 8 * k + q) → wpS q 0 (upd (m 1) q 0) P i = m 1 i := fun i hi h => by rw [wp_ne h, pk_un (by omega)]
  have ew17 : wpS q 0 (upd (m 1) q 0) P 17 = nI P := by rw [wp_ne (fun p k hp hk => by omega), pk_un (by omega)]; exact eP'
  have md : ∀ post : Int32 → zz_H → Prop, (∀ m', Rel c3 m' → (0 ≤ (woS (fun p => MK (wpS q 0 (upd (m 1) q 0) P) P (m 1 (223 + 2 * u)) (m 1 (224 + 2 * u)) p - MK (m 1) P (m 1 (223 + 2 * u)) (m 1 (224 + 2 * u)) p) P).1 → post (woS (fun p => MK (wpS q 0 (upd (m 1) q 0) P) P (m 1 (223 + 2 * u)) (m 1 (224 + 2 * u)) p - MK (m 1) P (m 1 (223 + 2 * u)) (m 1 (224 + 2 * u)) p) P).1 m') ∧ (¬ 0 ≤ (woS (fun p => MK (wpS q 0 (upd (m 1) q 0) P) P (m 1 (223 + 2 * u)) (m 1 (224 + 2 * u)) p - MK (m 1) P (m 1 (223 + 2 * u)) (m 1 (224 + 2 * u)) p) P).1 → post (-1000004) (mF m' 3))) → wX5_findMarks (nI u) m (fun _ h5 => wX5_puts h5 (fun _ h6 => wX5_worths (nI q) 0 h6 (fun _ h7 => ∃ t9, zz_lp (fun K (s : Int32 × Int32 × Int32) => wX5_without_b45 (nI u) post h7 K s.1 s.2.1 s.2.2) t9 (-1, 0, 0)))) := by
    intro post kx
    refine m_find hW hu _ (fun m1 hsm hmv => m_puts _ ?_)
    have a1 : zz_st m1 3 (cp (m1 1) (m1 3) 245) 1 = m 1 := by rw [zz_st_ne _ _ (by decide)]; exact hmv.1
    have a3 : ∀ i, i < 245 → zz_st m1 3 (cp (m1 1) (m1 3) 245) 3 i = m 1 i := fun i hi => by rw [zz_st_self, cp_at _ _ _ _ hi, hmv.1]
    have a5 : ∀ p, p < P → zz_st m1 3 (cp (m1 1) (m1 3) 245) 5 p = MK (m 1) P (m 1 (223 + 2 * u)) (m 1 (224 + 2 * u)) p := fun p hp => by rw [zz_st_ne _ _ (by decide)]; exact hmv.2.2.2 p hp
    have ao : ∀ k, k ≠ 1 → k ≠ 3 → k ≠ 5 → k ≠ 10 → zz_st m1 3 (cp (m1 1) (m1 3) 245) k = m k := fun k n1 n3 n5 n10 => by rw [zz_st_ne _ _ n3]; exact hsm k n3 n5 n10
    generalize zz_st m1 3 (cp (m1 1) (m1 3) 245) = m2 at a1 a3 a5 ao ⊢
    refine m_worths (by rw [a1]; exact eP') bP hq _ _ ?_
    rw [a1]
    generalize hMM : (fun p => MK (wpS q 0 (upd (m 1) q 0) P) P (m 1 (223 + 2 * u)) (m 1 (224 + 2 * u)) p - MK (m 1) P (m 1 (223 + 2 * u)) (m 1 (224 + 2 * u)) p) = F at kx
    have hMM : ∀ p, F p = MK (wpS q 0 (upd (m 1) q 0) P) P (m 1 (223 + 2 * u)) (m 1 (224 + 2 * u)) p - MK (m 1) P (m 1 (223 + 2 * u)) (m 1 (224 + 2 * u)) p := fun p => by rw [← hMM]
    have b223 : wpS q 0 (upd (m 1) q 0) P (223 + 2 * u) = m 1 (223 + 2 * u) := ew _ (by omega) (fun p k hp hk => by omega)
    have b224 : wpS q 0 (upd (m 1) q 0) P (224 + 2 * u) = m 1 (224 + 2 * u) := ew _ (by omega) (fun p k hp hk => by omega)
    generalize wpS q 0 (upd (m 1) q 0) P = s' at hw' hMM ew17 b223 b224 ⊢
    refine lp_for P (fun j => ((woS F j).1, (woS F j).2, nI j)) ?_ ?_
    · intro j hj K hK
      have e : woS F (j + 1) = if F j ≤ (woS F j).2 then woS F j else (nI j, F j) := rfl
      rw [e] at hK
      refine ⟨fun z => ?_, fun _ => ?_⟩
      · have z : zz_st m2 1 s' 1 17 ≤ nI j := z
        rw [zz_st_self, ew17] at z
        exact absurd z (lt_nle hj (by omega))
      dsimp only
      refine m_markOf (by rw [zz_st_self]; exact hw') hu hj _ ?_
      rw [zz_st_self, zz_st_ne _ _ (show 5 ≠ 1 by decide), nI_clamp (by omega), a5 j hj, b223, b224, nI_1]
      have hF := hMM j
      unfold MK at hF
      refine ⟨in_nI (by omega) (by decide), fun z => ?_, fun z => ?_⟩
      · unfold MK at z
        rw [← hF] at z
        rw [if_pos z] at hK; exact hK
      · unfold MK at z ⊢
        rw [← hF] at z ⊢
        rw [if_neg z] at hK; exact hK
    · intro K
      refine ⟨fun _ => ?_, fun z => absurd ?_ z⟩
      · show wX5_without_j94 post (zz_st m2 1 s') (woS F P).1
        unfold wX5_without_j94
        refine m_putsBack _ ?_
        rw [finds3]
        refine kx _ (hR.aside hW hM hsc3 (fun k n1 n3 n5 n10 => ?_) (fun i hi => ?_))
        · rw [zz_st_ne _ _ n1, zz_st_ne _ _ n1]; exact ao k n1 n3 n5 n10
        · rw [zz_st_self, cp_at _ _ _ _ (by omega), zz_st_ne _ _ (show 3 ≠ 1 by decide)]
          exact a3 i (by omega)
      · show zz_st m2 1 s' 1 17 ≤ nI P
        rw [zz_st_self, ew17]
        exact nI_le (Nat.le_refl P) (by omega)
  refine lp_for P (fun j => ((woS (fun p => MK (wpS q 0 (upd (m 1) q 0) P) P (m 1 (223 + 2 * u)) (m 1 (224 + 2 * u)) p - MK (m 1) P (m 1 (223 + 2 * u)) (m 1 (224 + 2 * u)) p) j).1, (woS (fun p => MK (wpS q 0 (upd (m 1) q 0) P) P (m 1 (223 + 2 * u)) (m 1 (224 + 2 * u)) p - MK (m 1) P (m 1 (223 + 2 * u)) (m 1 (224 + 2 * u)) p) j).2, nI j)) ?_ ?_
  · intro j hj K hK
    have e : woS (fun p => MK (wpS q 0 (upd (m 1) q 0) P) P (m 1 (223 + 2 * u)) (m 1 (224 + 2 * u)) p - MK (m 1) P (m 1 (223 + 2 * u)) (m 1 (224 + 2 * u)) p) (j + 1) = if MK (wpS q 0 (upd (m 1) q 0) P) P (m 1 (223 + 2 * u)) (m 1 (224 + 2 * u)) j - MK (m 1) P (m 1 (223 + 2 * u)) (m 1 (224 + 2 * u)) j ≤ (woS (fun p => MK (wpS q 0 (upd (m 1) q 0) P) P (m 1 (223 + 2 * u)) (m 1 (224 + 2 * u)) p - MK (m 1) P (m 1 (223 + 2 * u)) (m 1 (224 + 2 * u)) p) j).2 then woS (fun p => MK (wpS q 0 (upd (m 1) q 0) P) P (m 1 (223 + 2 * u)) (m 1 (224 + 2 * u)) p - MK (m 1) P (m 1 (223 + 2 * u)) (m 1 (224 + 2 * u)) p) j else (nI j, MK (wpS q 0 (upd (m 1) q 0) P) P (m 1 (223 + 2 * u)) (m 1 (224 + 2 * u)) j - MK (m 1) P (m 1 (223 + 2 * u)) (m 1 (224 + 2 * u)) j) := rfl
    rw [e] at hK
    dsimp only
    unfold wX4_without_b72
    rw [e17, nI_clamp (by omega), e33, hg2 j hj, e32 j hj, nI_1]
    have v1 : vp_in (nI j) 12 := in_nI (by omega) (by decide)
    refine ⟨fun z => absurd z (lt_nle hj (by omega)), fun _ => ⟨v1, v1, fun z => ?_, fun z => ⟨v1, v1, ?_⟩⟩⟩
    · rw [if_pos z] at hK; exact hK
    · rw [if_neg z] at hK; exact hK
  · intro K
    generalize (fun p => MK (wpS q 0 (upd (m 1) q 0) P) P (m 1 (223 + 2 * u)) (m 1 (224 + 2 * u)) p - MK (m 1) P (m 1 (223 + 2 * u)) (m 1 (224 + 2 * u)) p) = F at md ⊢
    dsimp only
    unfold wX4_without_b72 wX4_without_j130
    rw [e17, tell3]
    refine ⟨fun _ => ⟨fun z => ?_, fun z => ?_⟩, fun z => absurd (nI_le (Nat.le_refl P) (by omega)) z⟩
    · exact md _ (fun m' hr => ⟨fun _ => ⟨rfl, hr⟩, fun z' => absurd z z'⟩)
    · exact md _ (fun m' hr => ⟨fun z' => absurd z' z, fun _ => ⟨rfl, hr.find (by decide)⟩⟩)
