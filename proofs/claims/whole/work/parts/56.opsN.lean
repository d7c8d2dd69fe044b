/-! steps over a whole paper -/
theorem st_st (h : zz_H) (k : Nat) (f g : Nat → Int32) : zz_st (zz_st h k f) k g = zz_st h k g := by
  funext a
  unfold zz_st
  by_cases e : a = k <;> simp [e]
theorem st_id (h : zz_H) (k : Nat) : zz_st h k (h k) = h := by
  funext a
  unfold zz_st
  by_cases e : a = k <;> simp [e]
def OP (a : Nat) (c c' : zz_H) : Prop := ∀ k, (k < a ∨ a + 7 < k) → c' k = c k
theorem OP.rf (a : Nat) (c : zz_H) : OP a c c := fun _ _ => rfl
theorem OP.tr {a : Nat} {x y z : zz_H} (h : OP a x y) (h' : OP a y z) : OP a x z := fun j hj => (h' j hj).trans (h j hj)
theorem OP.st {a : Nat} {c c' : zz_H} (h : OP a c c') {k : Nat} (hk : a ≤ k ∧ k ≤ a + 7) (g : Nat → Int32) : OP a c (zz_st c' k g) := fun j hj => by rw [zz_st_ne _ _ (by omega)]; exact h j hj
theorem ix_s0 (p q : Nat) : (nI p * 8 + nI q) * 2 + 0 = nI (16 * p + 2 * q + 0) := ix_spot p q 0
theorem ix_s1 (p q : Nat) : (nI p * 8 + nI q) * 2 + 1 = nI (16 * p + 2 * q + 1) := ix_spot p q 1
theorem ix_a0 (p q : Nat) : (19 : Int32) + 17 * nI p + 1 + 8 * 0 + nI q = nI (20 + 17 * p + 8 * 0 + q) := ix_at p 0 q
theorem ix_a1 (p q : Nat) : (19 : Int32) + 17 * nI p + 1 + 8 * 1 + nI q = nI (20 + 17 * p + 8 * 1 + q) := ix_at p 1 q
def rqS (n : Int32) (p : Nat) (z : Int32 × (Nat → Int32)) : Nat → Int32 × (Nat → Int32)
  | 0 => z
  | q + 1 => if zz_abs (lnF (rqS n p z q).2 p q) < n then rqS n p z q else ((rqS n p z q).1 + 1, upd (rqS n p z q).2 (20 + 17 * p + 8 * 1 + q) ((rqS n p z q).2 (20 + 17 * p + 8 * 0 + q)))
def rpS (n : Int32) (s : Nat → Int32) : Nat → Int32 × (Nat → Int32)
  | 0 => (0, s)
  | p + 1 => rqS n p (rpS n s p) 8
theorem rq_wf {n : Int32} {z : Int32 × (Nat → Int32)} {P C p : Nat} (h : WF z.2 P C) (hp : p < P) : ∀ q, q ≤ 8 → WF (rqS n p z q).2 P C
  | 0, _ => h
  | q + 1, hq => by
    have ih := rq_wf (n := n) h hp q (by omega)
    unfold rqS
    by_cases e : zz_abs (lnF (rqS n p z q).2 p q) < n
    · rw [if_pos e]; exact ih
    · rw [if_neg e]; exact ih.point hp (by omega) (by decide) (ih.2.2.2.2.2.2.2.1 p q 0 hp (by omega) (by decide))
theorem rp_wf {n : Int32} {s : Nat → Int32} {P C : Nat} (h : WF s P C) : ∀ p, p ≤ P → WF (rpS n s p).2 P C
  | 0, _ => h
  | p + 1, hp => rq_wf (rp_wf h p (by omega)) (by omega) 8 (Nat.le_refl 8)
theorem c_right {c : zz_H} {s : Nat → Int32} {P C : Nat} (hW : WF s P C) (hM : PM c 1 s P C) (n : Int32) (post : Int32 → zz_H → Prop) (k : ∀ c', OP 1 c c' → PM c' 1 (rpS n s P).2 P C → post (rpS n s P).1 c') : ∃ t9, zz_lp (fun K (s : Int32 × Int32 × zz_H) => wX4_right_b21 n post K s.1 s.2.1 s.2.2) t9 (0, 0, c) := by
  have bP := hW.2.1
  have bC := hW.2.2.2.1
  refine lp_inv P (fun j z => z.1 = (rpS n s j).1 ∧ z.2.1 = nI j ∧ OP 1 c z.2.2 ∧ PM z.2.2 1 (rpS n s j).2 P C) ⟨rfl, rfl, OP.rf _ _, hM⟩ ?_ ?_
  · rintro j ⟨x, y, h⟩ K hj ⟨e1, e2, ho, hm⟩ hK
    dsimp only at e1 e2 ho hm
    subst e1 e2
    refine ⟨fun q => absurd (show nI P ≤ nI j from hm.1 ▸ q) (lt_nle hj (by omega)), fun _ => ?_⟩
    have w0 : WF (rpS n s j).2 P C := rp_wf hW j (by omega)
    have w1 := fun i hi => rq_wf (n := n) w0 hj i hi
    have hK : ∀ s', (s'.1 = (rqS n j (rpS n s j) 8).1 ∧ s'.2.1 = nI (j + 1) ∧ OP 1 c s'.2.2 ∧ PM s'.2.2 1 (rqS n j (rpS n s j) 8).2 P C) → K s' := hK
    generalize rpS n s j = z at hm hK w0 w1 ⊢
    refine lp_inv 8 (fun i y => y.1 = (rqS n j z i).1 ∧ y.2.1 = nI i ∧ OP 1 c y.2.2 ∧ PM y.2.2 1 (rqS n j z i).2 P C) ⟨rfl, rfl, ho, hm⟩ ?_ ?_
    · rintro i ⟨x, y, h'⟩ K' hi ⟨e1, e2, ho, hm⟩ hK'
      dsimp only at e1 e2 ho hm
      subst e1 e2
      have w2 := w1 i (by omega)
      have e : rqS n j z (i + 1) = if zz_abs (lnF (rqS n j z i).2 j i) < n then rqS n j z i else ((rqS n j z i).1 + 1, upd (rqS n j z i).2 (20 + 17 * j + 8 * 1 + i) ((rqS n j z i).2 (20 + 17 * j + 8 * 0 + i))) := rfl
      generalize rqS n j z (i + 1) = y' at e hK'
      generalize rqS n j z i = y at e hm w2 ⊢
      refine ⟨fun q => absurd q (lt_nle (N := 8) hi (by decide)), fun _ => c_leanIn hm bP hj hi _ ?_⟩
      dsimp only
      rw [nI_1]
      refine ⟨fun q => ?_, fun q => ?_⟩
      · rw [if_pos q] at e
        exact hK' _ ⟨by rw [e], rfl, ho, by rw [e]; exact hm⟩
      · rw [if_neg q] at e
        rw [spot_eq, spot_eq, ix_s0, ix_s1, nI_clamp (by omega), nI_clamp (by omega)]
        refine ⟨in_nI (by omega) (by decide), in_nI (by omega) (by decide), ?_⟩
        rw [show h' 5 (16 * j + 2 * i + 0) = y.2 (20 + 17 * j + 8 * 0 + i) from hm.2.2.2.2.2.2.1 j i 0 hj hi (by decide)]
        exact hK' _ ⟨by rw [e], rfl, ho.st (by omega) _, by rw [e]; exact hm.point _ bP bC hj hi (by decide)⟩
    · rintro ⟨x, y, h'⟩ K' ⟨e1, e2, ho, hm⟩
      dsimp only at e1 e2 ho hm
      subst e1 e2
      refine ⟨fun _ => hK _ ⟨rfl, ?_, ho, hm⟩, fun q => absurd (show nI 8 ≤ nI 8 from nI_le (Nat.le_refl 8) (by decide)) q⟩
      exact nI_1 j
  · rintro ⟨x, y, h⟩ K ⟨e1, e2, ho, hm⟩
    dsimp only at e1 e2 ho hm
    subst e1 e2
    refine ⟨fun _ => k _ ho hm, fun q => absurd (show h 1 7 ≤ nI P from hm.1 ▸ nI_le (Nat.le_refl P) (by omega)) q⟩
theorem m_right {m : zz_H} {P C : Nat} (hW : WF (m 1) P C) (n : Int32) (post : Int32 → zz_H → Prop) (k : post (rpS n (m 1) P).1 (zz_st m 1 (rpS n (m 1) P).2)) : ∃ t9, zz_lp (fun K (s : Int32 × Int32 × zz_H) => wX5_right_b23 n post K s.1 s.2.1 s.2.2) t9 (0, 0, m) := by
  have bP := hW.2.1
  have this := lp_for (b := fun K (s : Int32 × Int32 × zz_H) => wX5_right_b23 n post K s.1 s.2.1 s.2.2) P (fun j => ((rpS n (m 1) j).1, nI j, zz_st m 1 (rpS n (m 1) j).2)) ?_ ?_
  · have e : zz_st m 1 (rpS n (m 1) 0).2 = m := st_id m 1
    rw [e] at this
    exact this
  · intro j hj K hK
    have w0 : WF (rpS n (m 1) j).2 P C := rp_wf hW j (by omega)
    have w1 := fun i hi => rq_wf (n := n) w0 hj i hi
    have hK : K ((rqS n j (rpS n (m 1) j) 8).1, nI (j + 1), zz_st m 1 (rqS n j (rpS n (m 1) j) 8).2) := hK
    generalize rpS n (m 1) j = z at hK w0 w1 ⊢
    refine ⟨fun q => ?_, fun _ => ?_⟩
    · have q : zz_st m 1 z.2 1 17 ≤ nI j := q
      rw [zz_st_self, w0.1] at q
      exact absurd q (lt_nle hj (by omega))
    refine lp_for 8 (fun i => ((rqS n j z i).1, nI i, zz_st m 1 (rqS n j z i).2)) ?_ ?_
    · intro i hi K' hK'
      have e : rqS n j z (i + 1) = if zz_abs (lnF (rqS n j z i).2 j i) < n then rqS n j z i else ((rqS n j z i).1 + 1, upd (rqS n j z i).2 (20 + 17 * j + 8 * 1 + i) ((rqS n j z i).2 (20 + 17 * j + 8 * 0 + i))) := rfl
      generalize rqS n j z (i + 1) = y' at e hK'
      generalize rqS n j z i = y at e ⊢
      refine ⟨fun q => absurd q (lt_nle (N := 8) hi (by decide)), fun _ => m_apart (by omega) hi _ ?_⟩
      rw [m_size]
      dsimp only
      rw [nI_1, zz_st_self]
      refine ⟨fun q => ?_, fun q => ?_⟩
      · rw [if_pos q] at e; rw [e] at hK'; exact hK'
      · rw [if_neg q] at e
        rw [e] at hK'
        rw [at_eq, at_eq, ix_a0, ix_a1, nI_clamp (by omega), nI_clamp (by omega), sto_eq, st_st]
        exact ⟨in_nI (by omega) (by decide), in_nI (by omega) (by decide), hK'⟩
    · intro K'
      refine ⟨fun _ => ?_, fun q => absurd (show nI 8 ≤ nI 8 from nI_le (Nat.le_refl 8) (by decide)) q⟩
      show K ((rqS n j z 8).1, nI j + 1, zz_st m 1 (rqS n j z 8).2)
      rw [nI_1]; exact hK
  · intro K
    refine ⟨fun _ => k, fun q => absurd ?_ q⟩
    show zz_st m 1 (rpS n (m 1) P).2 1 17 ≤ nI P
    rw [zz_st_self, (rp_wf (n := n) hW P (Nat.le_refl P)).1]
    exact nI_le (Nat.le_refl P) (by omega)
set_option maxRecDepth 20000 in
set_option maxHeartbeats 4000000 in
theorem op_right {c m : zz_H} (hR : Rel c m) (p1 : Int32) : wX4_right p1 c (fun r c' => wX5_right p1 m (fun r' m' => r = r' ∧ Rel c' m')) := by
  obtain ⟨⟨P, C, hW, hM⟩, hK, hF, hT, hS⟩ := id hR
  have eP : c 1 7 = nI P := hM.1
  have eC : c 1 8 = nI C := hM.2.1
  have eP' : m 1 17 = nI P := hW.1
  have eC' : m 1 18 = nI C := hW.2.2.1
  have bP : P ≤ 12 := hW.2.1
  have bC : C ≤ 6 := hW.2.2.2.1
  unfold wX4_right wX5_right 
  by_cases h0 : (1 : Int32) ≤ p1 ∧ p1 ≤ 40
  case neg =>
    simp only [tell0, tell1, tell2, tell3, tell4, tell5, tell6, finds0, finds1, finds2, finds3, finds4, finds5, finds6, c_isQuestion, c_isMarker, c_isKind, c_isBy, c_isLine, c_isSpot, c_isSheet, c_isPupil, c_isCurve, m_isQuestion, m_isLine, m_isOne, m_isPupil, m_isCurve, within_eq, in_eq, wl_ge0, wl_ge1, wl_le1, wl_le3, wl_le4, wl_le5, wl_le6, wl_le7, wl_le9, wl_le12, wl_le40, wl_le100, wl_le400, wl_gem1, wl_ww, zz_10, not_false_eq_true, not_true_eq_false, true_and, and_true, false_implies, true_implies, forall_const, eP, eC, eP', eC', if_neg h0]
    exact hR.find (i := 0) (by decide)
  simp only [tell0, tell1, tell2, tell3, tell4, tell5, tell6, finds0, finds1, finds2, finds3, finds4, finds5, finds6, c_isQuestion, c_isMarker, c_isKind, c_isBy, c_isLine, c_isSpot, c_isSheet, c_isPupil, c_isCurve, m_isQuestion, m_isLine, m_isOne, m_isPupil, m_isCurve, within_eq, in_eq, wl_ge0, wl_ge1, wl_le1, wl_le3, wl_le4, wl_le5, wl_le6, wl_le7, wl_le9, wl_le12, wl_le40, wl_le100, wl_le400, wl_gem1, wl_ww, zz_10, not_false_eq_true, not_true_eq_false, true_and, and_true, false_implies, true_implies, forall_const, eP, eC, eP', eC', if_pos h0]
  exact c_right hW hM p1 _ (fun c' ho hm => m_right hW p1 _ ⟨rfl, hR.paper (rp_wf hW P (Nat.le_refl P)) hm ho⟩)
/-! drawing -/
def dzF (x : Int32) : Int32 := x * 1103515245 + 12345
def dvF (s : Nat → Int32) (q : Nat) : Int32 := zz_rem (zz_ushr (s 16) 8) (s q + 1)
def dwS (p k : Nat) (s : Nat → Int32) : Nat → (Nat → Int32)
  | 0 => s
  | q + 1 => upd (upd (dwS p k s q) 16 (dzF (dwS p k s q 16))) (20 + 17 * p + 8 * k + q) (dvF (upd (dwS p k s q) 16 (dzF (dwS p k s q 16))) q)
theorem ush8 (x : Int32) : ∃ a : Nat, a < 2 ^ 24 ∧ zz_ushr x 8 = nI a := by
  refine ⟨x.toBitVec.toNat / 2 ^ 8, ?_, ?_⟩
  · have : x.toBitVec.toNat < 2 ^ 32 := x.toBitVec.isLt
    omega
  · have h := pk_ushr x 8 8 (by decide)
    apply Int32.toBitVec_inj.mp
    apply BitVec.eq_of_toNat_eq
    rw [pk_tn]
    · exact h
    · have : x.toBitVec.toNat < 2 ^ 32 := x.toBitVec.isLt
      omega
theorem dv_zb (x : Int32) {w : Int32} (hw : zb w 0 40) : zb (zz_rem (zz_ushr x 8) (w + 1)) 0 w.toInt := by
  obtain ⟨a, ha, e⟩ := ush8 x
  obtain ⟨b, hb, rfl⟩ := zb_nI (n := 40) hw
  rw [e, nI_1]
  have := pk_rem (a := a) (d := b + 1) (by omega) (by omega) (by omega)
  unfold zz_rem
  rw [this, nI_toInt (by omega)]
  have := Nat.mod_lt a (show 0 < b + 1 by omega)
  exact nI_zb (by omega) (by omega)
theorem dw_wf {p k : Nat} {s : Nat → Int32} {P C : Nat} (h : WF s P C) (hp : p < P) (hk : k < 2) : ∀ q, q ≤ 8 → WF (dwS p k s q) P C
  | 0, _ => h
  | q + 1, hq => by
    have ih := dw_wf h hp hk q (by omega)
    have i2 := ih.seed (dzF (dwS p k s q 16))
    exact i2.point hp (by omega) hk (dv_zb _ (i2.2.2.2.2.1 q (by omega)))
set_option maxRecDepth 20000 in
set_option maxHeartbeats 4000000 in
theorem op_drawn {c m : zz_H} (hR : Rel c m) (p1 : Int32) (p2 : Int32) : wX4_drawn p1 p2 c (fun r c' => wX5_drawn p1 p2 m (fun r' m' => r = r' ∧ Rel c' m')) := by
  obtain ⟨⟨P, C, hW, hM⟩, hK, hF, hT, hS⟩ := id hR
  have eP : c 1 7 = nI P := hM.1
  have eC : c 1 8 = nI C := hM.2.1
  have eP' : m 1 17 = nI P := hW.1
  have eC' : m 1 18 = nI C := hW.2.2.1
  have bP : P ≤ 12 := hW.2.1
  have bC : C ≤ 6 := hW.2.2.2.1
  unfold wX4_drawn wX5_drawn 
  by_cases h0 : (0 : Int32) ≤ p1 ∧ p1 ≤ nI P - 1
  case neg =>
    simp only [tell0, tell1, tell2, tell3, tell4, tell5, tell6, finds0, finds1, finds2, finds3, finds4, finds5, finds6, c_isQuestion, c_isMarker, c_isKind, c_isBy, c_isLine, c_isSpot, c_isSheet, c_isPupil, c_isCurve, m_isQuestion, m_isLine, m_isOne, m_isPupil, m_isCurve, within_eq, in_eq, wl_ge0, wl_ge1, wl_le1, wl_le3, wl_le4, wl_le5, wl_le6, wl_le7, wl_le9, wl_le12, wl_le40, wl_le100, wl_le400, wl_gem1, wl_ww, zz_10, not_false_eq_true, not_true_eq_false, true_and, and_true, false_implies, true_implies, forall_const, eP, eC, eP', eC', if_neg h0]
    exact hR.find (i := 0) (by decide)
  by_cases h1 : (0 : Int32) ≤ p2 ∧ p2 ≤ 1
  case neg =>
    simp only [tell0, tell1, tell2, tell3, tell4, tell5, tell6, finds0, finds1, finds2, finds3, finds4, finds5, finds6, c_isQuestion, c_isMarker, c_isKind, c_isBy, c_isLine, c_isSpot, c_isSheet, c_isPupil, c_isCurve, m_isQuestion, m_isLine, m_isOne, m_isPupil, m_isCurve, within_eq, in_eq, wl_ge0, wl_ge1, wl_le1, wl_le3, wl_le4, wl_le5, wl_le6, wl_le7, wl_le9, wl_le12, wl_le40, wl_le100, wl_le400, wl_gem1, wl_ww, zz_10, not_false_eq_true, not_true_eq_false, true_and, and_true, false_implies, true_implies, forall_const, eP, eC, eP', eC', if_pos h0, if_neg h1]
    exact hR.find (i := 0) (by decide)
  simp only [tell0, tell1, tell2, tell3, tell4, tell5, tell6, finds0, finds1, finds2, finds3, finds4, finds5, finds6, c_isQuestion, c_isMarker, c_isKind, c_isBy, c_isLine, c_isSpot, c_isSheet, c_isPupil, c_isCurve, m_isQuestion, m_isLine, m_isOne, m_isPupil, m_isCurve, within_eq, in_eq, wl_ge0, wl_ge1, wl_le1, wl_le3, wl_le4, wl_le5, wl_le6, wl_le7, wl_le9, wl_le12, wl_le40, wl_le100, wl_le400, wl_gem1, wl_ww, zz_10, not_false_eq_true, not_true_eq_false, true_and, and_true, false_implies, true_implies, forall_const, eP, eC, eP', eC', if_pos h0, if_pos h1]
  obtain ⟨p, hp, rfl⟩ := idx_of (by omega) h0
  obtain ⟨k, hk, rfl⟩ := idx_le (n := 1) (by decide) h1
  refine lp_inv 8 (fun j z => z.1 = nI j ∧ OP 1 c z.2 ∧ PM z.2 1 (dwS p k (m 1) j) P C) ⟨rfl, OP.rf _ _, hM⟩ ?_ ?_
  · rintro j ⟨x, h⟩ K hj ⟨e1, ho, hm⟩ hK
    dsimp only at e1 ho hm
    subst e1
    have w0 := dw_wf hW hp (show k < 2 by omega) j (by omega)
    have hK : ∀ s', (s'.1 = nI (j + 1) ∧ OP 1 c s'.2 ∧ PM s'.2 1 (upd (upd (dwS p k (m 1) j) 16 (dzF (dwS p k (m 1) j 16))) (20 + 17 * p + 8 * k + j) (dvF (upd (dwS p k (m 1) j) 16 (dzF (dwS p k (m 1) j 16))) j)) P C) → K s' := hK
    generalize dwS p k (m 1) j = s at hm hK w0
    refine ⟨fun q => absurd q (lt_nle (N := 8) hj (by decide)), fun _ => ⟨in_nI hj (by decide), ?_⟩⟩
    unfold wX0_nextDraw
    simp only [spot_eq, sto_eq]
    rw [ix_spot, nI_1, nI_clamp (by omega), nI_clamp (by omega), show h 2 j = s j from hm.2.2.2.1 j hj, zz_st_self, pk_us, show h 1 9 = s 16 from hm.2.2.1]
    have wz := w0.2.2.2.2.1 j hj
    have i2 := hm.seed (dzF (s 16))
    have i3 := i2.point (dvF (upd s 16 (dzF (s 16))) j) bP bC hp hj (show k < 2 by omega)
    have e5 : dvF (upd s 16 (dzF (s 16))) j = zz_rem (zz_ushr (s 16 * 1103515245 + 12345) 8) (s j + 1) := by
      unfold dvF
      rw [pk_us, pk_un (by omega)]
      rfl
    refine ⟨fun q => ?_, fun _ => ⟨?_, in_nI (by omega) (by decide), hK _ ⟨rfl, ?_, ?_⟩⟩⟩
    · exfalso
      rw [fa_le] at q
      obtain ⟨b, hb, eb⟩ := zb_nI (n := 40) wz
      rw [eb, nI_1, nI_toInt (by omega)] at q
      have z0 : (0 : Int32).toInt = 0 := rfl
      omega
    · obtain ⟨b, hb, eb⟩ := zb_nI (n := 40) wz
      rw [eb, nI_1]
      exact nI_ne0 (by omega) (by omega)
    · exact (ho.st (by omega) _).st (by omega) _
    · rw [e5] at i3 ⊢
      exact i3
  · rintro ⟨x, h⟩ K ⟨e1, ho, hm⟩
    dsimp only at e1 ho hm
    subst e1
    refine ⟨fun _ => c_rawOf hm bP hp _ ?_, fun z => absurd (show nI 8 ≤ nI 8 from nI_le (Nat.le_refl 8) (by decide)) z⟩
    have fin : ∀ post : Int32 → zz_H → Prop, post (rawS (sc (dwS p k (m 1) 8)) p) (zz_st m 1 (dwS p k (m 1) 8)) → ∃ t9, zz_lp (fun K (s : Int32 × zz_H) => wX5_drawn_b27 (nI p) (nI k) post K s.1 s.2) t9 (0, m) := by
      intro post kk
      have this := lp_for (b := fun K (s : Int32 × zz_H) => wX5_drawn_b27 (nI p) (nI k) post K s.1 s.2) 8 (fun j => (nI j, zz_st m 1 (dwS p k (m 1) j))) ?_ ?_
      · have e : zz_st m 1 (dwS p k (m 1) 0) = m := st_id m 1
        rw [e] at this
        exact this
      · intro j hj K hK
        have w0 := dw_wf hW hp (show k < 2 by omega) j (by omega)
        have hK : K (nI (j + 1), zz_st m 1 (upd (upd (dwS p k (m 1) j) 16 (dzF (dwS p k (m 1) j 16))) (20 + 17 * p + 8 * k + j) (dvF (upd (dwS p k (m 1) j) 16 (dzF (dwS p k (m 1) j 16))) j))) := hK
        generalize dwS p k (m 1) j = s at hK w0 ⊢
        refine ⟨fun q => absurd q (lt_nle (N := 8) hj (by decide)), fun _ => ?_⟩
        simp only [at_eq, sto_eq]
        rw [ix_at, ix_0, nI_1, nI_clamp (by omega), nI_clamp (by omega), st_st, zz_st_self, zz_st_self, st_st]
        have wz := w0.2.2.2.2.1 j hj
        refine ⟨in_nI (by omega) (by decide), ?_, in_nI (by omega) (by decide), hK⟩
        obtain ⟨b, hb, eb⟩ := zb_nI (n := 40) wz
        rw [pk_un (by omega), eb, nI_1]
        exact nI_ne0 (by omega) (by omega)
      · intro K
        refine ⟨fun _ => m_raw (by omega) _ ?_, fun z => absurd (show nI 8 ≤ nI 8 from nI_le (Nat.le_refl 8) (by decide)) z⟩
        show post (rawS (sc (zz_st m 1 (dwS p k (m 1) 8) 1)) p) _
        rw [zz_st_self]
        exact kk
    exact fin _ ⟨rfl, hR.paper (dw_wf hW hp (by omega) 8 (Nat.le_refl 8)) hm ho⟩
