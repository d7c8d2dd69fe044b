theorem sc_upd {s : Nat → Int32} {i p q : Nat} (hi : 223 ≤ i) (w : Int32) (hp : p < 12) (hq : q < 8) : sc (upd s i w) p q = sc s p q := by
  unfold sc
  rw [pk_un (by omega), pk_un (by omega)]
theorem MK_upd {s : Nat → Int32} {P i p : Nat} (hi : 223 ≤ i) (w : Int32) (hP : P ≤ 12) (hp : p < P) (kd : Int32) {b : Int32} (hb : zb b 0 100) : MK (upd s i w) P kd b p = MK s P kd b p :=
  mkS_congr (fun p q hp hq => sc_upd hi w (by omega) hq) (fun q hq => pk_un (by omega)) (fun q hq => pk_un (by omega)) hp kd hb
def AP (s : Nat → Int32) (P : Nat) (kd t : Int32) (v : Nat) : Bool := decide (ctg (MK s P kd (nI v)) P t = P)
theorem ctg_cong {M M' : Nat → Int32} {P : Nat} {t : Int32} (h : ∀ p, p < P → M p = M' p) : ctg M P t = ctg M' P t := fb_ct_cong (fun j hj => by rw [h j hj])
theorem c_byLoop {c d0 : zz_H} {s : Nat → Int32} {P C k : Nat} (hW : WF s P C) (hM : PM c 1 s P C) (hk : k < C) (t : Int32) (post : Int32 → zz_H → Prop) (he : SE c d0) (hs : SC d0 (sS s P) s (fun q => s (8 + q)) P)
    (k1 : ∀ v, v ≤ 100 → AP s P (s (223 + 2 * k)) t v = true → (∀ u, u < v → AP s P (s (223 + 2 * k)) t u = false) → ∀ c', SE c c' → post (nI v) c')
    (k2 : (∀ u, u ≤ 100 → AP s P (s (223 + 2 * k)) t u = false) → ∀ c', SE c c' → post ((-1000004) : Int32) (cF c' 3)) : ∃ t9, zz_lp (fun K (s : Int32 × zz_H) => wX4_byFor_b35 (nI k) t post K s.1 s.2) t9 (0, d0) := by
  have hP := hW.2.1
  have hC := hW.2.2.2.1
  have f1 := fa_first_le (AP s P (s (223 + 2 * k)) t) 101
  have f2 := fa_first_no (AP s P (s (223 + 2 * k)) t) 101
  have f3 := fa_first_yes (AP s P (s (223 + 2 * k)) t) 101
  generalize fa_first (AP s P (s (223 + 2 * k)) t) 101 = N at f1 f2 f3
  have body : ∀ (j : Nat) (d : zz_H) (K : Int32 × zz_H → Prop), j ≤ 100 → SE c d → SC d (sS s P) s (fun q => s (8 + q)) P → (∀ c', SE c c' → SC c' (sS s P) s (fun q => s (8 + q)) P → (AP s P (s (223 + 2 * k)) t j = false → K (nI (j + 1), c')) ∧ (AP s P (s (223 + 2 * k)) t j = true → post (nI j) c')) → wX4_byFor_b35 (nI k) t post K (nI j) d := by
    intro j d K hj h1 h2 h3
    have nl : ¬ (100 : Int32) < nI j := fun z => absurd ((nI_ltI (a := 100) (b := j) (by decide) (by omega)).mp z) (by omega)
    refine ⟨fun z => absurd z nl, fun _ => ⟨in_nI (by omega) (by decide), ?_⟩⟩
    have hM' : PM d 1 s P C := hM.cong (fun a b e => h1 a (by omega))
    have hb : zb (nI j) 0 100 := nI_zb (by omega) (by omega)
    rw [nI_clamp (by omega), show d 6 k = s (223 + 2 * k) from (hM'.2.2.2.2.2.2.2.1 k hk).1]
    refine c_markAll h2 (sS_ok hW.ok) _ hb (by decide) _ (fun g hg => ?_)
    have h1' : SE c (zz_st d 32 g) := h1.st (by omega)
    have h2' : SC (zz_st d 32 g) (sS s P) s (fun q => s (8 + q)) P := h2.cong (zz_st_ne _ _ (by decide)) (zz_st_ne _ _ (by decide)) (zz_st_ne _ _ (by decide)) (zz_st_ne _ _ (by decide))
    have e17 : zz_st d 32 g 1 7 = nI P := by rw [zz_st_ne _ _ (by decide)]; exact hM'.1
    have cv : CV (zz_st d 32 g) P (MK s P (s (223 + 2 * k)) (nI j)) (rawS (sS s P)) := ⟨e17, hP, fun p hp => by rw [zz_st_self, hg p hp, MK_sS hp _ hb], fun p hp => h2'.2.2.2.2.2.2.2.1 p (by omega)⟩
    refine c_marksFrom cv _ _ ?_
    obtain ⟨a, b⟩ := h3 _ h1' h2'
    have hc : ctg (MK s P (s (223 + 2 * k)) (nI j)) P t ≤ P := fb_ct_le _ P
    rw [e17, nI_1]
    have hiff := nI_eq (a := ctg (MK s P (s (223 + 2 * k)) (nI j)) P t) (b := P) (by omega) (by omega)
    refine ⟨fun z => a (decide_eq_false (fun q => z (hiff.mpr q))), fun z => b (decide_eq_true (hiff.mp z))⟩
  refine lp_inv N (fun j x => x.1 = nI j ∧ SE c x.2 ∧ SC x.2 (sS s P) s (fun q => s (8 + q)) P) ⟨rfl, he, hs⟩ ?_ ?_
  · rintro j ⟨x, d⟩ K hj ⟨e1, e2, e3⟩ hK
    have e1 : x = nI j := e1
    subst e1
    exact body j d K (by omega) e2 e3 (fun c' h1 h2 => ⟨fun _ => hK _ ⟨rfl, h1, h2⟩, fun z => absurd (f2 j hj) (by rw [z]; decide)⟩)
  · rintro ⟨x, d⟩ K ⟨e1, e2, e3⟩
    have e1 : x = nI N := e1
    subst e1
    by_cases hN : N < 101
    · exact body N d K (by omega) e2 e3 (fun c' h1 h2 => ⟨fun z => absurd (f3 hN) (by rw [z]; decide), fun z => k1 N (by omega) z f2 c' h1⟩)
    · have : N = 101 := by omega
      subst this
      refine ⟨fun _ => ?_, fun z => absurd (show (100 : Int32) < nI 101 by decide) z⟩
      dsimp only
      rw [tell3]
      exact k2 (fun u hu => f2 u (by omega)) d e2
theorem by_a {j u v : Nat} (hv : v = 100 - j) (hj : j < 101) (h : 101 - (j + 1) ≤ u) (e : ¬ u = v) : 101 - j ≤ u := by omega
theorem by_b {j v : Nat} (h : 101 - j ≤ v) : 101 - (j + 1) ≤ v := by omega
theorem by_c {j v : Nat} (h : v = 100 - j) : 101 - (j + 1) ≤ v := by omega
theorem by_d {j u v : Nat} (hv : v = 100 - j) (hj : j < 101) (h : 101 - (j + 1) ≤ u) : ¬ u < v := by omega
theorem m_byLoop {m : zz_H} {P C k : Nat} (hW : WF (m 1) P C) (hk : k < C) (t : Int32) (post : Int32 → zz_H → Prop)
    (k1 : ∀ v, v ≤ 100 → AP (m 1) P (m 1 (223 + 2 * k)) t v = true → (∀ u, u < v → AP (m 1) P (m 1 (223 + 2 * k)) t u = false) → ∀ m', SM m m' → post (nI v) m')
    (k2 : (∀ u, u ≤ 100 → AP (m 1) P (m 1 (223 + 2 * k)) t u = false) → ∀ m', SM m m' → post ((-1000004) : Int32) (mF m' 3)) : ∃ t9, zz_lp (fun K (s : Int32 × Int32 × zz_H) => wX5_byFor_b44 (nI k) t m post K s.1 s.2.1 s.2.2) t9 (-1, 100, m) := by
  have hP := hW.2.1
  have hC := hW.2.2.2.1
  have l0 : (0 : Int32).toInt = 0 := rfl
  refine lp_inv 101 (fun j x => x.2.1.toInt = 100 - (j : Int) ∧ ((x.1 = -1 ∧ ∀ u, 101 - j ≤ u → u ≤ 100 → AP (m 1) P (m 1 (223 + 2 * k)) t u = false) ∨ (∃ v, 101 - j ≤ v ∧ v ≤ 100 ∧ x.1 = nI v ∧ AP (m 1) P (m 1 (223 + 2 * k)) t v = true ∧ ∀ u, 101 - j ≤ u → u < v → AP (m 1) P (m 1 (223 + 2 * k)) t u = false)) ∧ (∀ a, a ≠ 1 → a ≠ 3 → a ≠ 5 → a ≠ 10 → x.2.2 a = m a) ∧ ∃ w, x.2.2 1 = upd (m 1) (224 + 2 * k) w) ⟨rfl, Or.inl ⟨rfl, fun u a b => absurd b (by omega)⟩, fun _ _ _ _ _ => rfl, m 1 (224 + 2 * k), ?_⟩ ?_ ?_
  · funext i
    unfold upd
    by_cases e : i = 224 + 2 * k
    · simp [e]
    · simp [e]
  · rintro j ⟨x5, x6, d⟩ K hj ⟨e1, e2, e3, w, e4⟩ hK
    dsimp only at e1 e2 e3 e4
    have nl : ¬ x6 < 0 := by rw [fa_lt]; omega
    obtain ⟨v, hv, ev⟩ := zb_nI (x := x6) (n := 100) ⟨by omega, by omega⟩
    have hvj : v = 100 - j := by rw [ev, nI_toInt (by omega)] at e1; omega
    have hb : zb x6 0 100 := ⟨by omega, by omega⟩
    refine ⟨fun z => absurd z nl, fun _ => ?_⟩
    dsimp only
    rw [ix_by, nI_clamp (by omega), sto_eq, e4]
    refine ⟨in_nI (by omega) (by decide), ?_⟩
    have eu : upd (upd (m 1) (224 + 2 * k) w) (224 + 2 * k) x6 = upd (m 1) (224 + 2 * k) x6 := by
      funext i
      unfold upd
      by_cases e : i = 224 + 2 * k <;> simp [e]
    rw [eu]
    have hW' : WF (zz_st d 1 (upd (m 1) (224 + 2 * k) x6) 1) P C := by rw [zz_st_self]; exact hW.by' hk hb
    refine m_passing hW' hk t _ (fun m' f g => m_ones _ hP _ ?_)
    rw [g, zz_st_self, pk_us, pk_un (show 223 + 2 * k ≠ 224 + 2 * k by omega), pk_un (show 17 ≠ 224 + 2 * k by omega), hW.1]
    have hct : fb_ct (fun j => decide (t ≤ MK (upd (m 1) (224 + 2 * k) x6) P (m 1 (223 + 2 * k)) x6 j)) P = ctg (MK (m 1) P (m 1 (223 + 2 * k)) (nI v)) P t := by
      rw [← ev]
      exact ctg_cong (fun p hp => MK_upd (by omega) _ hP hp _ hb)
    rw [hct]
    have hc : ctg (MK (m 1) P (m 1 (223 + 2 * k)) (nI v)) P t ≤ P := fb_ct_le _ P
    have hiff := nI_eq (a := ctg (MK (m 1) P (m 1 (223 + 2 * k)) (nI v)) P t) (b := P) (by omega) (by omega)
    have e6 : (x6 + (-1)).toInt = 100 - ((j + 1 : Nat) : Int) := by rw [m1_toInt e1 (by omega) (by omega)]; omega
    have e7 : ∀ a, a ≠ 1 → a ≠ 3 → a ≠ 5 → a ≠ 10 → m' a = m a := fun a h1 h2 h3 h4 => by rw [f a h2 h3 h4, zz_st_ne _ _ h1]; exact e3 a h1 h2 h3 h4
    have e8 : m' 1 = upd (m 1) (224 + 2 * k) x6 := by rw [g, zz_st_self]
    refine ⟨fun z => ?_, fun z => ?_⟩
    · have na : AP (m 1) P (m 1 (223 + 2 * k)) t v = false := decide_eq_false (fun q => z (hiff.mpr q))
      refine hK _ ⟨e6, ?_, e7, x6, e8⟩
      rcases e2 with ⟨q1, q2⟩ | ⟨v', q1, q2, q3, q4, q5⟩
      · refine Or.inl ⟨q1, fun u a b => ?_⟩
        by_cases eu : u = v
        · rw [eu]; exact na
        · exact q2 u (by_a hvj hj a eu) b
      · refine Or.inr ⟨v', by_b q1, q2, q3, q4, fun u a b => ?_⟩
        by_cases eu : u = v
        · rw [eu]; exact na
        · exact q5 u (by_a hvj hj a eu) b
    · have ya : AP (m 1) P (m 1 (223 + 2 * k)) t v = true := decide_eq_true (hiff.mp z)
      exact hK _ ⟨e6, Or.inr ⟨v, by_c hvj, hv, ev, ya, fun u a b => absurd b (by_d hvj hj a)⟩, e7, x6, e8⟩
  · rintro ⟨x5, x6, d⟩ K ⟨e1, e2, e3, w, e4⟩
    dsimp only at e1 e2 e3 e4
    have nl : x6 < 0 := by rw [fa_lt]; omega
    refine ⟨fun _ => ?_, fun z => absurd nl z⟩
    dsimp only
    unfold wX5_byFor_j99
    rw [ix_by, nI_clamp (by omega), sto_eq, e4]
    have eu : upd (upd (m 1) (224 + 2 * k) w) (224 + 2 * k) (m 1 (224 + 2 * k)) = m 1 := by
      funext i
      unfold upd
      by_cases e : i = 224 + 2 * k <;> simp [e]
    rw [eu]
    have sm : SM m (zz_st d 1 (m 1)) := fun a h1 h2 h3 => by
      by_cases e : a = 1
      · rw [e, zz_st_self]
      · rw [zz_st_ne _ _ e]; exact e3 a e h1 h2 h3
    refine ⟨in_nI (by omega) (by decide), ?_⟩
    rcases e2 with ⟨q1, q2⟩ | ⟨v', q1, q2, q3, q4, q5⟩
    · rw [q1]
      refine ⟨fun z => absurd z (by decide), fun _ => ?_⟩
      rw [finds3]
      exact k2 (fun u hu => q2 u (by omega) hu) _ sm
    · rw [q3]
      exact ⟨fun _ => k1 v' q2 q4 (fun u hu => q5 u (by omega) hu) _ sm, fun z => absurd (nI_pos' (by omega)) z⟩
set_option maxRecDepth 20000 in
set_option maxHeartbeats 4000000 in
theorem op_byFor {c m : zz_H} (hR : Rel c m) (p1 : Int32) (p2 : Int32) : wX4_byFor p1 p2 c (fun r c' => wX5_byFor p1 p2 m (fun r' m' => r = r' ∧ Rel c' m')) := by
  obtain ⟨⟨P, C, hW, hM⟩, hK, hF, hT, hS⟩ := id hR
  have eP : c 1 7 = nI P := hM.1
  have eC : c 1 8 = nI C := hM.2.1
  have eP' : m 1 17 = nI P := hW.1
  have eC' : m 1 18 = nI C := hW.2.2.1
  have bP : P ≤ 12 := hW.2.1
  have bC : C ≤ 6 := hW.2.2.2.1
  unfold wX4_byFor wX5_byFor 
  by_cases h0 : (0 : Int32) ≤ p1 ∧ p1 ≤ nI C - 1
  case neg =>
    simp only [tell0, tell1, tell2, tell3, tell4, tell5, tell6, finds0, finds1, finds2, finds3, finds4, finds5, finds6, c_isQuestion, c_isMarker, c_isKind, c_isBy, c_isLine, c_isSpot, c_isSheet, c_isPupil, c_isCurve, m_isQuestion, m_isLine, m_isOne, m_isPupil, m_isCurve, within_eq, in_eq, wl_ge0, wl_ge1, wl_le1, wl_le3, wl_le4, wl_le5, wl_le6, wl_le7, wl_le9, wl_le12, wl_le40, wl_le100, wl_le400, wl_gem1, wl_ww, zz_10, not_false_eq_true, not_true_eq_false, true_and, and_true, false_implies, true_implies, forall_const, eP, eC, eP', eC', if_neg h0]
    exact hR.find (i := 0) (by decide)
  by_cases h1 : (0 : Int32) ≤ p2 ∧ p2 ≤ 400
  case neg =>
    simp only [tell0, tell1, tell2, tell3, tell4, tell5, tell6, finds0, finds1, finds2, finds3, finds4, finds5, finds6, c_isQuestion, c_isMarker, c_isKind, c_isBy, c_isLine, c_isSpot, c_isSheet, c_isPupil, c_isCurve, m_isQuestion, m_isLine, m_isOne, m_isPupil, m_isCurve, within_eq, in_eq, wl_ge0, wl_ge1, wl_le1, wl_le3, wl_le4, wl_le5, wl_le6, wl_le7, wl_le9, wl_le12, wl_le40, wl_le100, wl_le400, wl_gem1, wl_ww, zz_10, not_false_eq_true, not_true_eq_false, true_and, and_true, false_implies, true_implies, forall_const, eP, eC, eP', eC', if_pos h0, if_neg h1]
    exact hR.find (i := 0) (by decide)
  simp only [tell0, tell1, tell2, tell3, tell4, tell5, tell6, finds0, finds1, finds2, finds3, finds4, finds5, finds6, c_isQuestion, c_isMarker, c_isKind, c_isBy, c_isLine, c_isSpot, c_isSheet, c_isPupil, c_isCurve, m_isQuestion, m_isLine, m_isOne, m_isPupil, m_isCurve, within_eq, in_eq, wl_ge0, wl_ge1, wl_le1, wl_le3, wl_le4, wl_le5, wl_le6, wl_le7, wl_le9, wl_le12, wl_le40, wl_le100, wl_le400, wl_gem1, wl_ww, zz_10, not_false_eq_true, not_true_eq_false, true_and, and_true, false_implies, true_implies, forall_const, eP, eC, eP', eC', if_pos h0, if_pos h1]
  obtain ⟨k, hk, rfl⟩ := idx_of (by omega) h0
  have hb := (hW.2.2.2.2.2.2.2.2.1 k hk).2
  have hz : ∀ p, p < P → zb (MK (m 1) P (m 1 (223 + 2 * k)) (m 1 (224 + 2 * k)) p) 0 320 := fun p hp => MK_zb hW hp _ hb
  
  refine c_read hM bP _ (fun c1 ho hs => ?_)
  have he : SE c c1 := fun j hj => ho j (by omega)
  have v : vp_in ((223 : Int32) + 2 * nI k + 1) 245 := by rw [ix_by]; exact in_nI (by omega) (by decide)
  refine c_byLoop hW hM hk p2 _ he hs (fun v' a1 a2 a3 c' e => ⟨v, m_byLoop hW hk p2 _ (fun u b1 b2 b3 m' f => ⟨?_, hR.se e f⟩) (fun b m' f => absurd (b v' a1) (by rw [a2]; decide))⟩) (fun a c' e => ⟨v, m_byLoop hW hk p2 _ (fun u b1 b2 b3 m' f => absurd (a u b1) (by rw [b2]; decide)) (fun b m' f => ⟨rfl, (hR.se e f).find (by decide)⟩)⟩)
  rcases Nat.lt_trichotomy v' u with q | q | q
  · exact absurd (b3 v' q) (by rw [a2]; decide)
  · rw [q]
  · exact absurd (a3 u q) (by rw [b2]; decide)
