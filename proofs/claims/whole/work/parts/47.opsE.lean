theorem m_between {m : zz_H} {P C k : Nat} (hW : WF (m 1) P C) (hk : k < C) (a b : Int32) (post : Int32 → zz_H → Prop) (kk : ∀ m', SM m m' → m' 1 = m 1 → post (nI (fb_ct (fun j => decide (a ≤ MK (m 1) P (m 1 (223 + 2 * k)) (m 1 (224 + 2 * k)) j ∧ MK (m 1) P (m 1 (223 + 2 * k)) (m 1 (224 + 2 * k)) j ≤ b)) P)) m') : wX5_between (nI k) a b m post := by
  unfold wX5_between
  refine m_find hW hk _ (fun m' f mv => ?_)
  generalize MK (m 1) P (m 1 (223 + 2 * k)) (m 1 (224 + 2 * k)) = M at kk mv
  obtain ⟨h1, h2, hP, h3⟩ := mv
  have e : m' 1 17 = nI P := by rw [h1]; exact h2
  refine lp_for P (fun j => (nI (fb_ct (fun j => decide (a ≤ M j ∧ M j ≤ b)) j), nI j)) ?_ ?_
  · intro j hj K hK
    refine ⟨fun z => absurd (show nI P ≤ nI j from e ▸ z) (lt_nle hj (by omega)), fun _ => ?_⟩
    have hK : K (nI (fb_ct (fun j => decide (a ≤ M j ∧ M j ≤ b)) j + (if decide (a ≤ M j ∧ M j ≤ b) then 1 else 0)), nI (j + 1)) := hK
    generalize fb_ct (fun j => decide (a ≤ M j ∧ M j ≤ b)) j = z at hK ⊢
    refine ⟨in_nI (by omega) (by decide), ?_⟩
    rw [in_eq]
    simp only [wl_ww, zz_i0]
    show (¬ (a ≤ m' 5 (nI j).toNatClampNeg ∧ m' 5 (nI j).toNatClampNeg ≤ b) → K (nI z + 0, nI j + 1)) ∧ (¬ ¬ (a ≤ m' 5 (nI j).toNatClampNeg ∧ m' 5 (nI j).toNatClampNeg ≤ b) → K (nI z + 1, nI j + 1))
    rw [nI_clamp (by omega), nI_ct, nI_1, nI_1, h3 j hj]
    refine ⟨fun q => ?_, fun q => ?_⟩
    · rw [if_neg (by simpa using q)] at hK; exact hK
    · rw [if_pos (by simpa using q)] at hK; exact hK
  · intro K
    exact ⟨fun _ => kk m' f h1, fun z => absurd (show m' 1 17 ≤ nI P from e ▸ nI_le (Nat.le_refl P) (by omega)) z⟩
theorem ct_btw {M : Nat → Int32} {P : Nat} {a b t : Int32} (hat : a ≤ t) (h : ∀ j, j < P → (t ≤ M j ↔ ¬ M j ≤ b)) : nI (fb_ct (fun j => decide (a ≤ M j)) P) - nI (fb_ct (fun j => decide (t ≤ M j)) P) = nI (fb_ct (fun j => decide (a ≤ M j ∧ M j ≤ b)) P) := by
  have e := fb_ct_or (p := fun j => decide (a ≤ M j ∧ M j ≤ b)) (q := fun j => decide (t ≤ M j)) (n := P) (fun j hj z => by
    simp only [decide_eq_true_eq] at z
    exact ((h j hj).mp z.2) z.1.2)
  have e2 : fb_ct (fun j => decide (a ≤ M j)) P = fb_ct (fun j => decide (a ≤ M j ∧ M j ≤ b) || decide (t ≤ M j)) P := fb_ct_cong (fun j hj => by
    have := h j hj
    rw [Bool.eq_iff_iff]
    simp only [decide_eq_true_eq, Bool.or_eq_true]
    constructor
    · intro z
      by_cases q : M j ≤ b
      · exact Or.inl ⟨z, q⟩
      · exact Or.inr (this.mpr q)
    · rintro (z | z)
      · exact z.1
      · rw [fa_le] at *; omega)
  rw [e2, e, pk_sub (by omega)]
  congr 1
  omega
set_option maxRecDepth 20000 in
set_option maxHeartbeats 4000000 in
theorem op_letters {c m : zz_H} (hR : Rel c m) (p1 : Int32) (p2 : Int32) (p3 : Int32) : wX4_letters p1 p2 p3 c (fun r c' => wX5_letters p1 p2 p3 m (fun r' m' => r = r' ∧ Rel c' m')) := by
  obtain ⟨⟨P, C, hW, hM⟩, hK, hF, hT, hS⟩ := id hR
  have eP : c 1 7 = nI P := hM.1
  have eC : c 1 8 = nI C := hM.2.1
  have eP' : m 1 17 = nI P := hW.1
  have eC' : m 1 18 = nI C := hW.2.2.1
  have bP : P ≤ 12 := hW.2.1
  have bC : C ≤ 6 := hW.2.2.2.1
  unfold wX4_letters wX5_letters 
  by_cases h0 : (0 : Int32) ≤ p1 ∧ p1 ≤ nI C - 1
  case neg =>
    simp only [tell0, tell1, tell2, tell3, tell4, tell5, tell6, finds0, finds1, finds2, finds3, finds4, finds5, finds6, c_isQuestion, c_isMarker, c_isKind, c_isBy, c_isLine, c_isSpot, c_isSheet, c_isPupil, c_isCurve, m_isQuestion, m_isLine, m_isOne, m_isPupil, m_isCurve, within_eq, in_eq, wl_ge0, wl_ge1, wl_le1, wl_le3, wl_le4, wl_le5, wl_le6, wl_le7, wl_le9, wl_le12, wl_le40, wl_le100, wl_le400, wl_gem1, wl_ww, zz_10, not_false_eq_true, not_true_eq_false, true_and, and_true, false_implies, true_implies, forall_const, eP, eC, eP', eC', if_neg h0]
    exact hR.find (i := 0) (by decide)
  by_cases h1 : (0 : Int32) ≤ p2 ∧ p2 ≤ 400
  case neg =>
    simp only [tell0, tell1, tell2, tell3, tell4, tell5, tell6, finds0, finds1, finds2, finds3, finds4, finds5, finds6, c_isQuestion, c_isMarker, c_isKind, c_isBy, c_isLine, c_isSpot, c_isSheet, c_isPupil, c_isCurve, m_isQuestion, m_isLine, m_isOne, m_isPupil, m_isCurve, within_eq, in_eq, wl_ge0, wl_ge1, wl_le1, wl_le3, wl_le4, wl_le5, wl_le6, wl_le7, wl_le9, wl_le12, wl_le40, wl_le100, wl_le400, wl_gem1, wl_ww, zz_10, not_false_eq_true, not_true_eq_false, true_and, and_true, false_implies, true_implies, forall_const, eP, eC, eP', eC', if_pos h0, if_neg h1]
    exact hR.find (i := 0) (by decide)
  by_cases h2 : (0 : Int32) ≤ p3 ∧ p3 ≤ 400
  case neg =>
    simp only [tell0, tell1, tell2, tell3, tell4, tell5, tell6, finds0, finds1, finds2, finds3, finds4, finds5, finds6, c_isQuestion, c_isMarker, c_isKind, c_isBy, c_isLine, c_isSpot, c_isSheet, c_isPupil, c_isCurve, m_isQuestion, m_isLine, m_isOne, m_isPupil, m_isCurve, within_eq, in_eq, wl_ge0, wl_ge1, wl_le1, wl_le3, wl_le4, wl_le5, wl_le6, wl_le7, wl_le9, wl_le12, wl_le40, wl_le100, wl_le400, wl_gem1, wl_ww, zz_10, not_false_eq_true, not_true_eq_false, true_and, and_true, false_implies, true_implies, forall_const, eP, eC, eP', eC', if_pos h0, if_pos h1, if_neg h2]
    exact hR.find (i := 0) (by decide)
  simp only [tell0, tell1, tell2, tell3, tell4, tell5, tell6, finds0, finds1, finds2, finds3, finds4, finds5, finds6, c_isQuestion, c_isMarker, c_isKind, c_isBy, c_isLine, c_isSpot, c_isSheet, c_isPupil, c_isCurve, m_isQuestion, m_isLine, m_isOne, m_isPupil, m_isCurve, within_eq, in_eq, wl_ge0, wl_ge1, wl_le1, wl_le3, wl_le4, wl_le5, wl_le6, wl_le7, wl_le9, wl_le12, wl_le40, wl_le100, wl_le400, wl_gem1, wl_ww, zz_10, not_false_eq_true, not_true_eq_false, true_and, and_true, false_implies, true_implies, forall_const, eP, eC, eP', eC', if_pos h0, if_pos h1, if_pos h2]
  obtain ⟨k, hk, rfl⟩ := idx_of (by omega) h0
  have hb := (hW.2.2.2.2.2.2.2.2.1 k hk).2
  have hz : ∀ p, p < P → zb (MK (m 1) P (m 1 (223 + 2 * k)) (m 1 (224 + 2 * k)) p) 0 320 := fun p hp => MK_zb hW hp _ hb
  
  by_cases h3 : p2 ≤ p3
  case neg =>
    exact ⟨fun z => absurd z h3, fun _ => ⟨fun _ => hR.find (i := 0) (by decide), fun z => absurd (fa_of_nle h3) z⟩⟩
  refine ⟨fun _ => ?_, fun z => absurd h3 z⟩
  refine c_work hW hM hk _ (fun c' e cv _ => c_marksFrom cv _ _ (c_marksFrom cv _ _ ?_))
  refine ⟨fun z => absurd h3 (fa_of_lt z).2.1, fun _ => ?_⟩
  refine m_between hW hk _ _ _ (fun m' f _ => ⟨?_, hR.se e f⟩)
  have b3 := rng_zb h2 rfl rfl
  have b3 : zb p3 0 1000 := ⟨b3.1, by have := b3.2; have l : (400 : Int32).toInt = 400 := rfl; omega⟩
  refine ct_btw ?_ (fun j _ => succ_le b3)
  rw [fa_le] at h3 ⊢
  have e1 : (p3 + 1).toInt = p3.toInt + 1 := fb_addI (by have := b3.1; show _ ≤ _ + (1 : Int); omega) (by have := b3.2; show _ + (1 : Int) < _; omega)
  omega
set_option maxRecDepth 20000 in
set_option maxHeartbeats 4000000 in
theorem op_heap {c m : zz_H} (hR : Rel c m) (p1 : Int32) (p2 : Int32) : wX4_heap p1 p2 c (fun r c' => wX5_heap p1 p2 m (fun r' m' => r = r' ∧ Rel c' m')) := by
  obtain ⟨⟨P, C, hW, hM⟩, hK, hF, hT, hS⟩ := id hR
  have eP : c 1 7 = nI P := hM.1
  have eC : c 1 8 = nI C := hM.2.1
  have eP' : m 1 17 = nI P := hW.1
  have eC' : m 1 18 = nI C := hW.2.2.1
  have bP : P ≤ 12 := hW.2.1
  have bC : C ≤ 6 := hW.2.2.2.1
  unfold wX4_heap wX5_heap 
  by_cases h0 : (0 : Int32) ≤ p1 ∧ p1 ≤ nI C - 1
  case neg =>
    simp only [tell0, tell1, tell2, tell3, tell4, tell5, tell6, finds0, finds1, finds2, finds3, finds4, finds5, finds6, c_isQuestion, c_isMarker, c_isKind, c_isBy, c_isLine, c_isSpot, c_isSheet, c_isPupil, c_isCurve, m_isQuestion, m_isLine, m_isOne, m_isPupil, m_isCurve, within_eq, in_eq, wl_ge0, wl_ge1, wl_le1, wl_le3, wl_le4, wl_le5, wl_le6, wl_le7, wl_le9, wl_le12, wl_le40, wl_le100, wl_le400, wl_gem1, wl_ww, zz_10, not_false_eq_true, not_true_eq_false, true_and, and_true, false_implies, true_implies, forall_const, eP, eC, eP', eC', if_neg h0]
    exact hR.find (i := 0) (by decide)
  by_cases h1 : (0 : Int32) ≤ p2 ∧ p2 ≤ 400
  case neg =>
    simp only [tell0, tell1, tell2, tell3, tell4, tell5, tell6, finds0, finds1, finds2, finds3, finds4, finds5, finds6, c_isQuestion, c_isMarker, c_isKind, c_isBy, c_isLine, c_isSpot, c_isSheet, c_isPupil, c_isCurve, m_isQuestion, m_isLine, m_isOne, m_isPupil, m_isCurve, within_eq, in_eq, wl_ge0, wl_ge1, wl_le1, wl_le3, wl_le4, wl_le5, wl_le6, wl_le7, wl_le9, wl_le12, wl_le40, wl_le100, wl_le400, wl_gem1, wl_ww, zz_10, not_false_eq_true, not_true_eq_false, true_and, and_true, false_implies, true_implies, forall_const, eP, eC, eP', eC', if_pos h0, if_neg h1]
    exact hR.find (i := 0) (by decide)
  simp only [tell0, tell1, tell2, tell3, tell4, tell5, tell6, finds0, finds1, finds2, finds3, finds4, finds5, finds6, c_isQuestion, c_isMarker, c_isKind, c_isBy, c_isLine, c_isSpot, c_isSheet, c_isPupil, c_isCurve, m_isQuestion, m_isLine, m_isOne, m_isPupil, m_isCurve, within_eq, in_eq, wl_ge0, wl_ge1, wl_le1, wl_le3, wl_le4, wl_le5, wl_le6, wl_le7, wl_le9, wl_le12, wl_le40, wl_le100, wl_le400, wl_gem1, wl_ww, zz_10, not_false_eq_true, not_true_eq_false, true_and, and_true, false_implies, true_implies, forall_const, eP, eC, eP', eC', if_pos h0, if_pos h1]
  obtain ⟨k, hk, rfl⟩ := idx_of (by omega) h0
  have hb := (hW.2.2.2.2.2.2.2.2.1 k hk).2
  have hz : ∀ p, p < P → zb (MK (m 1) P (m 1 (223 + 2 * k)) (m 1 (224 + 2 * k)) p) 0 320 := fun p hp => MK_zb hW hp _ hb
  
  refine c_work hW hM hk _ (fun c' e cv _ => c_marksFrom cv _ _ (c_marksFrom cv _ _ (c_marksFrom cv _ _ (c_marksFrom cv _ _ ?_))))
  refine m_between hW hk _ _ _ (fun m1 f1 g1 => ?_)
  have hW1 : WF (m1 1) P C := by rw [g1]; exact hW
  refine m_between hW1 hk _ _ _ (fun m2 f2 g2 => ?_)
  rw [g1]
  refine ⟨?_, hR.se e (f1.tr f2)⟩
  have b := rng_zb h1 rfl rfl
  have l4 : (400 : Int32).toInt = 400 := rfl
  have l0 : (0 : Int32).toInt = 0 := rfl
  have b1 := b.1
  have b2 := b.2
  have e3 : (p2 + 3).toInt = p2.toInt + 3 := fb_addI (by show _ ≤ _ + (3 : Int); omega) (by show _ + (3 : Int) < _; omega)
  have e2 : (p2 + 2).toInt = p2.toInt + 2 := fb_addI (by show _ ≤ _ + (2 : Int); omega) (by show _ + (2 : Int) < _; omega)
  have e4 : (p2 - 3).toInt = p2.toInt - 3 := fb_subI (by show _ ≤ _ - (3 : Int); omega) (by show _ - (3 : Int) < _; omega)
  have e5 : (p2 - 1).toInt = p2.toInt - 1 := fb_subI (by show _ ≤ _ - (1 : Int); omega) (by show _ - (1 : Int) < _; omega)
  rw [ct_btw (b := p2 + 2) (by rw [fa_le]; omega) (fun j _ => by rw [fa_le, fa_le]; omega), ct_btw (b := p2 - 1) (by rw [fa_le]; omega) (fun j _ => by rw [fa_le, fa_le]; omega)]
/-! how many members a set has -/
def pcN : Nat → Nat → Nat
  | 0, _ => 0
  | f + 1, v => if v = 0 then 0 else 1 + pcN f (v &&& (v - 1))
theorem pcN_step0 : ∀ i, i < 64 → ∀ j, j < 64 → 64 * i + j ≠ 0 → pcN 13 (64 * i + j) = 1 + pcN 13 ((64 * i + j) &&& (64 * i + j - 1)) := by decide +kernel
theorem pcN_bits0 : ∀ i, i < 64 → ∀ j, j < 64 → pcN 13 (64 * i + j) = fb_ct (fun t => (64 * i + j).testBit t) 12 := by decide +kernel
theorem pcN_step (v : Nat) (h : v < 4096) (h0 : v ≠ 0) : pcN 13 v = 1 + pcN 13 (v &&& (v - 1)) := by
  have e : 64 * (v / 64) + v % 64 = v := by omega
  have := pcN_step0 (v / 64) (by omega) (v % 64) (by omega)
  rw [e] at this
  exact this h0
theorem pcN_bits (v : Nat) (h : v < 4096) : pcN 13 v = fb_ct (fun i => v.testBit i) 12 := by
  have e : 64 * (v / 64) + v % 64 = v := by omega
  have := pcN_bits0 (v / 64) (by omega) (v % 64) (by omega)
  rw [e] at this
  exact this
def vb (b : Nat → Bool) : Nat → Nat
  | 0 => 0
  | n + 1 => if b n then 2 ^ n + vb b n else vb b n
theorem vb_lt (b : Nat → Bool) : ∀ n, vb b n < 2 ^ n
  | 0 => (show 0 < 1 by decide)
  | n + 1 => by
    have := vb_lt b n
    show (if b n then 2 ^ n + vb b n else vb b n) < 2 ^ (n + 1)
    rw [Nat.pow_succ]
    split <;> omega
theorem vb_bit (b : Nat → Bool) : ∀ n i, (vb b n).testBit i = (decide (i < n) && b i)
  | 0, i => by simp [vb]
  | n + 1, i => by
    have ih := vb_bit b n i
    have hl := vb_lt b n
    show (if b n then 2 ^ n + vb b n else vb b n).testBit i = _
    by_cases hb : b n = true
    · rw [if_pos hb]
      rcases Nat.lt_trichotomy i n with h | h | h
      · rw [Nat.testBit_two_pow_add_gt h, ih]
        simp [h, show i < n + 1 by omega]
      · subst h
        rw [Nat.testBit_two_pow_add_eq, Nat.testBit_lt_two_pow hl]
        simp [hb]
      · have : 2 ^ n + vb b n < 2 ^ i := Nat.lt_of_lt_of_le (show 2 ^ n + vb b n < 2 ^ (n + 1) by rw [Nat.pow_succ]; omega) (Nat.pow_le_pow_right (by decide) h)
        rw [Nat.testBit_lt_two_pow this]
        simp [show ¬ i < n + 1 by omega]
    · rw [if_neg hb, ih]
      by_cases h : i = n
      · subst h; simp [hb]
      · by_cases h2 : i < n
        · simp [h2, show i < n + 1 by omega]
        · simp [h2, show ¬ i < n + 1 by omega]
theorem shl1 : ∀ n, n < 12 → (1 : Int32) <<< (nI n &&& 31) = nI (2 ^ n) := by decide +kernel
theorem cbB_vb (b : Nat → Bool) : ∀ n, n ≤ 12 → cbB b n = nI (vb b n)
  | 0, _ => rfl
  | n + 1, h => by
    show (if b n then cbB b n ||| ((1 : Int32) <<< (nI n &&& 31)) else cbB b n) = nI (if b n then 2 ^ n + vb b n else vb b n)
    rw [cbB_vb b n (by omega), shl1 n (by omega)]
    by_cases hb : b n = true
    · rw [if_pos hb, if_pos hb, Int32.or_comm]
      have := fa_or_sum (k := n) 1 (vb_lt b n)
      rw [Nat.mul_one] at this
      exact this
    · rw [if_neg hb, if_neg hb]
theorem pc_vb (b : Nat → Bool) {n : Nat} (hn : n ≤ 12) : pcN 13 (vb b n) = fb_ct b n := by
  have h1 := vb_lt b n
  have h2 : 2 ^ n ≤ 2 ^ 12 := Nat.pow_le_pow_right (by decide) hn
  rw [pcN_bits _ (by omega)]
  have e : fb_ct (fun i => (vb b n).testBit i) 12 = fb_ct (fun i => decide (i < n) && b i) 12 := fb_ct_cong (fun i _ => vb_bit b n i)
  rw [e]
  obtain ⟨d, hd⟩ : ∃ d, 12 = n + d := ⟨12 - n, by omega⟩
  rw [hd, fb_ct_split]
  have z : fb_ct (fun k => decide (n + k < n) && b (n + k)) d = 0 := fb_ct_zero.mpr (fun k _ => by simp [show ¬ n + k < n by omega])
  rw [z, Nat.add_zero]
  exact fb_ct_cong (fun i hi => by simp [hi])
theorem m_ones {m : zz_H} (b : Nat → Bool) {n : Nat} (hn : n ≤ 12) (post : Int32 → Prop) (k : post (nI (fb_ct b n))) : wX5_ones (cbB b n) m post := by
  have h1 := vb_lt b n
  have h2 : 2 ^ n ≤ 2 ^ 12 := Nat.pow_le_pow_right (by decide) hn
  rw [cbB_vb b n hn]
  refine zz_lp_of (fun x => ∃ v a : Nat, x = (nI a, nI v) ∧ v < 4096 ∧ a + pcN 13 v = fb_ct b n) (fun x => x.2.toNatClampNeg) ?_ _ ⟨vb b n, 0, rfl, by omega, by rw [pc_vb b hn, Nat.zero_add]⟩
  rintro ⟨x1, x2⟩ K ⟨v, a, e, hv, ha⟩ hK
  cases e
  refine ⟨fun z => ?_, fun z => ?_⟩
  · have z : v = 0 := (nI_eq (a := v) (b := 0) (by omega) (by decide)).mp z
    subst z
    have : pcN 13 0 = 0 := rfl
    rw [this, Nat.add_zero] at ha
    show post (nI a)
    rw [ha]; exact k
  · have z : v ≠ 0 := fun q => z (by rw [q]; rfl)
    show K (nI a + 1, nI v &&& (nI v - 1))
    have e1 : nI v - 1 = nI (v - 1) := pk_sub (a := v) (b := 1) (by omega)
    rw [e1, fa_and, nI_1]
    have hlt : v &&& (v - 1) ≤ v - 1 := Nat.and_le_right
    refine hK _ ⟨v &&& (v - 1), a + 1, rfl, by omega, by rw [pcN_step v hv z] at ha; omega⟩ ?_
    show (nI (v &&& (v - 1))).toNatClampNeg < (nI v).toNatClampNeg
    rw [nI_clamp (by omega), nI_clamp (by omega)]
    omega
