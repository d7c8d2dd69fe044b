/-! marks lie within 0 and 320; what both sides see behind workOut and findMarks -/
theorem div_zb {a b : Int32} {n : Nat} (ha : zb a 0 1000000) (hb : 0 < b.toInt) (h : a.toInt ≤ n * b.toInt) : zb (a / b) 0 n := by
  have hr := fb_rng b
  obtain ⟨x, hx, rfl⟩ := zb_nI (n := 1000000) ha
  obtain ⟨y, hy, rfl⟩ := zb_nI (x := b) (n := 2147483647) ⟨by omega, by have := hr.2; omega⟩
  rw [nI_toInt (by omega), nI_toInt (by omega)] at h
  rw [nI_toInt (by omega)] at hb
  rw [pk_div (by omega) (by omega) (by omega)]
  refine nI_zb ?_ (Nat.lt_of_le_of_lt (Nat.div_le_self x y) (by omega))
  have : x ≤ n * y := by exact_mod_cast h
  have := Nat.div_le_of_le_mul (show x ≤ y * n by rw [Nat.mul_comm]; exact this)
  omega
theorem zsum_le {f g : Nat → Int32} : ∀ {n : Nat}, n ≤ 100 → (∀ i, i < n → zb (f i) 0 40 ∧ zb (g i) 0 40 ∧ (f i).toInt ≤ (g i).toInt) → (zsum f n).toInt ≤ (zsum g n).toInt
  | 0, _, _ => Int.le_refl _
  | n + 1, hn, h => by
    have h1 := zsum_zb (f := f) (B := 40) (n := n) (fun j hj => (h j (by omega)).1) (by omega)
    have h2 := zsum_zb (f := g) (B := 40) (n := n) (fun j hj => (h j (by omega)).2.1) (by omega)
    have h3 := h n (by omega)
    have ih := zsum_le (f := f) (g := g) (n := n) (by omega) (fun i hi => h i (by omega))
    have e1 : (zsum f n + f n).toInt = (zsum f n).toInt + (f n).toInt := fb_addI (by have := h1.1; have := h3.1.1; omega) (by have := h1.2; have := h3.1.2; omega)
    have e2 : (zsum g n + g n).toInt = (zsum g n).toInt + (g n).toInt := fb_addI (by have := h2.1; have := h3.2.1.1; omega) (by have := h2.2; have := h3.2.1.2; omega)
    show (zsum f n + f n).toInt ≤ (zsum g n + g n).toInt
    rw [e1, e2]
    have := h3.2.2
    omega
theorem drS_zb {S : Nat → Nat → Int32} {W : Nat → Int32} {P p : Nat} (ok : OK S W P) (hp : p < P) {b : Int32} (hb : zb b 0 100) : zb (drS S W b p) 0 320 := by
  obtain ⟨q, hq, eq⟩ := rem8 hb
  unfold drS
  rw [eq, nI_clamp (by omega)]
  by_cases e : fullW W - W q = 0
  · rw [if_pos e]; exact ⟨by decide, by decide⟩
  · rw [if_neg e]
    have hf := ok.full
    have hr := ok.raw hp
    have hw : (W q).toInt ≤ (fullW W).toInt := zsum_one (f := W) hq (by decide) (fun i hi => ok.2.1 i hi)
    have hw0 := ok.2.1 q hq
    have hs0 := ok.2.2 p q hp hq
    have s40 : ∀ i, i < 8 → zb (S p i) 0 40 := fun i hi => ⟨(ok.2.2 p i hp hi).1, by have := (ok.2.2 p i hp hi).2; have := (ok.2.1 i hi).2; omega⟩
    have hs : (S p q).toInt ≤ (rawS S p).toInt := zsum_one (f := S p) hq (by decide) s40
    have key : (rawS S p).toInt - (S p q).toInt ≤ (fullW W).toInt - (W q).toInt := by
      have a1 : rawS (upS S p q 0) p = rawS S p + (0 - S p q) := by
        unfold rawS
        rw [show upS S p q 0 p = upd (S p) q 0 from if_pos rfl, zsum_upd _ _ hq]
      have a2 : fullW (upd W q 0) = fullW W + (0 - W q) := zsum_upd _ _ hq
      have a3 : (zsum (upd (S p) q 0) 8).toInt ≤ (zsum (upd W q 0) 8).toInt := by
        refine zsum_le (by decide) (fun i hi => ?_)
        by_cases e : i = q
        · subst e; rw [pk_us, pk_us]; exact ⟨⟨by decide, by decide⟩, ⟨by decide, by decide⟩, Int.le_refl _⟩
        · rw [pk_un e, pk_un e]; exact ⟨s40 i hi, ok.2.1 i hi, (ok.2.2 p i hp hi).2⟩
      rw [zsum_upd _ _ hq, zsum_upd _ _ hq] at a3
      have n1 : (0 - S p q).toInt = - (S p q).toInt := by
        have := fb_subI (x := 0) (y := S p q) (by have := hs0.1; have := hs0.2; have := hw0.2; show _ ≤ (0 : Int) - _; omega) (by have := hs0.1; show (0 : Int) - _ < _; omega)
        rw [this]; show (0 : Int) - _ = _; omega
      have n2 : (0 - W q).toInt = - (W q).toInt := by
        have := fb_subI (x := 0) (y := W q) (by have := hw0.2; show _ ≤ (0 : Int) - _; omega) (by have := hw0.1; show (0 : Int) - _ < _; omega)
        rw [this]; show (0 : Int) - _ = _; omega
      have r1 : zb (zsum (S p) 8) 0 320 := hr
      have r2 : zb (zsum W 8) 0 320 := hf
      rw [fb_addI (by have := r1.1; rw [n1]; have := hs0.2; have := hw0.2; omega) (by have := r1.2; rw [n1]; have := hs0.1; omega), fb_addI (by have := r2.1; rw [n2]; have := hw0.2; omega) (by have := r2.2; rw [n2]; have := hw0.1; omega), n1, n2] at a3
      show (zsum (S p) 8).toInt - _ ≤ (zsum W 8).toInt - _
      omega
    have e1 : (fullW W - W q).toInt = (fullW W).toInt - (W q).toInt := fb_subI (by have := hf.1; have := hw0.2; omega) (by have := hf.2; have := hw0.1; omega)
    have e2 : (rawS S p - S p q).toInt = (rawS S p).toInt - (S p q).toInt := fb_subI (by have := hr.1; have := hs0.2; have := hw0.2; omega) (by have := hr.2; have := hs0.1; omega)
    have f1 := hf.1; have f2 := hf.2; have g1 := hr.1; have g2 := hr.2; have k1 := hs0.1
    have nn : 0 ≤ (rawS S p).toInt - (S p q).toInt := by omega
    have up : (rawS S p).toInt - (S p q).toInt ≤ 320 := by omega
    have m1 : (fullW W).toInt * ((rawS S p).toInt - (S p q).toInt) ≤ 320 * 320 := Int.mul_le_mul f2 up nn (by decide)
    have m0 : 0 ≤ (fullW W).toInt * ((rawS S p).toInt - (S p q).toInt) := Int.mul_nonneg f1 nn
    have e3 : (fullW W * (rawS S p - S p q)).toInt = (fullW W).toInt * ((rawS S p).toInt - (S p q).toInt) := by
      rw [← e2]
      exact fb_mulI (by rw [e2]; omega) (by rw [e2]; omega)
    refine div_zb ⟨by rw [e3]; exact m0, by rw [e3]; omega⟩ ?_ ?_
    · rw [e1]
      have : ¬ (fullW W - W q).toInt = 0 := fun z => e ((fa_eq _ _).mpr z)
      rw [e1] at this
      omega
    · rw [e3, e1]
      exact Int.le_trans (Int.mul_le_mul_of_nonneg_left key f1) (Int.mul_le_mul_of_nonneg_right f2 (by omega))
theorem mkS_zb {S : Nat → Nat → Int32} {W O : Nat → Int32} {P p : Nat} (ok : OK S W P) (hp : p < P) (kd : Int32) {b : Int32} (hb : zb b 0 100) : zb (mkS S W O P kd b p) 0 320 := by
  have hf := ok.full
  have hr := ok.raw hp
  unfold mkS
  by_cases h1 : kd = 1
  · rw [if_pos h1]
    have e : (rawS S p + b).toInt = (rawS S p).toInt + b.toInt := fb_addI (by have := hr.1; have := hb.1; omega) (by have := hr.2; have := hb.2; omega)
    unfold zb
    rw [min_toInt, e]
    have := hr.1; have := hb.1; have := hf.1; have := hf.2
    omega
  rw [if_neg h1]
  by_cases h2 : kd = 2
  · rw [if_pos h2]
    obtain ⟨n, hn, en⟩ := ok.str hp
    rw [en]; exact nI_zb (by omega) (by omega)
  rw [if_neg h2]
  by_cases h3 : kd = 3
  · rw [if_pos h3]
    obtain ⟨n, hn, en⟩ := ok.str hp
    rw [en]
    have e2 : (100 : Int32) * nI n = nI (100 * n) := pk_mul 100 n
    unfold rtI
    rw [e2, nI_clamp (by omega)]
    have := (rtn_spec (n := 100 * n) (by omega)).1
    exact nI_zb (by omega) (by omega)
  rw [if_neg h3]
  by_cases h4 : kd = 4
  · rw [if_pos h4]
    unfold shS
    split
    · split <;> exact ⟨by decide, by decide⟩
    · exact ⟨by decide, by decide⟩
  rw [if_neg h4]
  by_cases h5 : kd = 5
  · rw [if_pos h5]
    unfold lkS zb
    rw [max_toInt, min_toInt]
    have h0 : (0 : Int32).toInt = 0 := rfl
    have := hf.2
    omega
  rw [if_neg h5]
  by_cases h6 : kd = 6
  · rw [if_pos h6]; exact drS_zb ok hp hb
  rw [if_neg h6]
  exact hr
theorem MK_zb {s : Nat → Int32} {P C : Nat} (hW : WF s P C) {p : Nat} (hp : p < P) (kd : Int32) {b : Int32} (hb : zb b 0 100) : zb (MK s P kd b p) 0 320 := mkS_zb hW.ok hp kd hb
/-- what is seen behind workOut, findMarks -/
def CV (c : zz_H) (P : Nat) (M R : Nat → Int32) : Prop := c 1 7 = nI P ∧ P ≤ 12 ∧ (∀ p, p < P → c 32 p = M p) ∧ ∀ p, p < P → c 28 p = R p
def MV (m : zz_H) (s : Nat → Int32) (P : Nat) (M : Nat → Int32) : Prop := m 1 = s ∧ s 17 = nI P ∧ P ≤ 12 ∧ ∀ p, p < P → m 5 p = M p
theorem c_work {c : zz_H} {s : Nat → Int32} {P C k : Nat} (hW : WF s P C) (hM : PM c 1 s P C) (hk : k < C) (post : Int32 → zz_H → Prop) (kk : ∀ c', SE c c' → CV c' P (MK s P (s (223 + 2 * k)) (s (224 + 2 * k))) (rawS (sc s)) → SC c' (sS s P) s (fun q => s (8 + q)) P → post 0 c') : wX4_workOut (nI k) c post := by
  refine c_workOut hW hM hk _ (fun c' h1 h2 h3 h4 => kk c' h1 ⟨by rw [h1 1 (by omega)]; exact hM.1, hW.2.1, h4, fun p hp => ?_⟩ h3)
  have := hW.2.1
  rw [h3.2.2.2.2.2.2.2.1 p (by omega)]
  exact zsum_congr (fun q _ => if_pos hp)
theorem m_find {m : zz_H} {P C k : Nat} (hW : WF (m 1) P C) (hk : k < C) (post : Int32 → zz_H → Prop) (kk : ∀ m', SM m m' → MV m' (m 1) P (MK (m 1) P (m 1 (223 + 2 * k)) (m 1 (224 + 2 * k))) → post 0 m') : wX5_findMarks (nI k) m post :=
  m_findMarks hW hk _ (fun g hg => kk _ ((SM.rf m).st (by decide)) ⟨zz_st_ne _ _ (by decide), hW.1, hW.2.1, fun p hp => by rw [zz_st_self]; exact hg p hp⟩)
theorem nI_ct (x : Nat) : nI x + 0 = nI x := Int32.add_zero _
/-- how many marks lie at t or above -/
theorem c_marksFrom {c : zz_H} {P : Nat} {M R : Nat → Int32} (h : CV c P M R) (t : Int32) (post : Int32 → Prop) (k : post (nI (fb_ct (fun j => decide (t ≤ M j)) P))) : wX4_marksFrom t c post := by
  have hP := h.2.1
  refine lp_for P (fun j => (nI (fb_ct (fun j => decide (t ≤ M j)) j), nI j)) ?_ ?_
  · intro j hj K hK
    refine ⟨fun z => absurd (show nI P ≤ nI j from h.1 ▸ z) (lt_nle hj (by omega)), fun _ => ?_⟩
    have hK : K (nI (fb_ct (fun j => decide (t ≤ M j)) j + (if decide (t ≤ M j) then 1 else 0)), nI (j + 1)) := hK
    generalize fb_ct (fun j => decide (t ≤ M j)) j = z at hK ⊢
    show vp_in (nI j) 12 ∧ ((c 32 (nI j).toNatClampNeg < t → K (nI z, nI j + 1)) ∧ (¬ c 32 (nI j).toNatClampNeg < t → K (nI z + 1, nI j + 1)))
    rw [nI_clamp (by omega), nI_1, nI_1, h.2.2.1 j hj]
    refine ⟨in_nI (by omega) (by decide), fun q => ?_, fun q => ?_⟩
    · rw [if_neg (by simpa using (fa_of_lt q).2.1)] at hK; exact hK
    · rw [if_pos (by simpa using fa_of_nlt q)] at hK; exact hK
  · intro K
    exact ⟨fun _ => k, fun z => absurd (show c 1 7 ≤ nI P from h.1 ▸ nI_le (Nat.le_refl P) (by omega)) z⟩
