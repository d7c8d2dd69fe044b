/-! gains by losing points -/
def gD (s : Nat → Int32) (p q n : Nat) : Nat → Int32 := upd s (20 + 17 * p + 8 * 0 + q) (s (20 + 17 * p + 8 * 0 + q) - nI n)
def gG (s : Nat → Int32) (P : Nat) (kd b : Int32) (p q n : Nat) : Bool := decide (¬ MK (gD s p q n) P kd b p ≤ MK s P kd b p)
def gA (s : Nat → Int32) (p q : Nat) : Nat := (s (20 + 17 * p + 8 * 0 + q)).toNatClampNeg
def gvj (G : Nat → Bool) (q A : Nat) (z : Nat × Nat) : Nat → Nat × Nat
  | 0 => z
  | j + 1 => if G (A - j) = true ∧ A - j < (gvj G q A z j).1 then (A - j, q) else gvj G q A z j
theorem gv_inv {G : Nat → Bool} {q A : Nat} {z : Nat × Nat} : ∀ j, j ≤ A → (gvj G q A z j = z ∨ ((gvj G q A z j).2 = q ∧ A - j < (gvj G q A z j).1 ∧ (gvj G q A z j).1 ≤ A ∧ G (gvj G q A z j).1 = true ∧ (gvj G q A z j).1 < z.1)) ∧ ∀ n, A - j < n → n ≤ A → G n = true → (gvj G q A z j).1 ≤ n
  | 0, _ => ⟨Or.inl rfl, fun n h1 h2 _ => absurd h1 (by omega)⟩
  | j + 1, hj => by
    obtain ⟨h1, h2⟩ := gv_inv (G := G) (q := q) (A := A) (z := z) j (by omega)
    have e : gvj G q A z (j + 1) = if G (A - j) = true ∧ A - j < (gvj G q A z j).1 then (A - j, q) else gvj G q A z j := rfl
    rw [e]
    generalize gvj G q A z j = y at h1 h2 ⊢
    by_cases c : G (A - j) = true ∧ A - j < y.1
    · rw [if_pos c]
      refine ⟨Or.inr ⟨rfl, ?_, ?_, c.1, ?_⟩, fun n a1 a2 a3 => ?_⟩
      · show A - (j + 1) < A - j
        omega
      · show A - j ≤ A
        omega
      · show A - j < z.1
        rcases h1 with h1 | h1
        · rw [← h1]; exact c.2
        · have := h1.2.2.2.2; have := c.2; omega
      · show A - j ≤ n
        omega
    · rw [if_neg c]
      refine ⟨?_, fun n a1 a2 a3 => ?_⟩
      · rcases h1 with h1 | h1
        · exact Or.inl h1
        · exact Or.inr ⟨h1.1, by have := h1.2.1; omega, h1.2.2.1, h1.2.2.2.1, h1.2.2.2.2⟩
      · by_cases en : n = A - j
        · subst en
          exact Nat.le_of_not_lt (fun w => c ⟨a3, w⟩)
        · exact h2 n (by omega) a2 a3
def gM (G : Nat → Bool) (A bn : Nat) : Nat := fa_first (fun i => G (i + 1)) (min (bn - 1) A)
theorem gv_eq {G : Nat → Bool} {q A : Nat} {z : Nat × Nat} (hz : 1 ≤ z.1) : gvj G q A z A = if gM G A z.1 < min (z.1 - 1) A then (gM G A z.1 + 1, q) else z := by
  obtain ⟨h1, h2⟩ := gv_inv (G := G) (q := q) (A := A) (z := z) A (Nat.le_refl A)
  have f1 := fa_first_le (fun i => G (i + 1)) (min (z.1 - 1) A)
  have f2 := fa_first_no (fun i => G (i + 1)) (min (z.1 - 1) A)
  have f3 := fa_first_yes (fun i => G (i + 1)) (min (z.1 - 1) A)
  unfold gM
  generalize fa_first (fun i => G (i + 1)) (min (z.1 - 1) A) = N at f1 f2 f3 ⊢
  generalize gvj G q A z A = y at h1 h2 ⊢
  obtain ⟨y1, y2⟩ := y
  dsimp only at h1 h2
  have low : G y1 = true → 1 ≤ y1 → N ≤ y1 - 1 := fun g1 g2 => Nat.le_of_not_lt (fun w => by
    have := f2 (y1 - 1) w
    rw [show y1 - 1 + 1 = y1 by omega] at this
    rw [this] at g1
    exact absurd g1 (by decide))
  by_cases c : N < min (z.1 - 1) A
  · rw [if_pos c]
    have g := f3 c
    have := h2 (N + 1) (by omega) (by omega) g
    rcases h1 with h1 | h1
    · exfalso
      rw [← h1] at c hz
      dsimp only at c hz
      omega
    · have := low h1.2.2.2.1 (by omega)
      rw [h1.1, show y1 = N + 1 by omega]
  · rw [if_neg c]
    rcases h1 with h1 | h1
    · exact h1
    · exfalso
      have := low h1.2.2.2.1 (by omega)
      omega
def gout (G : Nat → Nat → Bool) (A : Nat → Nat) : Nat → Nat × Nat
  | 0 => (41, 0)
  | q + 1 => gvj (G q) q (A q) (gout G A q) (A q)
theorem go_inv (G : Nat → Nat → Bool) (A : Nat → Nat) : ∀ q, 1 ≤ (gout G A q).1 ∧ (gout G A q).1 ≤ 41 ∧ ((gout G A q).1 = 41 ∨ (gout G A q).2 < q)
  | 0 => ⟨(by decide : 1 ≤ 41), (by decide : 41 ≤ 41), Or.inl rfl⟩
  | q + 1 => by
    obtain ⟨h1, h2, h3⟩ := go_inv G A q
    obtain ⟨g1, -⟩ := gv_inv (G := G q) (q := q) (A := A q) (z := gout G A q) (A q) (Nat.le_refl _)
    show 1 ≤ (gvj (G q) q (A q) (gout G A q) (A q)).1 ∧ _
    have e : gout G A (q + 1) = gvj (G q) q (A q) (gout G A q) (A q) := rfl
    rw [e]
    generalize gvj (G q) q (A q) (gout G A q) (A q) = y at g1 ⊢
    rcases g1 with g1 | g1
    · rw [g1]
      exact ⟨h1, h2, by omega⟩
    · obtain ⟨a1, a2, a3, a4, a5⟩ := g1
      exact ⟨by omega, by omega, Or.inr (by omega)⟩
def enc (z : Nat × Nat) : Int32 := if z.1 = 41 then -1 else nI (100 * z.2 + z.1)
theorem gD_wf {s : Nat → Int32} {P C p q n : Nat} (hW : WF s P C) (hp : p < P) (hq : q < 8) (hn : n ≤ gA s p q) : WF (gD s p q n) P C := by
  have z := hW.2.2.2.2.2.2.2.1 p q 0 hp hq (by decide)
  have w := (hW.2.2.2.2.1 q hq).2
  refine hW.point hp hq (by decide) ?_
  unfold gA at hn
  obtain ⟨a, ha, e⟩ := zb_nI (x := s (20 + 17 * p + 8 * 0 + q)) (n := 40) ⟨z.1, by have := z.2; omega⟩
  rw [e] at z hn ⊢
  rw [nI_clamp (by omega)] at hn
  obtain ⟨d, rfl⟩ : ∃ d, a = d + n := ⟨a - n, by omega⟩
  rw [← nI_add, show nI d + nI n - nI n = nI d by grind]
  have z2 := z.2
  rw [nI_toInt (by omega)] at z2
  exact nI_zb (by omega) (by omega)
theorem gA_eq {s : Nat → Int32} {P C p q : Nat} (hW : WF s P C) (hp : p < P) (hq : q < 8) : s (20 + 17 * p + 8 * 0 + q) = nI (gA s p q) ∧ gA s p q ≤ 40 := by
  have z := hW.2.2.2.2.2.2.2.1 p q 0 hp hq (by decide)
  have w := (hW.2.2.2.2.1 q hq).2
  obtain ⟨a, ha, e⟩ := zb_nI (x := s (20 + 17 * p + 8 * 0 + q)) (n := 40) ⟨z.1, by have := z.2; omega⟩
  unfold gA
  rw [e, nI_clamp (by omega)]
  exact ⟨rfl, ha⟩
theorem gD_sc {s : Nat → Int32} {p q n p' q' : Nat} (hq : q < 8) (hq' : q' < 8) : sc (gD s p q n) p' q' = if p' = p ∧ q' = q then (s (20 + 17 * p + 8 * 0 + q) + s (20 + 17 * p + 8 * 1 + q) - nI n) / 2 else sc s p' q' := by
  unfold sc gD
  have e0 : 20 + 17 * p' + q' = 20 + 17 * p' + 8 * 0 + q' := by omega
  have e1 : 28 + 17 * p' + q' = 20 + 17 * p' + 8 * 1 + q' := by omega
  rw [e0, e1, pk_un (show 20 + 17 * p' + 8 * 1 + q' ≠ 20 + 17 * p + 8 * 0 + q from ne_pt hq' hq (by decide) (by decide) (by omega))]
  by_cases e : p' = p ∧ q' = q
  · obtain ⟨rfl, rfl⟩ := e
    rw [if_pos ⟨rfl, rfl⟩, pk_us]
    congr 1
    grind
  · rw [if_neg e, pk_un (ne_pt hq' hq (by decide) (by decide) (by omega))]
theorem gain_mk {s : Nat → Int32} {P p q n : Nat} (hP : P ≤ 12) (hp : p < P) (hq : q < 8) (kd : Int32) {b : Int32} (hb : zb b 0 100) : mkS (upS (sS s P) p q ((s (20 + 17 * p + 8 * 0 + q) + s (20 + 17 * p + 8 * 1 + q) - nI n) / 2)) s (fun i => s (8 + i)) P kd b p = MK (gD s p q n) P kd b p := by
  refine mkS_congr (fun p' q' hp' hq' => ?_) (fun q' hq' => ?_) (fun q' hq' => ?_) hp kd hb
  · rw [upS_at, gD_sc hq hq']
    by_cases e : p' = p ∧ q' = q
    · rw [if_pos e, if_pos e]
    · rw [if_neg e, if_neg e]
      exact if_pos hp'
  · exact (pk_un (by omega)).symm
  · exact (pk_un (by omega)).symm
set_option maxHeartbeats 4000000 in
theorem c_lgl {c d : zz_H} {s : Nat → Int32} {P C u p q bn : Nat} (hW : WF s P C) (hM : PM c 1 s P C) (hu : u < C) (hp : p < P) (hq : q < 8) (hb1 : 1 ≤ bn) (hb2 : bn ≤ 41) (hse : SE c d) (hsc : SC d (sS s P) s (fun i => s (8 + i)) P) (post : Int32 → zz_H → Prop)
    (k : ∀ d', SE c d' → SC d' (sS s P) s (fun i => s (8 + i)) P → post (if gM (gG s P (s (223 + 2 * u)) (s (224 + 2 * u)) p q) (gA s p q) bn < min (bn - 1) (gA s p q) then nI (gM (gG s P (s (223 + 2 * u)) (s (224 + 2 * u)) p q) (gA s p q) bn + 1) else 0) d') : wX4_leastGainfulLoss (nI u) (nI p) (nI q) (nI bn - 1) d post := by
  have bP := hW.2.1
  have bC := hW.2.2.2.1
  have hb := (hW.2.2.2.2.2.2.2.2.1 u hu).2
  obtain ⟨eA, bA⟩ := gA_eq hW hp hq
  have z0 := hW.2.2.2.2.2.2.2.1 p q 0 hp hq (by decide)
  have z1 := hW.2.2.2.2.2.2.2.1 p q 1 hp hq (by decide)
  have zq := hW.2.2.2.2.1 q hq
  have f6 : d 6 u = s (223 + 2 * u) := by rw [hse 6 (by omega)]; exact (hM.2.2.2.2.2.2.2.1 u hu).1
  have f7 : d 7 u = s (224 + 2 * u) := by rw [hse 7 (by omega)]; exact (hM.2.2.2.2.2.2.2.1 u hu).2
  have f50 : d 5 (16 * p + 2 * q + 0) = s (20 + 17 * p + 8 * 0 + q) := by rw [hse 5 (by omega)]; exact hM.2.2.2.2.2.2.1 p q 0 hp hq (by decide)
  have f51 : d 5 (16 * p + 2 * q + 1) = s (20 + 17 * p + 8 * 1 + q) := by rw [hse 5 (by omega)]; exact hM.2.2.2.2.2.2.1 p q 1 hp hq (by decide)
  unfold wX4_leastGainfulLoss
  rw [nI_clamp (show u < 2 ^ 31 by omega), f6, f7]
  refine ⟨in_nI (by omega) (by decide), in_nI (by omega) (by decide), c_markOf hsc (sS_ok hW.ok) hp _ hb _ ?_⟩
  rw [MK_sS hp _ hb]
  simp only [spot_eq]
  rw [ix_s0, ix_s1]
  refine ⟨in_nI (by omega) (by decide), in_nI (by omega) (by decide), ?_⟩
  obtain ⟨bm, rfl⟩ : ∃ bm, bn = bm + 1 := ⟨bn - 1, by omega⟩
  rw [show nI (bm + 1) - 1 = nI bm from nI_pred bm]
  rw [show bm + 1 - 1 = bm by omega] at k
  have f1 := fa_first_le (fun i => gG s P (s (223 + 2 * u)) (s (224 + 2 * u)) p q (i + 1)) (min bm (gA s p q))
  have f2 := fa_first_no (fun i => gG s P (s (223 + 2 * u)) (s (224 + 2 * u)) p q (i + 1)) (min bm (gA s p q))
  have f3 := fa_first_yes (fun i => gG s P (s (223 + 2 * u)) (s (224 + 2 * u)) p q (i + 1)) (min bm (gA s p q))
  have eg : gM (gG s P (s (223 + 2 * u)) (s (224 + 2 * u)) p q) (gA s p q) (bm + 1) = fa_first (fun i => gG s P (s (223 + 2 * u)) (s (224 + 2 * u)) p q (i + 1)) (min bm (gA s p q)) := rfl
  rw [eg] at k
  generalize fa_first (fun i => gG s P (s (223 + 2 * u)) (s (224 + 2 * u)) p q (i + 1)) (min bm (gA s p q)) = N at f1 f2 f3 k
  have body : ∀ (j : Nat) (h : zz_H) (K : Int32 × zz_H → Prop), j < bm → j < gA s p q → SE c h → SC h (sS s P) s (fun i => s (8 + i)) P → (∀ h', SE c h' → SC h' (sS s P) s (fun i => s (8 + i)) P → (gG s P (s (223 + 2 * u)) (s (224 + 2 * u)) p q (j + 1) = false → K (nI (j + 1 + 1), h')) ∧ (gG s P (s (223 + 2 * u)) (s (224 + 2 * u)) p q (j + 1) = true → post (nI (j + 1)) h')) → wX4_leastGainfulLoss_b80 (nI u) (nI p) (nI q) (nI bm) d post (MK s P (s (223 + 2 * u)) (s (224 + 2 * u)) p) (nI (16 * p + 2 * q + 0)) (nI (16 * p + 2 * q + 1)) K (nI (j + 1)) h := by
    intro j h K hj1 hj2 hh1 hh2 kk
    unfold wX4_leastGainfulLoss_b80
    rw [nI_clamp (show 16 * p + 2 * q + 0 < 2 ^ 31 by omega), nI_clamp (show 16 * p + 2 * q + 1 < 2 ^ 31 by omega), f50, f51, nI_clamp (show u < 2 ^ 31 by omega), f6, f7]
    refine ⟨fun z => absurd z (nI_nlt (by omega) (by omega)), fun _ => ⟨fun z => absurd (show nI (gA s p q) < nI (j + 1) from eA ▸ z) (nI_nlt (by omega) (by omega)), fun _ => ?_⟩⟩
    refine c_setScore hh2 bP hp hq _ _ (fun h1 g1 s1 => ?_)
    have wd := gD_wf hW hp hq (n := j + 1) (by omega)
    have ok : OK (upS (sS s P) p q ((s (20 + 17 * p + 8 * 0 + q) + s (20 + 17 * p + 8 * 1 + q) - nI (j + 1)) / 2)) s P := by
      refine ⟨bP, hW.2.2.2.2.1, fun p' q' hp' hq' => ?_⟩
      rw [upS_at]
      by_cases e : p' = p ∧ q' = q
      · rw [if_pos e, e.2]
        have := wd.ok.2.2 p q hp hq
        rw [gD_sc hq hq, if_pos ⟨rfl, rfl⟩] at this
        unfold gD at this
        rw [pk_un (by omega)] at this
        exact this
      · rw [if_neg e]; exact (sS_ok hW.ok).2.2 p' q' hp' hq'
    refine c_markOf s1 ok hp _ hb _ ?_
    rw [gain_mk bP hp hq _ hb]
    have back : ∀ y : Int32, (∀ h', SE c h' → SC h' (sS s P) s (fun i => s (8 + i)) P → (y = 0 → K (nI (j + 1 + 1), h')) ∧ (¬ y = 0 → post (nI (j + 1)) h')) → wX4_leastGainfulLoss_j132 (nI p) (nI q) d post (nI (16 * p + 2 * q + 0)) (nI (16 * p + 2 * q + 1)) (nI (j + 1)) K h1 y := by
      intro y ky
      unfold wX4_leastGainfulLoss_j132
      rw [nI_clamp (show 16 * p + 2 * q + 0 < 2 ^ 31 by omega), nI_clamp (show 16 * p + 2 * q + 1 < 2 ^ 31 by omega), f50, f51]
      refine c_setScore s1 bP hp hq _ _ (fun h2 g2 s2 => ?_)
      rw [nI_1]
      refine ky h2 (fun i hi => ?_) (s2.ext (fun p' q' hp' hq' => ?_))
      · rw [g2 i (by omega) (by omega) (by omega), g1 i (by omega) (by omega) (by omega)]
        exact hh1 i hi
      · rw [upS_at, upS_at]
        by_cases e : p' = p ∧ q' = q
        · rw [if_pos e, e.1, e.2]
          unfold sS sc
          rw [if_pos hp, show 20 + 17 * p + q = 20 + 17 * p + 8 * 0 + q by omega, show 28 + 17 * p + q = 20 + 17 * p + 8 * 1 + q by omega]
        · rw [if_neg e, if_neg e]
    refine ⟨fun z => back 0 (fun h' a1 a2 => ⟨fun _ => (kk h' a1 a2).1 ?_, fun w => absurd rfl w⟩), fun z => back 1 (fun h' a1 a2 => ⟨fun w => absurd w (by decide), fun _ => (kk h' a1 a2).2 ?_⟩)⟩
    · unfold gG
      exact decide_eq_false (fun w => w z)
    · unfold gG
      exact decide_eq_true z
  refine lp_inv N (fun j z => z.1 = nI (j + 1) ∧ SE c z.2 ∧ SC z.2 (sS s P) s (fun i => s (8 + i)) P) ⟨rfl, hse, hsc⟩ ?_ ?_
  · rintro j ⟨x, h⟩ K hj ⟨e1, a1, a2⟩ hK
    dsimp only at e1 a1 a2
    subst e1
    refine body j h K (by omega) (by omega) a1 a2 (fun h' b1 b2 => ⟨fun _ => hK _ ⟨rfl, b1, b2⟩, fun w => ?_⟩)
    have := f2 j hj
    rw [this] at w
    exact absurd w (by decide)
  · rintro ⟨x, h⟩ K ⟨e1, a1, a2⟩
    dsimp only at e1 a1 a2
    subst e1
    by_cases cN : N < min bm (gA s p q)
    · have g := f3 cN
      refine body N h K (by omega) (by omega) a1 a2 (fun h' b1 b2 => ⟨fun w => ?_, fun _ => ?_⟩)
      · rw [g] at w
        exact absurd w (by decide)
      · have := k h' b1 b2
        rw [if_pos cN] at this
        exact this
    · have kk := k h a1 a2
      rw [if_neg cN] at kk
      show wX4_leastGainfulLoss_b80 (nI u) (nI p) (nI q) (nI bm) d post (MK s P (s (223 + 2 * u)) (s (224 + 2 * u)) p) (nI (16 * p + 2 * q + 0)) (nI (16 * p + 2 * q + 1)) K (nI (N + 1)) h
      unfold wX4_leastGainfulLoss_b80
      rw [nI_clamp (show 16 * p + 2 * q + 0 < 2 ^ 31 by omega), f50, eA]
      refine ⟨fun _ => kk, fun w1 => ⟨fun _ => kk, fun w2 => ?_⟩⟩
      exfalso
      have q1 : N + 1 ≤ bm := Nat.le_of_not_lt (fun z => w1 (nI_lt z (by omega)))
      have q2 : N + 1 ≤ gA s p q := Nat.le_of_not_lt (fun z => w2 (nI_lt z (by omega)))
      omega
def gS (s : Nat → Int32) (P u p : Nat) (q : Nat) : Nat × Nat := gout (gG s P (s (223 + 2 * u)) (s (224 + 2 * u)) p) (gA s p) q
theorem c_gainOf {c d : zz_H} {s : Nat → Int32} {P C u p : Nat} (hW : WF s P C) (hM : PM c 1 s P C) (hu : u < C) (hp : p < P) (hse : SE c d) (hsc : SC d (sS s P) s (fun i => s (8 + i)) P) (post : Int32 → zz_H → Prop) (k : ∀ d', SE c d' → SC d' (sS s P) s (fun i => s (8 + i)) P → post (enc (gS s P u p 8)) d') : wX4_gainOf (nI u) (nI p) d post := by
  unfold wX4_gainOf
  refine lp_inv 8 (fun j z => z.1 = (if (gS s P u p j).1 = 41 then -1 else nI (gS s P u p j).2) ∧ z.2.1 = nI (gS s P u p j).1 ∧ z.2.2.1 = nI j ∧ SE c z.2.2.2 ∧ SC z.2.2.2 (sS s P) s (fun i => s (8 + i)) P) ⟨rfl, rfl, rfl, hse, hsc⟩ ?_ ?_
  · rintro j ⟨x, y, w, h⟩ K hj ⟨e1, e2, e3, a1, a2⟩ hK
    dsimp only at e1 e2 e3 a1 a2
    subst e1 e2 e3
    obtain ⟨i1, i2, i3⟩ := go_inv (gG s P (s (223 + 2 * u)) (s (224 + 2 * u)) p) (gA s p) j
    have e := gv_eq (G := gG s P (s (223 + 2 * u)) (s (224 + 2 * u)) p j) (q := j) (A := gA s p j) (z := gS s P u p j) i1
    have e' : gS s P u p (j + 1) = gvj (gG s P (s (223 + 2 * u)) (s (224 + 2 * u)) p j) j (gA s p j) (gS s P u p j) (gA s p j) := rfl
    rw [← e'] at e
    have i1 : 1 ≤ (gS s P u p j).1 := i1
    have i2 : (gS s P u p j).1 ≤ 41 := i2
    have bA := (gA_eq hW hp hj).2
    rw [e] at hK
    generalize gS s P u p j = z at i1 i2 hK ⊢
    refine ⟨fun q => absurd q (lt_nle (N := 8) hj (by decide)), fun _ => ?_⟩
    refine c_lgl hW hM hu hp hj i1 i2 a1 a2 _ (fun d' b1 b2 => ?_)
    dsimp only
    rw [nI_1]
    generalize gM (gG s P (s (223 + 2 * u)) (s (224 + 2 * u)) p j) (gA s p j) z.1 = N at hK ⊢
    by_cases cN : N < min (z.1 - 1) (gA s p j)
    · rw [if_pos cN] at hK ⊢
      refine ⟨fun q => absurd q (nI_nle (by omega) (by omega)), fun _ => hK _ ⟨?_, rfl, rfl, b1, b2⟩⟩
      dsimp only
      rw [if_neg (by omega)]
    · rw [if_neg cN] at hK ⊢
      exact ⟨fun _ => hK _ ⟨rfl, rfl, rfl, b1, b2⟩, fun q => absurd (by decide) q⟩
  · rintro ⟨x, y, w, h⟩ K ⟨e1, e2, e3, a1, a2⟩
    dsimp only at e1 e2 e3 a1 a2
    subst e1 e2 e3
    have kk := k h a1 a2
    obtain ⟨i1, i2, i3⟩ := go_inv (gG s P (s (223 + 2 * u)) (s (224 + 2 * u)) p) (gA s p) 8
    have i3 : (gS s P u p 8).1 = 41 ∨ (gS s P u p 8).2 < 8 := i3
    unfold enc at kk
    generalize gS s P u p 8 = z at i3 kk ⊢
    refine ⟨fun _ => ?_, fun q => absurd (show nI 8 ≤ nI 8 from nI_le (Nat.le_refl 8) (by decide)) q⟩
    unfold wX4_gainOf_j48
    dsimp only
    by_cases e : z.1 = 41
    · rw [if_pos e] at kk ⊢
      exact ⟨fun q => absurd q (by decide), fun _ => kk⟩
    · rw [if_neg e] at kk ⊢
      refine ⟨fun _ => ?_, fun q => absurd (nI_pos' (by omega)) q⟩
      show post (nI 100 * nI z.2 + nI z.1) h
      rw [pk_mul, nI_add]
      exact kk
theorem upd_upd (s : Nat → Int32) (i : Nat) (v w : Int32) : upd (upd s i v) i w = upd s i w := by
  funext j
  by_cases e : j = i
  · subst e; rw [pk_us, pk_us]
  · rw [pk_un e, pk_un e, pk_un e]
theorem upd_id (s : Nat → Int32) (i : Nat) : upd s i (s i) = s := by
  funext j
  by_cases e : j = i
  · subst e; rw [pk_us]
  · rw [pk_un e]
theorem nI_dn (a : Nat) : nI (a + 1) + -1 = nI a := by
  rw [← nI_1]
  grind
theorem nI_div100 {a b : Nat} (ha : a < 8) (hb : b < 100) : nI (100 * a + b) / 100 = nI a ∧ zz_rem (nI (100 * a + b)) 100 = nI b := by
  constructor
  · show nI (100 * a + b) / nI 100 = _
    rw [pk_div (by omega) (by decide) (by decide)]
    congr 1
    omega
  · have := pk_rem (a := 100 * a + b) (d := 100) (by omega) (by decide) (by decide)
    unfold zz_rem
    refine Eq.trans this ?_
    congr 1
    omega
set_option maxHeartbeats 4000000 in
theorem m_gaining {m : zz_H} {P C u p : Nat} (hW : WF (m 1) P C) (hu : u < C) (hp : p < P) (post : Int32 → zz_H → Prop) (k : post (enc (gS (m 1) P u p 8)) m) : wX5_gaining (nI u) (nI p) m post := by
  have bP := hW.2.1
  have bC := hW.2.2.2.1
  unfold wX5_gaining
  refine m_markOf hW hu hp _ ?_
  show ∃ t9, zz_lp (fun K (s : Int32 × Int32 × zz_H) => wX5_gaining_b13 (nI u) (nI p) post (MK (m 1) P (m 1 (223 + 2 * u)) (m 1 (224 + 2 * u)) p) K s.1 s.2.1 s.2.2) t9 (-1, 0, m)
  refine lp_for 8 (fun j => (enc (gS (m 1) P u p j), nI j, m)) ?_ ?_
  · intro q hq K hK
    obtain ⟨i1, i2, i3⟩ := go_inv (gG (m 1) P (m 1 (223 + 2 * u)) (m 1 (224 + 2 * u)) p) (gA (m 1) p) q
    have i2 : (gS (m 1) P u p q).1 ≤ 41 := i2
    have i3 : (gS (m 1) P u p q).1 = 41 ∨ (gS (m 1) P u p q).2 < q := i3
    have hK : K (enc (gvj (gG (m 1) P (m 1 (223 + 2 * u)) (m 1 (224 + 2 * u)) p q) q (gA (m 1) p q) (gS (m 1) P u p q) (gA (m 1) p q)), nI (q + 1), m) := hK
    obtain ⟨eA, bA⟩ := gA_eq hW hp hq
    have hGA : ∀ n, n ≤ gA (m 1) p q → WF (gD (m 1) p q n) P C := fun n hn => gD_wf hW hp hq hn
    have hGG : ∀ n, gG (m 1) P (m 1 (223 + 2 * u)) (m 1 (224 + 2 * u)) p q n = decide (¬ MK (gD (m 1) p q n) P (m 1 (223 + 2 * u)) (m 1 (224 + 2 * u)) p ≤ MK (m 1) P (m 1 (223 + 2 * u)) (m 1 (224 + 2 * u)) p) := fun n => rfl
    have hinv := fun j hj => (gv_inv (G := gG (m 1) P (m 1 (223 + 2 * u)) (m 1 (224 + 2 * u)) p q) (q := q) (A := gA (m 1) p q) (z := gS (m 1) P u p q) j hj).1
    generalize gG (m 1) P (m 1 (223 + 2 * u)) (m 1 (224 + 2 * u)) p q = G at hK hGG hinv
    generalize gS (m 1) P u p q = z at hK hinv i2 i3 ⊢
    generalize gA (m 1) p q = A at hK hinv hGA bA eA
    refine ⟨fun w => absurd w (lt_nle (N := 8) hq (by decide)), fun _ => ?_⟩
    dsimp only
    rw [at_eq, ix_a0, nI_clamp (by omega)]
    refine ⟨in_nI (by omega) (by decide), ?_⟩
    rw [eA]
    refine lp_inv A (fun j y => y.1 = enc (gvj G q A z j) ∧ y.2.1 = nI (A - j) ∧ ∃ w, y.2.2 = zz_st m 1 (upd (m 1) (20 + 17 * p + 8 * 0 + q) w)) ⟨rfl, rfl, m 1 (20 + 17 * p + 8 * 0 + q), by rw [upd_id, st_id]⟩ ?_ ?_
    · rintro j ⟨x, y, h⟩ K' hj ⟨e1, e2, w, e3⟩ hK'
      dsimp only at e1 e2 e3
      subst e1 e2 e3
      have hi := hinv j (by omega)
      have es : gvj G q A z (j + 1) = if G (A - j) = true ∧ A - j < (gvj G q A z j).1 then (A - j, q) else gvj G q A z j := rfl
      rw [es] at hK'
      generalize gvj G q A z j = y at hi hK' ⊢
      unfold wX5_gaining_b38
      dsimp only
      refine ⟨fun w => absurd w (nI_nle (by omega) (by omega)), fun _ => ?_⟩
      rw [at_eq, ix_a0, nI_clamp (by omega), sto_eq, zz_st_self, st_st, upd_upd, eA]
      refine ⟨in_nI (by omega) (by decide), ?_⟩
      have eD : upd (m 1) (20 + 17 * p + 8 * 0 + q) (nI A - nI (A - j)) = gD (m 1) p q (A - j) := by unfold gD; rw [eA]
      rw [eD]
      have wd := hGA (A - j) (by omega)
      have d223 : gD (m 1) p q (A - j) (223 + 2 * u) = m 1 (223 + 2 * u) := pk_un (by omega)
      have d224 : gD (m 1) p q (A - j) (224 + 2 * u) = m 1 (224 + 2 * u) := pk_un (by omega)
      have hex : ∃ w, zz_st m 1 (gD (m 1) p q (A - j)) = zz_st m 1 (upd (m 1) (20 + 17 * p + 8 * 0 + q) w) := ⟨_, by rw [← eD]⟩
      refine m_markOf (P := P) (by rw [zz_st_self]; exact wd) hu hp _ ?_
      rw [zz_st_self, d223, d224]
      have hg := hGG (A - j)
      have dn : nI (A - j) + -1 = nI (A - (j + 1)) := by
        rw [show A - j = (A - (j + 1)) + 1 by omega]
        exact nI_dn _
      have keep : ¬ (G (A - j) = true ∧ A - j < y.1) → K' (enc y, nI (A - j) + -1, zz_st m 1 (gD (m 1) p q (A - j))) := fun cc => by
        rw [if_neg cc] at hK'
        exact hK' _ ⟨rfl, dn, hex⟩
      have take : G (A - j) = true ∧ A - j < y.1 → wX5_gaining_j107 (nI q) (nI (A - j)) K' (zz_st m 1 (gD (m 1) p q (A - j))) := fun cc => by
        rw [if_pos cc] at hK'
        unfold wX5_gaining_j107
        refine hK' _ ⟨?_, dn, hex⟩
        show nI 100 * nI q + nI (A - j) = enc (A - j, q)
        unfold enc
        rw [pk_mul, nI_add, if_neg (by show ¬ A - j = 41; omega)]
      refine ⟨fun w => ?_, fun w => ?_⟩
      · have gf : G (A - j) = false := by rw [hg]; exact decide_eq_false (fun v => v w)
        unfold wX5_gaining_j75
        exact ⟨fun _ => keep (fun cc => by rw [gf] at cc; exact absurd cc.1 (by decide)), fun v => absurd rfl v⟩
      · have gt : G (A - j) = true := by rw [hg]; exact decide_eq_true w
        unfold wX5_gaining_j75
        refine ⟨fun v => absurd v (by decide), fun _ => ?_⟩
        by_cases e41 : y.1 = 41
        · have een : enc y = -1 := if_pos e41
          rw [een]
          exact ⟨fun _ => take ⟨gt, by omega⟩, fun v => absurd (by decide) v⟩
        · have y2 : y.1 < 41 ∧ y.2 < 8 ∧ (y.2 = q → A - j < y.1) := by
            rcases hi with hi | hi
            · rw [hi] at e41 ⊢
              exact ⟨by omega, by omega, fun v => by omega⟩
            · exact ⟨by omega, by omega, fun _ => hi.2.1⟩
          have een : enc y = nI (100 * y.2 + y.1) := if_neg e41
          obtain ⟨dv, rm⟩ := nI_div100 (a := y.2) (b := y.1) y2.2.1 (by omega)
          rw [een] at keep ⊢
          rw [rm, dv]
          refine ⟨fun _ => take ⟨gt, ?_⟩, fun _ => ⟨fun v => take ⟨gt, (nI_ltI (by omega) (by omega)).mp v⟩, fun v => ⟨fun _ => keep (fun cc => v (nI_lt cc.2 (by omega))), fun v2 => take ⟨gt, y2.2.2 ((nI_eq (by omega) (by omega)).mp v2)⟩⟩⟩⟩
          rename_i v
          exact absurd v (nI_pos (by omega))
    · rintro ⟨x, y, h⟩ K' ⟨e1, e2, w, e3⟩
      dsimp only at e1 e2 e3
      subst e1 e2 e3
      unfold wX5_gaining_b38
      dsimp only
      rw [show A - A = 0 by omega]
      refine ⟨fun _ => ?_, fun v => absurd (by decide) v⟩
      unfold wX5_gaining_j128
      rw [at_eq, ix_a0, nI_clamp (by omega), sto_eq, zz_st_self, st_st, upd_upd, nI_1, upd_id, st_id]
      exact ⟨in_nI (by omega) (by decide), hK⟩
  · intro K
    exact ⟨fun _ => k, fun w => absurd (show nI 8 ≤ nI 8 from nI_le (Nat.le_refl 8) (by decide)) w⟩
theorem OS.se {c d : zz_H} (h : OS c d) : SE c d := fun k hk => h k (by omega)
theorem enc_neg (z : Nat × Nat) (h : z.1 ≤ 41) (h2 : z.2 < 8 ∨ z.1 = 41) : (0 ≤ enc z) ↔ z.1 ≠ 41 := by
  unfold enc
  by_cases e : z.1 = 41
  · rw [if_pos e]
    exact ⟨fun w => absurd w (by decide), fun w => absurd e w⟩
  · rw [if_neg e]
    exact ⟨fun _ => e, fun _ => nI_pos' (by omega)⟩
set_option maxRecDepth 20000 in
set_option maxHeartbeats 4000000 in
theorem op_gainsBy {c m : zz_H} (hR : Rel c m) (p1 : Int32) (p2 : Int32) : wX4_gainsBy p1 p2 c (fun r c' => wX5_gainsBy p1 p2 m (fun r' m' => r = r' ∧ Rel c' m')) := by
  obtain ⟨⟨P, C, hW, hM⟩, hK, hF, hT, hS⟩ := id hR
  have eP : c 1 7 = nI P := hM.1
  have eC : c 1 8 = nI C := hM.2.1
  have eP' : m 1 17 = nI P := hW.1
  have eC' : m 1 18 = nI C := hW.2.2.1
  have bP : P ≤ 12 := hW.2.1
  have bC : C ≤ 6 := hW.2.2.2.1
  unfold wX4_gainsBy wX5_gainsBy 
  by_cases h0 : (0 : Int32) ≤ p1 ∧ p1 ≤ nI C - 1
  case neg =>
    simp only [tell0, tell1, tell2, tell3, tell4, tell5, tell6, finds0, finds1, finds2, finds3, finds4, finds5, finds6, c_isQuestion, c_isMarker, c_isKind, c_isBy, c_isLine, c_isSpot, c_isSheet, c_isPupil, c_isCurve, m_isQuestion, m_isLine, m_isOne, m_isPupil, m_isCurve, within_eq, in_eq, wl_ge0, wl_ge1, wl_le1, wl_le3, wl_le4, wl_le5, wl_le6, wl_le7, wl_le9, wl_le12, wl_le40, wl_le100, wl_le400, wl_gem1, wl_ww, zz_10, not_false_eq_true, not_true_eq_false, true_and, and_true, false_implies, true_implies, forall_const, eP, eC, eP', eC', if_neg h0]
    exact hR.find (i := 0) (by decide)
  by_cases h1 : (0 : Int32) ≤ p2 ∧ p2 ≤ nI P - 1
  case neg =>
    simp only [tell0, tell1, tell2, tell3, tell4, tell5, tell6, finds0, finds1, finds2, finds3, finds4, finds5, finds6, c_isQuestion, c_isMarker, c_isKind, c_isBy, c_isLine, c_isSpot, c_isSheet, c_isPupil, c_isCurve, m_isQuestion, m_isLine, m_isOne, m_isPupil, m_isCurve, within_eq, in_eq, wl_ge0, wl_ge1, wl_le1, wl_le3, wl_le4, wl_le5, wl_le6, wl_le7, wl_le9, wl_le12, wl_le40, wl_le100, wl_le400, wl_gem1, wl_ww, zz_10, not_false_eq_true, not_true_eq_false, true_and, and_true, false_implies, true_implies, forall_const, eP, eC, eP', eC', if_pos h0, if_neg h1]
    exact hR.find (i := 0) (by decide)
  simp only [tell0, tell1, tell2, tell3, tell4, tell5, tell6, finds0, finds1, finds2, finds3, finds4, finds5, finds6, c_isQuestion, c_isMarker, c_isKind, c_isBy, c_isLine, c_isSpot, c_isSheet, c_isPupil, c_isCurve, m_isQuestion, m_isLine, m_isOne, m_isPupil, m_isCurve, within_eq, in_eq, wl_ge0, wl_ge1, wl_le1, wl_le3, wl_le4, wl_le5, wl_le6, wl_le7, wl_le9, wl_le12, wl_le40, wl_le100, wl_le400, wl_gem1, wl_ww, zz_10, not_false_eq_true, not_true_eq_false, true_and, and_true, false_implies, true_implies, forall_const, eP, eC, eP', eC', if_pos h0, if_pos h1]
  obtain ⟨u, hu, rfl⟩ := idx_of (by omega) h0
  obtain ⟨p, hp, rfl⟩ := idx_of (by omega) h1
  refine c_read hM bP _ (fun d ho hs => c_gainOf hW hM hu hp ho.se hs _ (fun d' hse hsc => ?_))
  have hr : Rel d' m := hR.se hse (SM.rf m)
  refine ⟨fun z => m_gaining hW hu hp _ ⟨fun _ => ⟨rfl, hr⟩, fun w => absurd z w⟩, fun z => m_gaining hW hu hp _ ⟨fun w => absurd w z, fun _ => ?_⟩⟩
  first
    | exact ⟨rfl, hr.find (i := 3) (by decide)⟩
    | exact ⟨trivial, hr.find (i := 3) (by decide)⟩
    | exact hr.find (i := 3) (by decide)
set_option maxRecDepth 20000 in
set_option maxHeartbeats 4000000 in
theorem op_gains {c m : zz_H} (hR : Rel c m) (p1 : Int32) : wX4_gains p1 c (fun r c' => wX5_gains p1 m (fun r' m' => r = r' ∧ Rel c' m')) := by
  obtain ⟨⟨P, C, hW, hM⟩, hK, hF, hT, hS⟩ := id hR
  have eP : c 1 7 = nI P := hM.1
  have eC : c 1 8 = nI C := hM.2.1
  have eP' : m 1 17 = nI P := hW.1
  have eC' : m 1 18 = nI C := hW.2.2.1
  have bP : P ≤ 12 := hW.2.1
  have bC : C ≤ 6 := hW.2.2.2.1
  unfold wX4_gains wX5_gains 
  by_cases h0 : (0 : Int32) ≤ p1 ∧ p1 ≤ nI C - 1
  case neg =>
    simp only [tell0, tell1, tell2, tell3, tell4, tell5, tell6, finds0, finds1, finds2, finds3, finds4, finds5, finds6, c_isQuestion, c_isMarker, c_isKind, c_isBy, c_isLine, c_isSpot, c_isSheet, c_isPupil, c_isCurve, m_isQuestion, m_isLine, m_isOne, m_isPupil, m_isCurve, within_eq, in_eq, wl_ge0, wl_ge1, wl_le1, wl_le3, wl_le4, wl_le5, wl_le6, wl_le7, wl_le9, wl_le12, wl_le40, wl_le100, wl_le400, wl_gem1, wl_ww, zz_10, not_false_eq_true, not_true_eq_false, true_and, and_true, false_implies, true_implies, forall_const, eP, eC, eP', eC', if_neg h0]
    exact hR.find (i := 0) (by decide)
  simp only [tell0, tell1, tell2, tell3, tell4, tell5, tell6, finds0, finds1, finds2, finds3, finds4, finds5, finds6, c_isQuestion, c_isMarker, c_isKind, c_isBy, c_isLine, c_isSpot, c_isSheet, c_isPupil, c_isCurve, m_isQuestion, m_isLine, m_isOne, m_isPupil, m_isCurve, within_eq, in_eq, wl_ge0, wl_ge1, wl_le1, wl_le3, wl_le4, wl_le5, wl_le6, wl_le7, wl_le9, wl_le12, wl_le40, wl_le100, wl_le400, wl_gem1, wl_ww, zz_10, not_false_eq_true, not_true_eq_false, true_and, and_true, false_implies, true_implies, forall_const, eP, eC, eP', eC', if_pos h0]
  obtain ⟨u, hu, rfl⟩ := idx_of (by omega) h0
  have md : ∀ post : Int32 → zz_H → Prop, post (cbB (fun p => decide (0 ≤ enc (gS (m 1) P u p 8))) P) m → ∃ t9, zz_lp (fun K (s : Int32 × Int32 × zz_H) => wX5_gains_b19 (nI u) post K s.1 s.2.1 s.2.2) t9 (0, 0, m) := by
    intro post kk
    refine lp_for P (fun j => (cbB (fun p => decide (0 ≤ enc (gS (m 1) P u p 8))) j, nI j, m)) ?_ ?_
    · intro j hj K hK
      have hK : K (if decide (0 ≤ enc (gS (m 1) P u j 8)) then cbB (fun p => decide (0 ≤ enc (gS (m 1) P u p 8))) j ||| (1 <<< (nI j &&& 31)) else cbB (fun p => decide (0 ≤ enc (gS (m 1) P u p 8))) j, nI (j + 1), m) := hK
      generalize cbB (fun p => decide (0 ≤ enc (gS (m 1) P u p 8))) j = z at hK ⊢
      refine ⟨fun w => absurd (show nI P ≤ nI j from eP' ▸ w) (lt_nle hj (by omega)), fun _ => m_gaining hW hu hj _ ?_⟩
      dsimp only
      rw [nI_1, Int32.or_zero]
      refine ⟨fun w => ?_, fun w => ?_⟩
      · rw [if_pos (decide_eq_true w)] at hK; exact hK
      · rw [if_neg (by simpa using w)] at hK; exact hK
    · intro K
      exact ⟨fun _ => kk, fun w => absurd (show m 1 17 ≤ nI P from eP' ▸ nI_le (Nat.le_refl P) (by omega)) w⟩
  refine c_read hM bP _ (fun d ho hs => ?_)
  refine lp_inv P (fun j z => z.1 = cbB (fun p => decide (0 ≤ enc (gS (m 1) P u p 8))) j ∧ z.2.1 = nI j ∧ SE c z.2.2 ∧ SC z.2.2 (sS (m 1) P) (m 1) (fun i => m 1 (8 + i)) P) ⟨rfl, rfl, ho.se, hs⟩ ?_ ?_
  · rintro j ⟨x, y, h⟩ K hj ⟨e1, e2, a1, a2⟩ hK
    dsimp only at e1 e2 a1 a2
    subst e1 e2
    have hK : ∀ s', (s'.1 = (if decide (0 ≤ enc (gS (m 1) P u j 8)) then cbB (fun p => decide (0 ≤ enc (gS (m 1) P u p 8))) j ||| (1 <<< (nI j &&& 31)) else cbB (fun p => decide (0 ≤ enc (gS (m 1) P u p 8))) j) ∧ s'.2.1 = nI (j + 1) ∧ SE c s'.2.2 ∧ SC s'.2.2 (sS (m 1) P) (m 1) (fun i => m 1 (8 + i)) P) → K s' := hK
    generalize cbB (fun p => decide (0 ≤ enc (gS (m 1) P u p 8))) j = z at hK ⊢
    have e7 : h 1 7 = nI P := by rw [a1 1 (by omega)]; exact eP
    refine ⟨fun w => absurd (show nI P ≤ nI j from e7 ▸ w) (lt_nle hj (by omega)), fun _ => c_gainOf hW hM hu hj a1 a2 _ (fun d' hse hsc => ?_)⟩
    dsimp only
    rw [nI_1]
    refine ⟨fun w => hK _ ⟨?_, rfl, hse, hsc⟩, fun w => hK _ ⟨?_, rfl, hse, hsc⟩⟩
    · rw [if_neg (by simpa using (fa_of_lt w).2.1)]
    · rw [if_pos (decide_eq_true (fa_of_nlt w))]
  · rintro ⟨x, y, h⟩ K ⟨e1, e2, a1, a2⟩
    dsimp only at e1 e2 a1 a2
    subst e1 e2
    have e7 : h 1 7 = nI P := by rw [a1 1 (by omega)]; exact eP
    refine ⟨fun _ => md _ ⟨rfl, hR.se a1 (SM.rf m)⟩, fun w => absurd (show h 1 7 ≤ nI P from e7 ▸ nI_le (Nat.le_refl P) (by omega)) w⟩
