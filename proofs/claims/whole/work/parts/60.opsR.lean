/-! runs copied, loaded, judged -/
theorem c_hasRun {c : zz_H} {a n : Nat} (e : c a 2 = nI n) (hn : n ≤ 40) (x l : Int32) (post : Int32 → Prop) : wX2_hasRun a x l c post = post (if 0 ≤ x.toInt ∧ 0 ≤ l.toInt ∧ x.toInt + l.toInt ≤ n then 1 else 0) := by
  unfold wX2_hasRun
  rw [e]
  have z0 : (0 : Int32).toInt = 0 := rfl
  have en : (nI n).toInt = n := nI_toInt (by omega)
  apply propext
  by_cases h1 : x < 0
  · rw [if_neg (by rw [fa_lt] at h1; omega)]
    exact ⟨fun z => z.1 h1, fun z => ⟨fun _ => z, fun q => absurd h1 q⟩⟩
  by_cases h2 : l < 0
  · rw [if_neg (by rw [fa_lt] at h2; omega)]
    exact ⟨fun z => (z.2 h1).1 h2, fun z => ⟨fun q => absurd q h1, fun _ => ⟨fun _ => z, fun q => absurd h2 q⟩⟩⟩
  by_cases h3 : nI n < l
  · rw [if_neg (by rw [fa_lt] at h1 h2 h3; omega)]
    exact ⟨fun z => ((z.2 h1).2 h2).1 h3, fun z => ⟨fun q => absurd q h1, fun _ => ⟨fun q => absurd q h2, fun _ => ⟨fun _ => z, fun q => absurd h3 q⟩⟩⟩⟩
  have b1 := h1; have b2 := h2; have b3 := h3
  rw [fa_lt] at b1 b2 b3
  have es : (nI n - l).toInt = n - l.toInt := by rw [fb_subI (by omega) (by omega), en]
  by_cases h4 : nI n - l < x
  · rw [if_neg (by rw [fa_lt] at h4; omega)]
    exact ⟨fun z => (((z.2 h1).2 h2).2 h3).1 h4, fun z => ⟨fun q => absurd q h1, fun _ => ⟨fun q => absurd q h2, fun _ => ⟨fun q => absurd q h3, fun _ => ⟨fun _ => z, fun q => absurd h4 q⟩⟩⟩⟩⟩
  · rw [if_pos (by rw [fa_lt] at h4; omega)]
    exact ⟨fun z => (((z.2 h1).2 h2).2 h3).2 h4, fun z => ⟨fun q => absurd q h1, fun _ => ⟨fun q => absurd q h2, fun _ => ⟨fun q => absurd q h3, fun _ => ⟨fun q => absurd q h4, fun _ => z⟩⟩⟩⟩⟩
def tcS (f t : Nat → Int32) (x : Nat) : Nat → (Nat → Int32)
  | 0 => t
  | j + 1 => upd (tcS f t x j) j (f (x + j))
def wcS (t f : Nat → Int32) (y : Nat) : Nat → (Nat → Int32)
  | 0 => f
  | j + 1 => upd (wcS t f y j) (y + j) (t j)
theorem tc_at (f t : Nat → Int32) (x : Nat) {i : Nat} : ∀ j, i < j → tcS f t x j i = f (x + i)
  | 0, h => absurd h (by omega)
  | j + 1, h => by
    show upd (tcS f t x j) j _ i = _
    by_cases e : i = j
    · subst e; rw [pk_us]
    · rw [pk_un e]; exact tc_at f t x j (by omega)
theorem wc_at (t f : Nat → Int32) (y : Nat) {i : Nat} : ∀ j, i < j → wcS t f y j (y + i) = t i
  | 0, h => absurd h (by omega)
  | j + 1, h => by
    show upd (wcS t f y j) (y + j) _ (y + i) = _
    by_cases e : i = j
    · subst e; rw [pk_us]
    · rw [pk_un (by omega)]; exact wc_at t f y j (by omega)
theorem wc_ne (t f : Nat → Int32) (y : Nat) {i : Nat} : ∀ j, (i < y ∨ y + j ≤ i) → wcS t f y j i = f i
  | 0, _ => rfl
  | j + 1, h => by
    show upd (wcS t f y j) (y + j) _ i = _
    rw [pk_un (by omega)]; exact wc_ne t f y j (by omega)
theorem m_copyLoop {m : zz_H} {a b x y L : Nat} (ha : a < 4) (hb : b < 4) (hx : x + L ≤ 40) (hy : y + L ≤ 40) (post : Int32 → zz_H → Prop) (k : post (nI L) (zz_st (zz_st m 10 (tcS (m 9) (m 10) (40 * a + x) L)) 9 (wcS (tcS (m 9) (m 10) (40 * a + x) L) (m 9) (40 * b + y) L))) : ∃ t9, zz_lp (fun K (s : Int32 × zz_H) => wX5_copy_b119 (nI a) (nI x) (nI b) (nI y) (nI L) post K s.1 s.2) t9 (0, m) := by
  have this := lp_for (b := fun K (s : Int32 × zz_H) => wX5_copy_b119 (nI a) (nI x) (nI b) (nI y) (nI L) post K s.1 s.2) L (fun j => (nI j, zz_st m 10 (tcS (m 9) (m 10) (40 * a + x) j))) ?_ ?_
  · have e : zz_st m 10 (tcS (m 9) (m 10) (40 * a + x) 0) = m := st_id m 10
    rw [e] at this
    exact this
  · intro j hj K hK
    have hK : K (nI (j + 1), zz_st m 10 (upd (tcS (m 9) (m 10) (40 * a + x) j) j (m 9 (40 * a + x + j)))) := hK
    refine ⟨fun z => absurd z (lt_nle hj (by omega)), fun _ => ?_⟩
    dsimp only
    rw [ix_40, nI_add, nI_clamp (by omega), nI_clamp (by omega), sto_eq, zz_st_self, st_st, zz_st_ne _ _ (show 9 ≠ 10 by decide), nI_1]
    exact ⟨in_nI (by omega) (by decide), in_nI (by omega) (by decide), hK⟩
  · intro K
    refine ⟨fun _ => ?_, fun z => absurd (show nI L ≤ nI L from nI_le (Nat.le_refl L) (by omega)) z⟩
    dsimp only
    generalize tcS (m 9) (m 10) (40 * a + x) L = t at k ⊢
    unfold wX5_copy_j153
    have e9 : zz_st m 10 t 9 = m 9 := zz_st_ne _ _ (by decide)
    have et : zz_st m 10 t 10 = t := zz_st_self _ _ _
    generalize zz_st m 10 t = h at k e9 et ⊢
    rw [← e9] at k
    have this := lp_for (b := fun K (s : Int32 × zz_H) => wX5_copy_b156 (nI b) (nI y) (nI L) post K s.1 s.2) L (fun j => (nI j, zz_st h 9 (wcS t (h 9) (40 * b + y) j))) ?_ ?_
    · have e : zz_st h 9 (wcS t (h 9) (40 * b + y) 0) = h := st_id h 9
      rw [e] at this
      exact this
    · intro j hj K hK
      have hK : K (nI (j + 1), zz_st h 9 (upd (wcS t (h 9) (40 * b + y) j) (40 * b + y + j) (t j))) := hK
      refine ⟨fun z => absurd z (lt_nle hj (by omega)), fun _ => ?_⟩
      dsimp only
      rw [ix_40, nI_add, nI_clamp (by omega), nI_clamp (by omega), sto_eq, zz_st_self, st_st, zz_st_ne _ _ (show 10 ≠ 9 by decide), et, nI_1]
      exact ⟨in_nI (by omega) (by decide), in_nI (by omega) (by decide), hK⟩
    · intro K
      exact ⟨fun _ => k, fun z => absurd (show nI L ≤ nI L from nI_le (Nat.le_refl L) (by omega)) z⟩
theorem SR.copy {c m : zz_H} (h : SR c m) {a b x y L : Nat} (ha : a < 4) (hb : b < 4) (hx : x + L ≤ 40) (hy : y + L ≤ 40) : SR (zz_st c (36 + 2 * b) (va_cpy (c (36 + 2 * a)) (c (36 + 2 * b)) x y L)) (zz_st (zz_st m 10 (tcS (m 9) (m 10) (40 * a + x) L)) 9 (wcS (tcS (m 9) (m 10) (40 * a + x) L) (m 9) (40 * b + y) L)) := by
  intro j hj
  rw [zz_st_ne _ _ (show 7 ≠ 9 by decide), zz_st_ne _ _ (show 7 ≠ 10 by decide), zz_st_ne _ _ (show 8 ≠ 9 by decide), zz_st_ne _ _ (show 8 ≠ 10 by decide), zz_st_ne _ _ (show 35 + 2 * j ≠ 36 + 2 * b by omega), zz_st_self]
  obtain ⟨a1, a2, a3, a4⟩ := h j hj
  refine ⟨a1, a2, a3, fun i hi => ?_⟩
  by_cases e : j = b
  · subst e
    rw [zz_st_self]
    unfold va_cpy
    by_cases e2 : y ≤ i ∧ i < y + L
    · rw [if_pos e2]
      obtain ⟨d, rfl⟩ : ∃ d, i = y + d := ⟨i - y, by omega⟩
      rw [← Nat.add_assoc, wc_at _ _ _ _ (by omega), tc_at _ _ _ _ (by omega), show y + d - y = d by omega, Nat.add_assoc]
      exact (h a ha).2.2.2 (x + d) (by omega)
    · rw [if_neg e2, wc_ne _ _ _ _ (by omega)]
      exact a4 i hi
  · rw [zz_st_ne _ _ (by omega), wc_ne _ _ _ _ (by omega)]
    exact a4 i hi
set_option maxRecDepth 20000 in
set_option maxHeartbeats 4000000 in
theorem op_copy {c m : zz_H} (hR : Rel c m) (p1 p2 p3 p4 p5 : Int32) : wX4_copy p1 p2 p3 p4 p5 c (fun r c' => wX5_copy p1 p2 p3 p4 p5 m (fun r' m' => r = r' ∧ Rel c' m')) := by
  obtain ⟨⟨P, C, hW, hM⟩, hK, hF, hT, hS⟩ := id hR
  unfold wX4_copy wX5_copy
  simp only [c_isSheet, m_isOne, tell0, tell2, tell5, finds0, finds2, finds5, c_isMissing]
  by_cases h0 : (0 : Int32) ≤ p1 ∧ p1 ≤ 3
  case neg =>
    simp only [if_neg h0]
    exact ⟨fun _ => ⟨fun _ => (by first | exact ⟨rfl, hR.find (i := 0) (by decide)⟩ | exact ⟨trivial, hR.find (i := 0) (by decide)⟩), fun z => absurd (by first | rfl | trivial) z⟩, fun z => absurd (by first | rfl | trivial) z⟩
  simp only [if_pos h0]
  refine ⟨fun z => absurd z (by decide), fun _ => ?_⟩
  by_cases h1 : (0 : Int32) ≤ p3 ∧ p3 ≤ 3
  case neg =>
    simp only [if_neg h1]
    exact ⟨fun z => absurd (by first | rfl | trivial) z, fun _ => ⟨fun z => absurd z (by decide), fun _ => ⟨fun z => absurd (by first | rfl | trivial) z, fun _ => (by first | exact ⟨rfl, hR.find (i := 0) (by decide)⟩ | exact ⟨trivial, hR.find (i := 0) (by decide)⟩)⟩⟩⟩
  simp only [if_pos h1]
  obtain ⟨a, ha, rfl⟩ := idx_le (n := 3) (by decide) h0
  obtain ⟨b, hb, rfl⟩ := idx_le (n := 3) (by decide) h1
  have va : vp_in (nI a) 4 := in_nI (by omega) (by decide)
  have vb : vp_in (nI b) 4 := in_nI (by omega) (by decide)
  obtain ⟨a1, a2, ⟨n1, hn1, x1, y1⟩, a4⟩ := hS a (by omega)
  obtain ⟨b1, b2, ⟨n2, hn2, x2, y2⟩, b4⟩ := hS b (by omega)
  simp only [sh_eq (show a < 4 by omega), sh_eq (show b < 4 by omega), nI_clamp (show a < 2 ^ 31 by omega), nI_clamp (show b < 2 ^ 31 by omega), a1, b1, y1, y2, c_hasRun x1 hn1, c_hasRun x2 hn2, s36]
  refine ⟨fun _ => ⟨va, vb, ?_⟩, fun z => absurd z (by decide)⟩
  by_cases e7 : m 7 a = 0
  · rw [if_pos e7]
    refine ⟨fun _ => ?_, fun z => absurd z (by decide)⟩
    exact ⟨fun z => absurd z (by decide), fun _ => ⟨fun _ => ⟨va, fun _ => (by first | exact ⟨rfl, hR.find (i := 5) (by decide)⟩ | exact ⟨trivial, hR.find (i := 5) (by decide)⟩), fun z => absurd e7 z⟩, fun z => absurd z (by decide)⟩⟩
  rw [if_neg e7]
  refine ⟨fun z => absurd (by first | rfl | trivial) z, fun _ => ?_⟩
  by_cases f7 : m 7 b = 0
  · rw [if_pos f7]
    refine ⟨fun z => absurd z (by decide), fun _ => ?_⟩
    exact ⟨fun z => absurd z (by decide), fun _ => ⟨fun _ => ⟨va, fun z => absurd z e7, fun _ => ⟨vb, fun z => absurd f7 z, fun _ => (by first | exact ⟨rfl, hR.find (i := 5) (by decide)⟩ | exact ⟨trivial, hR.find (i := 5) (by decide)⟩)⟩⟩, fun z => absurd z (by decide)⟩⟩
  rw [if_neg f7]
  refine ⟨fun _ => ?_, fun z => absurd (by first | rfl | trivial) z⟩
  by_cases g7 : m 7 a = m 7 b
  case neg =>
    refine ⟨fun z => absurd z g7, fun _ => ?_⟩
    exact ⟨fun z => absurd z (by decide), fun _ => ⟨fun _ => ⟨va, fun z => absurd z e7, fun _ => ⟨vb, fun _ => ⟨va, vb, fun z => absurd z g7, fun _ => (by first | exact ⟨rfl, hR.find (i := 2) (by decide)⟩ | exact ⟨trivial, hR.find (i := 2) (by decide)⟩)⟩, fun z => absurd z f7⟩⟩, fun z => absurd z (by decide)⟩⟩
  refine ⟨fun _ => ?_, fun z => absurd g7 z⟩
  have z0 : (0 : Int32).toInt = 0 := rfl
  have en1 : (nI n1).toInt = n1 := nI_toInt (by omega)
  have en2 : (nI n2).toInt = n2 := nI_toInt (by omega)
  by_cases A : (0 ≤ p2.toInt ∧ 0 ≤ p5.toInt ∧ p2.toInt + p5.toInt ≤ n1) ∧ (0 ≤ p4.toInt ∧ 0 ≤ p5.toInt ∧ p4.toInt + p5.toInt ≤ n2)
  case neg =>
    have r0 : Rel (cF c 0) (mF m 0) := hR.find (i := 0) (by decide)
    have bad : ¬ p2 < 0 → ¬ p4 < 0 → ¬ p5 < 0 → ¬ nI n1 - p2 < p5 → p5 ≤ nI n2 - p4 → False := by
      intro q2 q4 q5 q6 q7
      rw [fa_lt] at q2 q4 q5 q6
      rw [fa_le] at q7
      have r2 := fb_rng p2
      have r4 := fb_rng p4
      rw [fb_subI (by omega) (by omega), en1] at q6
      rw [fb_subI (by omega) (by omega), en2] at q7
      omega
    by_cases A1 : 0 ≤ p2.toInt ∧ 0 ≤ p5.toInt ∧ p2.toInt + p5.toInt ≤ n1
    · have A2 : ¬ (0 ≤ p4.toInt ∧ 0 ≤ p5.toInt ∧ p4.toInt + p5.toInt ≤ n2) := fun z => A ⟨A1, z⟩
      rw [if_pos A1, if_neg A2]
      exact ⟨fun z => absurd z (by decide), fun _ => ⟨fun z => absurd (by first | rfl | trivial) z, fun _ => ⟨fun z => absurd z (by decide), fun _ => ⟨fun _ => ⟨va, fun z => absurd z e7, fun _ => ⟨vb, fun _ => ⟨va, vb, fun _ => ⟨fun _ => (by first | exact ⟨rfl, r0⟩ | exact ⟨trivial, r0⟩), fun q2 => ⟨fun _ => (by first | exact ⟨rfl, r0⟩ | exact ⟨trivial, r0⟩), fun q4 => ⟨fun _ => (by first | exact ⟨rfl, r0⟩ | exact ⟨trivial, r0⟩), fun q5 => ⟨va, fun _ => (by first | exact ⟨rfl, r0⟩ | exact ⟨trivial, r0⟩), fun q6 => ⟨vb, fun q7 => (bad q2 q4 q5 q6 q7).elim, fun _ => (by first | exact ⟨rfl, r0⟩ | exact ⟨trivial, r0⟩)⟩⟩⟩⟩⟩, fun z => absurd g7 z⟩, fun z => absurd z f7⟩⟩, fun z => absurd z (by decide)⟩⟩⟩⟩
    · rw [if_neg A1]
      exact ⟨fun _ => ⟨fun z => absurd z (by decide), fun _ => ⟨fun _ => ⟨va, fun z => absurd z e7, fun _ => ⟨vb, fun _ => ⟨va, vb, fun _ => ⟨fun _ => (by first | exact ⟨rfl, r0⟩ | exact ⟨trivial, r0⟩), fun q2 => ⟨fun _ => (by first | exact ⟨rfl, r0⟩ | exact ⟨trivial, r0⟩), fun q4 => ⟨fun _ => (by first | exact ⟨rfl, r0⟩ | exact ⟨trivial, r0⟩), fun q5 => ⟨va, fun _ => (by first | exact ⟨rfl, r0⟩ | exact ⟨trivial, r0⟩), fun q6 => ⟨vb, fun q7 => (bad q2 q4 q5 q6 q7).elim, fun _ => (by first | exact ⟨rfl, r0⟩ | exact ⟨trivial, r0⟩)⟩⟩⟩⟩⟩, fun z => absurd g7 z⟩, fun z => absurd z f7⟩⟩, fun z => absurd z (by decide)⟩⟩, fun z => absurd (by first | rfl | trivial) z⟩
  obtain ⟨A1, A2⟩ := A
  rw [if_pos A1, if_pos A2]
  refine ⟨fun z => absurd z (by decide), fun _ => ⟨fun _ => ?_, fun z => absurd z (by decide)⟩⟩
  obtain ⟨x, hx, rfl⟩ := zb_nI (x := p2) (n := 40) ⟨A1.1, by omega⟩
  obtain ⟨y, hy, rfl⟩ := zb_nI (x := p4) (n := 40) ⟨A2.1, by omega⟩
  obtain ⟨L, hL, rfl⟩ := zb_nI (x := p5) (n := 40) ⟨A1.2.1, by omega⟩
  rw [nI_toInt (by omega), nI_toInt (by omega)] at A1 A2
  have hxL : x + L ≤ n1 := by omega
  have hyL : y + L ≤ n2 := by omega
  rw [nI_clamp (by omega), nI_clamp (by omega), nI_clamp (by omega), sto_eq]
  refine ⟨⟨nI_pos (by omega), nI_pos (by omega), nI_pos (by omega), by omega, by omega⟩, fun z => absurd z (by decide), fun _ => ⟨fun _ => ⟨va, fun z => absurd z e7, fun _ => ⟨vb, fun _ => ⟨va, vb, fun _ => ⟨fun z => absurd z (nI_pos (by omega)), fun _ => ⟨fun z => absurd z (nI_pos (by omega)), fun _ => ⟨fun z => absurd z (nI_pos (by omega)), fun _ => ⟨va, fun z => ?_, fun _ => ⟨vb, fun _ => ?_, fun z => ?_⟩⟩⟩⟩⟩, fun z => absurd g7 z⟩, fun z => absurd z f7⟩⟩, fun z => absurd z (by decide)⟩⟩
  · exfalso
    rw [fa_lt, fb_subI (by rw [nI_toInt (by omega), nI_toInt (by omega)]; omega) (by rw [nI_toInt (by omega), nI_toInt (by omega)]; omega), nI_toInt (by omega), nI_toInt (by omega), nI_toInt (by omega)] at z
    omega
  · refine m_copyLoop (by omega) (by omega) (by omega) (by omega) _ ⟨rfl, hR.sheets (fun j hj => zz_st_ne _ _ (by omega)) (fun j h7 h8 h9 h10 => ?_) (hS.copy (by omega) (by omega) (by omega) (by omega))⟩
    rw [zz_st_ne _ _ h9, zz_st_ne _ _ h10]
  · exfalso
    rw [fa_le, fb_subI (by rw [nI_toInt (by omega), nI_toInt (by omega)]; omega) (by rw [nI_toInt (by omega), nI_toInt (by omega)]; omega), nI_toInt (by omega), nI_toInt (by omega), nI_toInt (by omega)] at z
    omega
