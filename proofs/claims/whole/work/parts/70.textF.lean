/-! items and whole texts -/
theorem wd_end {t : Nat → Int32} {T f j : Nat} (hj : j < 12) (h : T ≤ f) : wdB t T f j = false := by
  refine decide_eq_false (fun w => ?_)
  obtain ⟨⟨a1, a2, a3⟩, -⟩ := w_tab ⟨j, hj⟩
  have a1 : 2 ≤ wN j := a1
  have e : te t T f = f := if_pos h
  have := w.1
  omega
theorem kdW_end {t : Nat → Int32} {T f : Nat} (h : T ≤ f) : kdW t T f = -1 := by
  unfold kdW
  rw [wd_end (by decide) h, wd_end (by decide) h, wd_end (by decide) h, wd_end (by decide) h, wd_end (by decide) h, wd_end (by decide) h, wd_end (by decide) h]
  rfl
theorem nx_bd (t : Nat → Int32) {T f : Nat} (h : f ≤ T) : f ≤ nx t T f ∧ nx t T f ≤ T ∧ (f < T → f < nx t T f) := by
  have a := te_bd t h
  have b := nx_le (t := t) h
  exact ⟨by omega, b.1, fun q => by have := a.2.2 q; omega⟩
theorem pL_bd (t : Nat → Int32) (T p : Nat) : ∀ (n i f : Nat) (s : Nat → Int32), f ≤ T → f ≤ (pL t T p n i f s).2.1 ∧ (pL t T p n i f s).2.1 ≤ T := by
  intro n
  induction n with
  | zero => intro i f s h; exact ⟨Nat.le_refl _, h⟩
  | succ n ih =>
    intro i f s h
    rw [pL_s]
    by_cases e : kdF t T f = 2
    · rw [if_pos e]
      by_cases e2 : numB t T f (s i) = true
      · rw [if_pos e2]
        have b := nx_bd t h
        have := ih (i + 1) _ (pbS p i (vl t T f) s) b.2.1
        omega
      · rw [if_neg e2]
        exact ⟨Nat.le_refl _, h⟩
    · rw [if_neg e]
      exact ⟨Nat.le_refl _, h⟩
def iS (t : Nat → Int32) (T P C f : Nat) (s : Nat → Int32) : Bool × Nat × (Nat → Int32) :=
  if wdB t T f 0 then qS t T P f s else if wdB t T f 1 then cS t T f s else if wdB t T f 2 then pS t T P f s else if kdW t T f < 0 then (false, f, s) else kS t T C (kdW t T f) f s
theorem iS_end {t : Nat → Int32} {T P C f : Nat} (s : Nat → Int32) (h : T ≤ f) : iS t T P C f s = (false, f, s) := by
  unfold iS
  rw [wd_end (by decide) h, wd_end (by decide) h, wd_end (by decide) h, kdW_end h]
  rfl
theorem iS_bd (t : Nat → Int32) {T P C f : Nat} (s : Nat → Int32) (h : f ≤ T) : (iS t T P C f s).2.1 ≤ T ∧ ((iS t T P C f s).1 = true → f < (iS t T P C f s).2.1) := by
  by_cases hT : T ≤ f
  · rw [iS_end s hT]
    exact ⟨h, fun w => absurd (show false = true from w) Bool.false_ne_true⟩
  have b1 := nx_bd t h
  have b2 := nx_bd t b1.2.1
  have b3 := nx_bd t b2.2.1
  have b4 := nx_bd t b3.2.1
  have b0 := b1.2.2 (by omega)
  unfold iS
  by_cases w0 : wdB t T f 0 = true
  · rw [if_pos w0]
    unfold qS
    by_cases q1 : numB t T (nx t T f) 7 = true
    · rw [if_pos q1]
      by_cases q2 : wdB t T (nx t T (nx t T f)) 3 = true
      · rw [if_pos q2]
        by_cases q3 : numB t T (nx t T (nx t T (nx t T f))) 40 = true
        · rw [if_pos q3]; exact ⟨b4.2.1, fun _ => by show f < nx t T (nx t T (nx t T (nx t T f))); omega⟩
        · rw [if_neg q3]; exact ⟨b3.2.1, fun w => absurd (show false = true from w) Bool.false_ne_true⟩
      · rw [if_neg q2]; exact ⟨b2.2.1, fun w => absurd (show false = true from w) Bool.false_ne_true⟩
    · rw [if_neg q1]; exact ⟨b1.2.1, fun w => absurd (show false = true from w) Bool.false_ne_true⟩
  rw [if_neg w0]
  by_cases w1 : wdB t T f 1 = true
  · rw [if_pos w1]
    unfold cS
    by_cases q1 : numB t T (nx t T f) 7 = true
    · rw [if_pos q1]
      by_cases q3 : numB t T (nx t T (nx t T f)) 400 = true
      · rw [if_pos q3]; exact ⟨b3.2.1, fun _ => by show f < nx t T (nx t T (nx t T f)); omega⟩
      · rw [if_neg q3]; exact ⟨b2.2.1, fun w => absurd (show false = true from w) Bool.false_ne_true⟩
    · rw [if_neg q1]; exact ⟨b1.2.1, fun w => absurd (show false = true from w) Bool.false_ne_true⟩
  rw [if_neg w1]
  by_cases w2 : wdB t T f 2 = true
  · rw [if_pos w2]
    unfold pS
    by_cases q0 : P < 12
    · rw [if_pos q0]
      by_cases q1 : numB t T (nx t T f) 3 = true
      · rw [if_pos q1]
        have := pL_bd t T P 8 0 (nx t T (nx t T f)) (nP s P (vl t T (nx t T f))) b2.2.1
        exact ⟨this.2, fun _ => by omega⟩
      · rw [if_neg q1]; exact ⟨b1.2.1, fun w => absurd (show false = true from w) Bool.false_ne_true⟩
    · rw [if_neg q0]; exact ⟨h, fun w => absurd (show false = true from w) Bool.false_ne_true⟩
  rw [if_neg w2]
  by_cases w3 : kdW t T f < 0
  · rw [if_pos w3]; exact ⟨h, fun w => absurd (show false = true from w) Bool.false_ne_true⟩
  rw [if_neg w3]
  unfold kS
  by_cases q0 : C < 6
  · rw [if_pos q0]
    by_cases q1 : wdB t T (nx t T f) 4 = true
    · rw [if_pos q1]
      by_cases q3 : numB t T (nx t T (nx t T f)) 100 = true
      · rw [if_pos q3]; exact ⟨b3.2.1, fun _ => by show f < nx t T (nx t T (nx t T f)); omega⟩
      · rw [if_neg q3]; exact ⟨b2.2.1, fun w => absurd (show false = true from w) Bool.false_ne_true⟩
    · rw [if_neg q1]; exact ⟨b1.2.1, fun _ => b0⟩
  · rw [if_neg q0]; exact ⟨h, fun w => absurd (show false = true from w) Bool.false_ne_true⟩
theorem zpost {b : Bool} {post : Int32 → zz_H → Prop} {c : zz_H} (h : post (if b then 1 else 0) c) : zz_z (if b then 1 else 0) ∧ post (if b then 1 else 0) c := ⟨by cases b <;> rfl, h⟩
theorem c_item {c0 c : zz_H} {t s : Nat → Int32} {T f P C : Nat} (hT : T ≤ 120) (hb : ∀ i, i < T → c0 30 i = t i) (h : OKc c0 c t T f s P C) (post : Int32 → zz_H → Prop) (k : ∀ c', RC c0 c' t T (iS t T P C f s) → post (if (iS t T P C f s).1 then 1 else 0) c') : wX3_readItem 17 c post := by
  have hf := h.2.2.2.1
  unfold wX3_readItem
  unfold iS at k
  refine h.word (by decide) hT hb _ (br (fun w0 => ?_) (fun w0 => ?_))
  · rw [if_pos w0] at k
    exact c_question hT hb h _ (fun c' hc => zpost (k c' hc))
  rw [if_neg (by rw [w0]; exact Bool.false_ne_true)] at k
  refine h.word (by decide) hT hb _ (br (fun w1 => ?_) (fun w1 => ?_))
  · rw [if_pos w1] at k
    exact c_common hT hb h _ (fun c' hc => zpost (k c' hc))
  rw [if_neg (by rw [w1]; exact Bool.false_ne_true)] at k
  refine h.word (by decide) hT hb _ (br (fun w2 => ?_) (fun w2 => ?_))
  · rw [if_pos w2] at k
    exact c_pupilI hT hb h _ (fun c' hc => zpost (k c' hc))
  rw [if_neg (by rw [w2]; exact Bool.false_ne_true)] at k
  refine c_kind hT hf (by rw [h.1 30 (by decide) (by omega)]; exact hb) h.2.2.1 _ ⟨fun w3 => ?_, fun w3 => ?_⟩
  · rw [if_pos w3] at k
    exact k c (RC.no h.bd)
  rw [if_neg w3] at k
  have hk : zb (kdW t T f) 0 6 := by
    rcases kdW_rng t T f with q | q
    · exact absurd (by rw [q]; decide) w3
    · exact q
  refine c_curveI hT hb h hk _ (fun c' hc => ?_)
  have kk := k c' hc
  refine br (fun w => ?_) (fun w => ?_)
  · rw [w] at kk; exact kk
  · rw [w] at kk; exact kk
theorem m_itemW {m : zz_H} (h11 : m 0 11 = 1) (post : Int32 → zz_H → Prop) (k : post 0 m) : wX5_item m post := by
  have n0 : ¬ m 0 11 = 0 := n11 h11
  have W := fun a b c d e f g h i post k => m_isWordW h11 a b c d e f g h i post k
  unfold wX5_item wX5_kindHere
  refine W _ _ _ _ _ _ _ _ _ _ ⟨fun _ => ?_, fun w => absurd rfl w⟩
  refine W _ _ _ _ _ _ _ _ _ _ ⟨fun _ => ?_, fun w => absurd rfl w⟩
  refine W _ _ _ _ _ _ _ _ _ _ ⟨fun _ => ?_, fun w => absurd rfl w⟩
  refine W _ _ _ _ _ _ _ _ _ _ ⟨fun _ => ?_, fun w => absurd rfl w⟩
  refine W _ _ _ _ _ _ _ _ _ _ ⟨fun _ => ?_, fun w => absurd rfl w⟩
  refine W _ _ _ _ _ _ _ _ _ _ ⟨fun _ => ?_, fun w => absurd rfl w⟩
  refine W _ _ _ _ _ _ _ _ _ _ ⟨fun _ => ?_, fun w => absurd rfl w⟩
  refine ⟨fun _ => ?_, fun w => absurd (by decide) w⟩
  refine W _ _ _ _ _ _ _ _ _ _ ⟨fun _ => ?_, fun w => absurd rfl w⟩
  refine W _ _ _ _ _ _ _ _ _ _ ⟨fun _ => ?_, fun w => absurd rfl w⟩
  refine W _ _ _ _ _ _ _ _ _ _ ?_
  exact m_needsW h11 _ _ (m_numberW h11 _ _ _ (W _ _ _ _ _ _ _ _ _ _ (m_needsW h11 _ _ (m_numberW h11 _ _ _ ⟨fun _ => k, fun w => absurd w n0⟩))))
theorem m_item {m0 m : zz_H} {t s : Nat → Int32} {T f P C : Nat} (hp : MP m0 t T) (h : OKm m0 m t T f s P C) (post : Int32 → zz_H → Prop) (k : ∀ m', RM m0 m' t T (iS t T P C f s) → post 0 m') : wX5_item m post := by
  unfold wX5_item
  unfold iS at k
  refine m_kind (h.mp hp) h.2.2.1 _ ⟨fun w3 => ?_, fun w3 => ?_⟩
  · refine m_w2 (h.mp hp) h.2.2.1 _ (br (fun w2 => ?_) (fun w2 => ?_))
    · rw [wd_one (j := 2) (j' := 0) (by decide) (by decide) (by decide) w2, wd_one (j := 2) (j' := 1) (by decide) (by decide) (by decide) w2, w2, if_neg Bool.false_ne_true, if_neg Bool.false_ne_true, if_pos rfl] at k
      exact m_pupilI hp h _ k
    refine m_w1 (h.mp hp) h.2.2.1 _ (br (fun w1 => ?_) (fun w1 => ?_))
    · rw [wd_one (j := 1) (j' := 0) (by decide) (by decide) (by decide) w1, w1, if_neg Bool.false_ne_true, if_pos rfl] at k
      exact m_common hp h _ k
    refine m_w0 (h.mp hp) h.2.2.1 _ ?_
    cases w0 : wdB t T f 0
    · rw [w0, w1, w2, if_neg Bool.false_ne_true, if_neg Bool.false_ne_true, if_neg Bool.false_ne_true, if_pos w3] at k
      refine h.needs0 _ (fun m1 h1 => ?_)
      have n0 := n11 h1.pass
      exact m_numberW h1.pass _ _ _ (m_isWordW h1.pass _ _ _ _ _ _ _ _ _ _ (m_needsW h1.pass _ _ (m_numberW h1.pass _ _ _ ⟨fun _ => k m1 (RM.no h1), fun w => absurd w n0⟩)))
    · rw [w0, if_pos rfl] at k
      exact m_question hp h _ k
  · have n : ∀ j, j < 5 → wdB t T f j = false := by
      intro j hj
      cases q : wdB t T f j
      · rfl
      · exact absurd (by rw [kdW_wd hj q]; decide) w3
    rw [n 0 (by decide), n 1 (by decide), n 2 (by decide), if_neg Bool.false_ne_true, if_neg Bool.false_ne_true, if_neg Bool.false_ne_true, if_neg w3] at k
    have hk : zb (kdW t T f) 0 6 := by
      rcases kdW_rng t T f with q | q
      · exact absurd (by rw [q]; decide) w3
      · exact q
    exact m_curveI hp h hk _ k
def pN (s : Nat → Int32) : Nat := (s 17).toNatClampNeg
def cN (s : Nat → Int32) : Nat := (s 18).toNatClampNeg
theorem pN_eq {s : Nat → Int32} {P C : Nat} (h : WF s P C) : pN s = P ∧ cN s = C := by
  unfold pN cN
  rw [h.1, h.2.2.1, nI_clamp (by have := h.2.1; omega), nI_clamp (by have := h.2.2.2.1; omega)]
  exact ⟨rfl, rfl⟩
/-- what a text comes to: well, its items, where it stopped, the paper -/
def tS (t : Nat → Int32) (T : Nat) : Nat → Nat → Nat → (Nat → Int32) → Bool × Nat × Nat × (Nat → Int32)
  | 0, x, f, s => (false, x, f, s)
  | n + 1, x, f, s => let r := iS t T (pN s) (cN s) f s
    if r.1 = true then (if T ≤ r.2.1 then (true, x, r.2.1, r.2.2) else if t r.2.1 = 59 then tS t T n (x + 1) (nx t T r.2.1) r.2.2 else (false, x, r.2.1, r.2.2)) else (false, x, r.2.1, r.2.2)
theorem tS_s (t : Nat → Int32) (T n x f : Nat) (s : Nat → Int32) : tS t T (n + 1) x f s = if (iS t T (pN s) (cN s) f s).1 = true then (if T ≤ (iS t T (pN s) (cN s) f s).2.1 then (true, x, (iS t T (pN s) (cN s) f s).2.1, (iS t T (pN s) (cN s) f s).2.2) else if t (iS t T (pN s) (cN s) f s).2.1 = 59 then tS t T n (x + 1) (nx t T (iS t T (pN s) (cN s) f s).2.1) (iS t T (pN s) (cN s) f s).2.2 else (false, x, (iS t T (pN s) (cN s) f s).2.1, (iS t T (pN s) (cN s) f s).2.2)) else (false, x, (iS t T (pN s) (cN s) f s).2.1, (iS t T (pN s) (cN s) f s).2.2) := rfl
theorem kd_59 {t : Nat → Int32} {T f : Nat} (h : f < T) : (t f = 59 → kdF t T f = 3) ∧ (¬ t f = 59 → kdF t T f ≠ 0 ∧ kdF t T f ≠ 3) := by
  unfold kdF
  rw [if_neg (by omega)]
  constructor
  · intro e
    rw [e]
    decide
  · intro e
    by_cases a : isL (t f) = true
    · rw [if_pos a]; decide
    · rw [if_neg a]
      by_cases b : isD (t f) = true
      · rw [if_pos b]; decide
      · rw [if_neg b, if_neg e]; decide
/-- the end of it -/
def CE (c0 : zz_H) (t : Nat → Int32) (T : Nat) (r : Bool × Nat × Nat × (Nat → Int32)) (post : Int32 → zz_H → Prop) : Prop := ∀ c', RC c0 c' t T (r.1, r.2.2) → post (if r.1 = true then nI r.2.1 else -1 - nI r.2.2.1) c'
def ME (m0 : zz_H) (t : Nat → Int32) (T : Nat) (r : Bool × Nat × Nat × (Nat → Int32)) (post : Int32 → zz_H → Prop) : Prop := ∀ m' y, RM m0 m' t T (r.1, r.2.2) → (r.1 = true → y = nI r.2.1) → wX5_text_j74 post y m'
theorem tS_x (t : Nat → Int32) (T : Nat) : ∀ n x f s, f ≤ T → x ≤ f + 1 → x ≤ (tS t T n x f s).2.1 ∧ (tS t T n x f s).2.1 ≤ T + 1 ∧ (tS t T n x f s).2.2.1 ≤ T := by
  intro n
  induction n with
  | zero => intro x f s h1 h2; exact ⟨Nat.le_refl _, by show x ≤ T + 1; omega, h1⟩
  | succ n ih =>
    intro x f s h1 h2
    rw [tS_s]
    obtain ⟨b1, b2⟩ := iS_bd t (P := pN s) (C := cN s) s h1
    generalize iS t T (pN s) (cN s) f s = r at b1 b2 ⊢
    by_cases e : r.1 = true
    · rw [if_pos e]
      have b2 := b2 e
      by_cases e2 : T ≤ r.2.1
      · rw [if_pos e2]; exact ⟨Nat.le_refl _, by show x ≤ T + 1; omega, b1⟩
      · rw [if_neg e2]
        by_cases e3 : t r.2.1 = 59
        · rw [if_pos e3]
          have := nx_bd t b1
          have := ih (x + 1) (nx t T r.2.1) r.2.2 this.2.1 (by omega)
          omega
        · rw [if_neg e3]; exact ⟨Nat.le_refl _, by show x ≤ T + 1; omega, b1⟩
    · rw [if_neg e]; exact ⟨Nat.le_refl _, by show x ≤ T + 1; omega, b1⟩
set_option maxHeartbeats 1000000 in
theorem c_text {c0 : zz_H} {t : Nat → Int32} {T : Nat} (hT : T ≤ 120) (hb : ∀ i, i < T → c0 30 i = t i) (post : Int32 → zz_H → Prop) : ∀ (n x f : Nat) (s : Nat → Int32) (P C : Nat) (c : zz_H), T < f + n → x ≤ f + 1 → OKc c0 c t T f s P C → CE c0 t T (tS t T n x f s) post → zz_lp (fun K (s : Int32 × zz_H) => wX3_readInto_b11 17 post K s.1 s.2) n (nI x, c) := by
  intro n
  induction n with
  | zero => intro x f s P C c h1 h2 h; exact absurd h.2.2.2.1 (by omega)
  | succ n ih =>
    intro x f s P C c h1 h2 h k
    have hf := h.2.2.2.1
    show wX3_readInto_b11 17 post (zz_lp (fun K (s : Int32 × zz_H) => wX3_readInto_b11 17 post K s.1 s.2) n) (nI x) c
    unfold wX3_readInto_b11
    rw [tS_s] at k
    obtain ⟨p1, p2⟩ := pN_eq h.2.2.2.2.1
    rw [p1, p2] at k
    have bd := iS_bd t (P := P) (C := C) s hf
    refine ⟨fun w => ?_, fun w => ?_⟩
    · have hx : 120 < x := (nI_ltI (a := 120) (b := x) (by decide) (by omega)).mp w
      rw [iS_end s (by omega)] at k
      dsimp only at k
      rw [if_neg Bool.false_ne_true] at k
      rw [show c 29 3 = nI f from h.2.2.1.1]
      exact k c (RC.no h.bd)
    · refine c_item hT hb h _ (fun c1 hc => ?_)
      generalize iS t T P C f s = r at k hc bd ⊢
      refine br' (fun w1 => ?_) (fun w1 => ?_)
      case refine_2 =>
        rw [if_neg (by rw [w1]; exact Bool.false_ne_true)] at k
        have hd := hc.2 w1
        rw [show c1 29 3 = nI r.2.1 from hd.2.2]
        exact k c1 (RC.no hd)
      rw [if_pos w1] at k
      obtain ⟨P', C', ho⟩ := hc.1 w1
      have b2 := bd.2 w1
      rw [show c1 29 2 = kdF t T r.2.1 from ho.2.2.1.2.2.1]
      by_cases e2 : T ≤ r.2.1
      · rw [if_pos e2] at k
        have e0 : kdF t T r.2.1 = 0 := if_pos e2
        exact ⟨fun v => absurd e0 v, fun _ => k c1 (RC.ok ho)⟩
      rw [if_neg e2] at k
      obtain ⟨k1, k2⟩ := kd_59 (t := t) (T := T) (f := r.2.1) (by omega)
      by_cases e3 : t r.2.1 = 59
      · rw [if_pos e3] at k
        have e0 := k1 e3
        refine ⟨fun _ => ⟨fun _ => ?_, fun v => absurd e0 v⟩, fun v => absurd (e0.symm.trans v) (by decide)⟩
        refine ho.step hT hb _ (fun c2 h2' => ?_)
        have nb := nx_bd t bd.1
        rw [nI_1]
        exact ih (x + 1) _ _ P' C' c2 (by omega) (by omega) h2' k
      · rw [if_neg e3] at k
        obtain ⟨e0, e1⟩ := k2 e3
        refine ⟨fun _ => ⟨fun v => absurd v e1, fun _ => ?_⟩, fun v => absurd v e0⟩
        rw [show c1 29 3 = nI r.2.1 from ho.bd.2.2]
        exact k c1 (RC.no ho.bd)
set_option maxHeartbeats 1000000 in
theorem m_text {m0 : zz_H} {t : Nat → Int32} {T : Nat} (hp : MP m0 t T) (post : Int32 → zz_H → Prop) : ∀ (n x f : Nat) (s : Nat → Int32) (P C : Nat) (m : zz_H), T < f + n → f ≤ T → WF s P C → RM m0 m t T (iS t T P C f s) → ME m0 t T (tS t T n x f s) post → zz_lp (fun K (s : Int32 × zz_H) => wX5_text_b24 post K s.1 s.2) (n + 1) (nI x, m) := by
  intro n
  induction n with
  | zero => intro x f s P C c h1 h2; exact absurd h1 (by omega)
  | succ n ih =>
    intro x f s P C m h1 hf hW hm k
    have hT := hp.1
    rw [tS_s] at k
    obtain ⟨p1, p2⟩ := pN_eq hW
    rw [p1, p2] at k
    have bd := iS_bd t (P := P) (C := C) s hf
    show wX5_text_b24 post (zz_lp (fun K (s : Int32 × zz_H) => wX5_text_b24 post K s.1 s.2) (n + 1)) (nI x) m
    unfold wX5_text_b24
    generalize iS t T P C f s = r at k hm bd ⊢
    by_cases w1 : r.1 = true
    case neg =>
      rw [if_neg w1] at k
      have hd := hm.2 (by simpa using w1)
      exact ⟨fun _ => k m _ (RM.no hd) (fun w => absurd (show false = true from w) Bool.false_ne_true), fun w => absurd w (n11 hd.pass)⟩
    rw [if_pos w1] at k
    obtain ⟨P', C', ho⟩ := hm.1 w1
    have b2 := bd.2 w1
    refine ⟨fun w => absurd ho.2.2.1.2.2.1 w, fun _ => ?_⟩
    rw [show m 0 8 = nI r.2.1 from ho.2.2.1.1, show m 0 7 = nI T from (ho.mp hp).2.1]
    by_cases e2 : T ≤ r.2.1
    · rw [if_pos e2] at k
      exact ⟨fun _ => k m _ (RM.ok ho) (fun _ => rfl), fun w => absurd (nI_le e2 (by omega)) w⟩
    rw [if_neg e2] at k
    refine ⟨fun w => absurd w (lt_nle (by omega) (by omega)), fun _ => m_byteAt (ho.mp hp) (by omega) _ ?_⟩
    rw [bt_lt (by omega)]
    by_cases e3 : t r.2.1 = 59
    · rw [if_pos e3] at k
      refine ⟨fun w => absurd e3 w, fun _ => ?_⟩
      have nb := nx_bd t bd.1
      refine ho.needs1 hp (by decide) _ (fun m1 h1' _ => m_item hp h1' _ (fun m2 h2 => ?_))
      rw [nI_1]
      exact ih (x + 1) _ _ P' C' m2 (by omega) nb.2.1 ho.2.2.2.2 h2 k
    · rw [if_neg e3] at k
      refine ⟨fun _ => ?_, fun w => absurd w e3⟩
      refine ho.needs0 _ (fun m1 h1' => m_itemW h1'.pass _ ?_)
      show wX5_text_b24 post (zz_lp (fun K (s : Int32 × zz_H) => wX5_text_b24 post K s.1 s.2) n) (nI x + 1) m1
      unfold wX5_text_b24
      exact ⟨fun _ => k m1 _ (RM.no h1') (fun w => absurd (show false = true from w) Bool.false_ne_true), fun w => absurd w (n11 h1'.pass)⟩
