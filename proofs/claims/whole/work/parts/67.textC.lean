/-! words -/
def wB (j i : Nat) : Int32 := (zz_byt.getD j []).getD i 0
def wN (j : Nat) : Nat := zz_len.getD j 0
def wdB (t : Nat → Int32) (T f j : Nat) : Bool := decide (te t T f - f = wN j ∧ ∀ i, i < wN j → t (f + i) = wB j i)
theorem w_tab : ∀ j : Fin 12, (2 ≤ wN j.val ∧ wN j.val ≤ 9 ∧ isL (wB j.val 0) = true) ∧ ∀ i : Fin 9, (i.val < wN j.val → ¬ wB j.val i.val = 0) ∧ (wN j.val ≤ i.val → wB j.val i.val = 0) := by decide
theorem w_dif : ∀ j j' : Fin 12, j ≠ j' → wN j.val ≠ wN j'.val ∨ ∃ i : Fin 9, i.val < wN j.val ∧ wB j.val i.val ≠ wB j'.val i.val := by decide
theorem wd_kind {t : Nat → Int32} {T f j : Nat} (hj : j < 12) (hf : f ≤ T) (h : wdB t T f j = true) : kdF t T f = 1 := by
  obtain ⟨h1, h2⟩ := of_decide_eq_true h
  obtain ⟨⟨a1, a2, a3⟩, -⟩ := w_tab ⟨j, hj⟩
  have a1 : 2 ≤ wN j := a1
  have a3 : isL (wB j 0) = true := a3
  have tb := te_bd t hf
  have e := h2 0 (by omega)
  rw [Nat.add_zero] at e
  unfold kdF
  rw [if_neg (by omega), e, if_pos a3]
theorem wd_one {t : Nat → Int32} {T f j j' : Nat} (hj : j < 12) (hj' : j' < 12) (hne : j ≠ j') (h : wdB t T f j = true) : wdB t T f j' = false := by
  obtain ⟨h1, h2⟩ := of_decide_eq_true h
  refine decide_eq_false (fun w => ?_)
  rcases w_dif ⟨j, hj⟩ ⟨j', hj'⟩ (fun q => hne (congrArg Fin.val q)) with q | ⟨i, q1, q2⟩
  · exact q (h1.symm.trans w.1)
  · have e : wN j = wN j' := h1.symm.trans w.1
    have q1 : i.val < wN j := q1
    exact q2 ((h2 i.val q1).symm.trans (w.2 i.val (by omega)))
theorem c_isWord {c : zz_H} {t : Nat → Int32} {T f j : Nat} (hj : j < 12) (hT : T ≤ 120) (hf : f ≤ T) (hb : ∀ i, i < T → c 30 i = t i) (h : TC c t T f) (post : Int32 → Prop) (k : post (if wdB t T f j then 1 else 0)) : wX3_isWord j c post := by
  obtain ⟨h3, h4, h2, -⟩ := h
  have tb := te_bd t hf
  obtain ⟨⟨a1, a2, a3⟩, -⟩ := w_tab ⟨j, hj⟩
  have a2 : wN j ≤ 9 := a2
  unfold wX3_isWord
  rw [h2, h3, h4]
  have en : zz_len.getD j 0 = wN j := rfl
  rw [en]
  refine ⟨fun w => ?_, fun w => ⟨fun q => ?_, fun q => ?_⟩⟩
  · cases hw : wdB t T f j
    · rw [hw] at k; exact k
    · exact absurd (wd_kind hj hf hw) w
  · have ed : te t T f - f = wN j := by
      obtain ⟨d, ed⟩ : ∃ d, te t T f = f + d := ⟨te t T f - f, by omega⟩
      rw [ed, show nI (f + d) - nI f = nI d by rw [← nI_add]; grind] at q
      have := (nI_eq (by omega) (by omega)).mp q
      omega
    have f1 := fa_first_le (fun i => decide (¬ t (f + i) = wB j i)) (wN j)
    have f2 := fa_first_no (fun i => decide (¬ t (f + i) = wB j i)) (wN j)
    have f3 := fa_first_yes (fun i => decide (¬ t (f + i) = wB j i)) (wN j)
    generalize fa_first (fun i => decide (¬ t (f + i) = wB j i)) (wN j) = N at f1 f2 f3
    have g2 : ∀ i, i < N → t (f + i) = wB j i := fun i hi => by
      have := f2 i hi
      simpa using this
    refine lp_for N (fun i => nI i) ?_ ?_
    · intro i hi K hK
      unfold wX3_isWord_b28
      rw [h3, en, nI_add, nI_clamp (by omega), nI_clamp (by omega), hb (f + i) (by omega), nI_1]
      exact ⟨fun v => absurd v (lt_nle (by omega) (by omega)), fun _ => ⟨in_nI (by omega) (by decide), in_nI (by omega) (by omega), fun _ => hK, fun v => absurd (g2 i hi) v⟩⟩
    · intro K
      unfold wX3_isWord_b28
      rw [h3, en, nI_add, nI_clamp (by omega), nI_clamp (by omega)]
      by_cases qN : N = wN j
      · have hw : wdB t T f j = true := decide_eq_true ⟨ed, fun i hi => g2 i (by omega)⟩
        rw [hw] at k
        exact ⟨fun _ => k, fun v => absurd (nI_le (by omega) (by omega)) v⟩
      · have g3 : ¬ t (f + N) = wB j N := of_decide_eq_true (f3 (by omega))
        have hw : wdB t T f j = false := decide_eq_false (fun v => g3 (v.2 N (by omega)))
        rw [hw] at k
        rw [hb (f + N) (by omega)]
        exact ⟨fun v => absurd v (lt_nle (by omega) (by omega)), fun _ => ⟨in_nI (by omega) (by decide), in_nI (by omega) (by omega), fun v => absurd v g3, fun _ => k⟩⟩
  · have hw : wdB t T f j = false := decide_eq_false (fun v => q (by
      obtain ⟨d, ed⟩ : ∃ d, te t T f = f + d := ⟨te t T f - f, by omega⟩
      have e2 := v.1
      rw [ed] at e2 ⊢
      rw [show nI (f + d) - nI f = nI d by rw [← nI_add]; grind, show d = wN j by omega]))
    rw [hw] at k
    exact k
def LA (t : Nat → Int32) (T f i : Nat) (p : Int32) : Prop := p = 0 ∨ bt t T (f + i) = p
theorem m_isLetterAt {m : zz_H} {t : Nat → Int32} {T f i : Nat} (hp : MP m t T) (h8 : m 0 8 = nI f) (hf : f ≤ T) (hi : i < 9) (p : Int32) (post : Int32 → Prop) (k1 : LA t T f i p → post 1) (k0 : ¬ LA t T f i p → post 0) : wX5_isLetterAt (nI i) p m post := by
  have hT := hp.1
  unfold wX5_isLetterAt
  rw [h8, nI_add]
  refine ⟨fun w => k1 (Or.inl w), fun w => m_byteAt hp (by omega) _ ⟨fun v => k0 (fun q => ?_), fun v => k1 (Or.inr v)⟩⟩
  rcases q with q | q
  · exact w q
  · exact v q
theorem m_isWordG {m : zz_H} {t : Nat → Int32} {T f : Nat} (hp : MP m t T) (hm : MT m t T f) (p : Nat → Int32) (n : Nat) (hn : n < 100) (post : Int32 → Prop) (k1 : (te t T f - f = n ∧ ∀ i, i < 9 → LA t T f i (p i)) → post 1) (k0 : ¬ (te t T f - f = n ∧ ∀ i, i < 9 → LA t T f i (p i)) → post 0) : wX5_isWord_j71 (p 0) (p 1) (p 2) (p 3) (p 4) (p 5) (p 6) (p 7) (p 8) m post (nI n) := by
  obtain ⟨h8, h9, h11, hf⟩ := hm
  have tb := te_bd t hf
  have hT := hp.1
  have lt := fun (i : Nat) (hi : i < 9) (p : Int32) (post : Int32 → Prop) k1 k0 => m_isLetterAt hp h8 hf hi p post k1 k0
  have ed : nI (te t T f) - nI f = nI (te t T f - f) := by
    obtain ⟨d, ed⟩ : ∃ d, te t T f = f + d := ⟨te t T f - f, by omega⟩
    rw [ed, show f + d - f = d by omega, ← nI_add]
    grind
  unfold wX5_isWord_j71
  rw [h8, h9, ed]
  have no : ¬ (te t T f - f = n ∧ ∀ i, i < 9 → LA t T f i (p i)) → wX5_isWord_j145 (p 5) (p 6) (p 7) (p 8) m post := fun w => ⟨fun _ => k0 w, fun v => absurd rfl v⟩
  refine ⟨fun w => absurd h11 w, fun _ => ⟨fun w => no (fun v => w (by rw [v.1])), fun w => ?_⟩⟩
  have en : te t T f - f = n := (nI_eq (by omega) (by omega)).mp w
  refine lt 0 (by decide) _ _ (fun a0 => ⟨fun v => absurd v (by decide), fun _ => ?_⟩) (fun a => ⟨fun _ => no (fun v => a (v.2 0 (by decide))), fun v => absurd rfl v⟩)
  refine lt 1 (by decide) _ _ (fun a1 => ⟨fun v => absurd v (by decide), fun _ => ?_⟩) (fun a => ⟨fun _ => no (fun v => a (v.2 1 (by decide))), fun v => absurd rfl v⟩)
  refine lt 2 (by decide) _ _ (fun a2 => ⟨fun v => absurd v (by decide), fun _ => ?_⟩) (fun a => ⟨fun _ => no (fun v => a (v.2 2 (by decide))), fun v => absurd rfl v⟩)
  refine lt 3 (by decide) _ _ (fun a3 => ⟨fun v => absurd v (by decide), fun _ => ?_⟩) (fun a => ⟨fun _ => no (fun v => a (v.2 3 (by decide))), fun v => absurd rfl v⟩)
  refine lt 4 (by decide) _ _ (fun a4 => ⟨fun v => absurd v (by decide), fun _ => ?_⟩) (fun a => ⟨fun _ => no (fun v => a (v.2 4 (by decide))), fun v => absurd rfl v⟩)
  unfold wX5_isWord_j146
  refine ⟨fun v => absurd v (by decide), fun _ => ?_⟩
  refine lt 5 (by decide) _ _ (fun a5 => ⟨fun v => absurd v (by decide), fun _ => ?_⟩) (fun a => ⟨fun _ => k0 (fun v => a (v.2 5 (by decide))), fun v => absurd rfl v⟩)
  refine lt 6 (by decide) _ _ (fun a6 => ⟨fun v => absurd v (by decide), fun _ => ?_⟩) (fun a => ⟨fun _ => k0 (fun v => a (v.2 6 (by decide))), fun v => absurd rfl v⟩)
  refine lt 7 (by decide) _ _ (fun a7 => ⟨fun v => absurd v (by decide), fun _ => ?_⟩) (fun a => ⟨fun _ => k0 (fun v => a (v.2 7 (by decide))), fun v => absurd rfl v⟩)
  refine lt 8 (by decide) _ _ (fun a8 => ⟨fun v => absurd v (by decide), fun _ => ?_⟩) (fun a => ⟨fun _ => k0 (fun v => a (v.2 8 (by decide))), fun v => absurd rfl v⟩)
  refine k1 ⟨en, fun i hi => ?_⟩
  rcases (show i = 0 ∨ i = 1 ∨ i = 2 ∨ i = 3 ∨ i = 4 ∨ i = 5 ∨ i = 6 ∨ i = 7 ∨ i = 8 by omega) with rfl | rfl | rfl | rfl | rfl | rfl | rfl | rfl | rfl <;> assumption
theorem wd_iff {t : Nat → Int32} {T f j : Nat} (hj : j < 12) (hf : f ≤ T) : (te t T f - f = wN j ∧ ∀ i, i < 9 → LA t T f i (wB j i)) ↔ wdB t T f j = true := by
  obtain ⟨⟨a1, a2, a3⟩, a4⟩ := w_tab ⟨j, hj⟩
  have tb := te_bd t hf
  constructor
  · rintro ⟨h1, h2⟩
    refine decide_eq_true ⟨h1, fun i hi => ?_⟩
    have a2 : wN j ≤ 9 := a2
    have := (a4 ⟨i, by omega⟩).1 hi
    rcases h2 i (by omega) with q | q
    · exact absurd q this
    · rw [bt_lt (by omega)] at q; exact q
  · intro h
    obtain ⟨h1, h2⟩ := of_decide_eq_true h
    refine ⟨h1, fun i hi => ?_⟩
    by_cases q : i < wN j
    · right
      rw [bt_lt (by omega)]
      exact h2 i q
    · left
      exact (a4 ⟨i, hi⟩).2 (by show wN j ≤ i; omega)
theorem m_isWordK {m : zz_H} {t : Nat → Int32} {T f j : Nat} (hj : j < 12) (hp : MP m t T) (hm : MT m t T f) (post : Int32 → Prop) (k : post (if wdB t T f j then 1 else 0)) : wX5_isWord_j71 (wB j 0) (wB j 1) (wB j 2) (wB j 3) (wB j 4) (wB j 5) (wB j 6) (wB j 7) (wB j 8) m post (nI (wN j)) := by
  have a2 : wN j ≤ 9 := (w_tab ⟨j, hj⟩).1.2.1
  refine m_isWordG hp hm (wB j) (wN j) (by omega) post (fun h => ?_) (fun h => ?_)
  · rw [(wd_iff hj hm.2.2.2).mp h] at k; exact k
  · cases hw : wdB t T f j
    · rw [hw] at k; exact k
    · exact absurd ((wd_iff hj hm.2.2.2).mpr hw) h
theorem m_isWordW {m : zz_H} (h11 : m 0 11 = 1) (p1 p2 p3 p4 p5 p6 p7 p8 p9 : Int32) (post : Int32 → Prop) (k : post 0) : wX5_isWord p1 p2 p3 p4 p5 p6 p7 p8 p9 m post := by
  have n0 : ¬ m 0 11 = 0 := by rw [h11]; decide
  have j71 : ∀ y, wX5_isWord_j71 p1 p2 p3 p4 p5 p6 p7 p8 p9 m post y := fun y => ⟨fun _ => ⟨fun _ => k, fun v => absurd rfl v⟩, fun w => absurd w n0⟩
  have j59 : ∀ y, wX5_isWord_j59 p1 p2 p3 p4 p5 p6 p7 p8 p9 m post y := fun y => ⟨fun _ => j71 _, fun _ => j71 _⟩
  exact ⟨fun _ => ⟨fun _ => ⟨fun _ => ⟨fun _ => ⟨fun _ => ⟨fun _ => j59 _, fun _ => j59 _⟩, fun _ => j59 _⟩, fun _ => j59 _⟩, fun _ => j59 _⟩, fun _ => j59 _⟩, fun _ => j59 _⟩
theorem m_w0 {m : zz_H} {t : Nat → Int32} {T f : Nat} (hp : MP m t T) (hm : MT m t T f) (post : Int32 → Prop) (k : post (if wdB t T f 0 then 1 else 0)) : wX5_isWord 113 117 101 115 116 105 111 110 0 m post := by
  have jj : wX5_isWord_j71 113 117 101 115 116 105 111 110 0 m post (nI 8) := m_isWordK (j := 0) (by decide) hp hm post k
  exact ⟨fun _ => ⟨fun _ => ⟨fun _ => ⟨fun _ => ⟨fun _ => ⟨fun w => absurd rfl w, fun _ => ⟨fun _ => jj, fun w => absurd w (by decide)⟩⟩, fun w => absurd w (by decide)⟩, fun w => absurd w (by decide)⟩, fun w => absurd w (by decide)⟩, fun w => absurd w (by decide)⟩, fun w => absurd w (by decide)⟩
theorem m_w1 {m : zz_H} {t : Nat → Int32} {T f : Nat} (hp : MP m t T) (hm : MT m t T f) (post : Int32 → Prop) (k : post (if wdB t T f 1 then 1 else 0)) : wX5_isWord 99 111 109 109 111 110 0 0 0 m post := by
  have jj : wX5_isWord_j71 99 111 109 109 111 110 0 0 0 m post (nI 6) := m_isWordK (j := 1) (by decide) hp hm post k
  exact ⟨fun _ => ⟨fun _ => ⟨fun _ => ⟨fun w => absurd rfl w, fun _ => ⟨fun _ => jj, fun w => absurd w (by decide)⟩⟩, fun w => absurd w (by decide)⟩, fun w => absurd w (by decide)⟩, fun w => absurd w (by decide)⟩
theorem m_w2 {m : zz_H} {t : Nat → Int32} {T f : Nat} (hp : MP m t T) (hm : MT m t T f) (post : Int32 → Prop) (k : post (if wdB t T f 2 then 1 else 0)) : wX5_isWord 112 117 112 105 108 0 0 0 0 m post := by
  have jj : wX5_isWord_j71 112 117 112 105 108 0 0 0 0 m post (nI 5) := m_isWordK (j := 2) (by decide) hp hm post k
  exact ⟨fun _ => ⟨fun _ => ⟨fun w => absurd rfl w, fun _ => ⟨fun _ => jj, fun w => absurd w (by decide)⟩⟩, fun w => absurd w (by decide)⟩, fun w => absurd w (by decide)⟩
theorem m_w3 {m : zz_H} {t : Nat → Int32} {T f : Nat} (hp : MP m t T) (hm : MT m t T f) (post : Int32 → Prop) (k : post (if wdB t T f 3 then 1 else 0)) : wX5_isWord 119 111 114 116 104 0 0 0 0 m post := by
  have jj : wX5_isWord_j71 119 111 114 116 104 0 0 0 0 m post (nI 5) := m_isWordK (j := 3) (by decide) hp hm post k
  exact ⟨fun _ => ⟨fun _ => ⟨fun w => absurd rfl w, fun _ => ⟨fun _ => jj, fun w => absurd w (by decide)⟩⟩, fun w => absurd w (by decide)⟩, fun w => absurd w (by decide)⟩
theorem m_w4 {m : zz_H} {t : Nat → Int32} {T f : Nat} (hp : MP m t T) (hm : MT m t T f) (post : Int32 → Prop) (k : post (if wdB t T f 4 then 1 else 0)) : wX5_isWord 98 121 0 0 0 0 0 0 0 m post := by
  have jj : wX5_isWord_j71 98 121 0 0 0 0 0 0 0 m post (nI 2) := m_isWordK (j := 4) (by decide) hp hm post k
  exact ⟨fun w => absurd rfl w, fun _ => ⟨fun w => absurd rfl w, fun _ => jj⟩⟩
theorem m_w5 {m : zz_H} {t : Nat → Int32} {T f : Nat} (hp : MP m t T) (hm : MT m t T f) (post : Int32 → Prop) (k : post (if wdB t T f 5 then 1 else 0)) : wX5_isWord 99 117 114 118 101 0 0 0 0 m post := by
  have jj : wX5_isWord_j71 99 117 114 118 101 0 0 0 0 m post (nI 5) := m_isWordK (j := 5) (by decide) hp hm post k
  exact ⟨fun _ => ⟨fun _ => ⟨fun w => absurd rfl w, fun _ => ⟨fun _ => jj, fun w => absurd w (by decide)⟩⟩, fun w => absurd w (by decide)⟩, fun w => absurd w (by decide)⟩
theorem m_w6 {m : zz_H} {t : Nat → Int32} {T f : Nat} (hp : MP m t T) (hm : MT m t T f) (post : Int32 → Prop) (k : post (if wdB t T f 6 then 1 else 0)) : wX5_isWord 97 100 100 101 100 0 0 0 0 m post := by
  have jj : wX5_isWord_j71 97 100 100 101 100 0 0 0 0 m post (nI 5) := m_isWordK (j := 6) (by decide) hp hm post k
  exact ⟨fun _ => ⟨fun _ => ⟨fun w => absurd rfl w, fun _ => ⟨fun _ => jj, fun w => absurd w (by decide)⟩⟩, fun w => absurd w (by decide)⟩, fun w => absurd w (by decide)⟩
theorem m_w7 {m : zz_H} {t : Nat → Int32} {T f : Nat} (hp : MP m t T) (hm : MT m t T f) (post : Int32 → Prop) (k : post (if wdB t T f 7 then 1 else 0)) : wX5_isWord 115 116 114 101 116 99 104 101 100 m post := by
  have jj : wX5_isWord_j71 115 116 114 101 116 99 104 101 100 m post (nI 9) := m_isWordK (j := 7) (by decide) hp hm post k
  exact ⟨fun _ => ⟨fun _ => ⟨fun _ => ⟨fun _ => ⟨fun _ => ⟨fun _ => ⟨fun _ => jj, fun w => absurd w (by decide)⟩, fun w => absurd w (by decide)⟩, fun w => absurd w (by decide)⟩, fun w => absurd w (by decide)⟩, fun w => absurd w (by decide)⟩, fun w => absurd w (by decide)⟩, fun w => absurd w (by decide)⟩
theorem m_w8 {m : zz_H} {t : Nat → Int32} {T f : Nat} (hp : MP m t T) (hm : MT m t T f) (post : Int32 → Prop) (k : post (if wdB t T f 8 then 1 else 0)) : wX5_isWord 98 101 110 116 0 0 0 0 0 m post := by
  have jj : wX5_isWord_j71 98 101 110 116 0 0 0 0 0 m post (nI 4) := m_isWordK (j := 8) (by decide) hp hm post k
  exact ⟨fun _ => ⟨fun w => absurd rfl w, fun _ => ⟨fun _ => jj, fun w => absurd w (by decide)⟩⟩, fun w => absurd w (by decide)⟩
theorem m_w9 {m : zz_H} {t : Nat → Int32} {T f : Nat} (hp : MP m t T) (hm : MT m t T f) (post : Int32 → Prop) (k : post (if wdB t T f 9 then 1 else 0)) : wX5_isWord 115 104 97 114 101 100 0 0 0 m post := by
  have jj : wX5_isWord_j71 115 104 97 114 101 100 0 0 0 m post (nI 6) := m_isWordK (j := 9) (by decide) hp hm post k
  exact ⟨fun _ => ⟨fun _ => ⟨fun _ => ⟨fun w => absurd rfl w, fun _ => ⟨fun _ => jj, fun w => absurd w (by decide)⟩⟩, fun w => absurd w (by decide)⟩, fun w => absurd w (by decide)⟩, fun w => absurd w (by decide)⟩
theorem m_w10 {m : zz_H} {t : Nat → Int32} {T f : Nat} (hp : MP m t T) (hm : MT m t T f) (post : Int32 → Prop) (k : post (if wdB t T f 10 then 1 else 0)) : wX5_isWord 108 105 110 107 101 100 0 0 0 m post := by
  have jj : wX5_isWord_j71 108 105 110 107 101 100 0 0 0 m post (nI 6) := m_isWordK (j := 10) (by decide) hp hm post k
  exact ⟨fun _ => ⟨fun _ => ⟨fun _ => ⟨fun w => absurd rfl w, fun _ => ⟨fun _ => jj, fun w => absurd w (by decide)⟩⟩, fun w => absurd w (by decide)⟩, fun w => absurd w (by decide)⟩, fun w => absurd w (by decide)⟩
theorem m_w11 {m : zz_H} {t : Nat → Int32} {T f : Nat} (hp : MP m t T) (hm : MT m t T f) (post : Int32 → Prop) (k : post (if wdB t T f 11 then 1 else 0)) : wX5_isWord 100 114 111 112 112 101 100 0 0 m post := by
  have jj : wX5_isWord_j71 100 114 111 112 112 101 100 0 0 m post (nI 7) := m_isWordK (j := 11) (by decide) hp hm post k
  exact ⟨fun _ => ⟨fun _ => ⟨fun _ => ⟨fun _ => ⟨fun w => absurd rfl w, fun _ => ⟨fun _ => jj, fun w => absurd w (by decide)⟩⟩, fun w => absurd w (by decide)⟩, fun w => absurd w (by decide)⟩, fun w => absurd w (by decide)⟩, fun w => absurd w (by decide)⟩
def kdW (t : Nat → Int32) (T f : Nat) : Int32 := if wdB t T f 5 then 0 else if wdB t T f 6 then 1 else if wdB t T f 7 then 2 else if wdB t T f 8 then 3 else if wdB t T f 9 then 4 else if wdB t T f 10 then 5 else if wdB t T f 11 then 6 else -1
theorem br {b : Bool} {A B : Prop} (h1 : b = true → B) (h0 : b = false → A) : ((if b then (1 : Int32) else 0) = 0 → A) ∧ (¬ (if b then (1 : Int32) else 0) = 0 → B) := by
  cases b
  · exact ⟨fun _ => h0 rfl, fun w => absurd rfl w⟩
  · exact ⟨fun w => absurd w (by decide), fun _ => h1 rfl⟩
theorem br' {b : Bool} {A B : Prop} (h1 : b = true → B) (h0 : b = false → A) : (¬ (if b then (1 : Int32) else 0) = 0 → B) ∧ ((if b then (1 : Int32) else 0) = 0 → A) := ⟨(br h1 h0).2, (br h1 h0).1⟩
theorem c_kind {c : zz_H} {t : Nat → Int32} {T f : Nat} (hT : T ≤ 120) (hf : f ≤ T) (hb : ∀ i, i < T → c 30 i = t i) (h : TC c t T f) (post : Int32 → Prop) (k : post (kdW t T f)) : wX3_kindOfWord c post := by
  unfold wX3_kindOfWord
  unfold kdW at k
  refine c_isWord (by decide) hT hf hb h _ (br (fun w => ?_) (fun w => ?_))
  · rw [w] at k; exact k
  rw [w, if_neg Bool.false_ne_true] at k
  refine c_isWord (by decide) hT hf hb h _ (br (fun w => ?_) (fun w => ?_))
  · rw [w] at k; exact k
  rw [w, if_neg Bool.false_ne_true] at k
  refine c_isWord (by decide) hT hf hb h _ (br (fun w => ?_) (fun w => ?_))
  · rw [w] at k; exact k
  rw [w, if_neg Bool.false_ne_true] at k
  refine c_isWord (by decide) hT hf hb h _ (br (fun w => ?_) (fun w => ?_))
  · rw [w] at k; exact k
  rw [w, if_neg Bool.false_ne_true] at k
  refine c_isWord (by decide) hT hf hb h _ (br (fun w => ?_) (fun w => ?_))
  · rw [w] at k; exact k
  rw [w, if_neg Bool.false_ne_true] at k
  refine c_isWord (by decide) hT hf hb h _ (br (fun w => ?_) (fun w => ?_))
  · rw [w] at k; exact k
  rw [w, if_neg Bool.false_ne_true] at k
  refine c_isWord (by decide) hT hf hb h _ (br (fun w => ?_) (fun w => ?_))
  · rw [w] at k; exact k
  · rw [w] at k; exact k
theorem m_kind {m : zz_H} {t : Nat → Int32} {T f : Nat} (hp : MP m t T) (hm : MT m t T f) (post : Int32 → Prop) (k : post (kdW t T f)) : wX5_kindHere m post := by
  unfold wX5_kindHere
  unfold kdW at k
  refine m_w5 hp hm _ (br (fun w => ?_) (fun w => ?_))
  · rw [w] at k; exact k
  rw [w, if_neg Bool.false_ne_true] at k
  refine m_w6 hp hm _ (br (fun w => ?_) (fun w => ?_))
  · rw [w] at k; exact k
  rw [w, if_neg Bool.false_ne_true] at k
  refine m_w7 hp hm _ (br (fun w => ?_) (fun w => ?_))
  · rw [w] at k; exact k
  rw [w, if_neg Bool.false_ne_true] at k
  refine m_w8 hp hm _ (br (fun w => ?_) (fun w => ?_))
  · rw [w] at k; exact k
  rw [w, if_neg Bool.false_ne_true] at k
  refine m_w9 hp hm _ (br (fun w => ?_) (fun w => ?_))
  · rw [w] at k; exact k
  rw [w, if_neg Bool.false_ne_true] at k
  refine m_w10 hp hm _ (br (fun w => ?_) (fun w => ?_))
  · rw [w] at k; exact k
  rw [w, if_neg Bool.false_ne_true] at k
  refine m_w11 hp hm _ (br (fun w => ?_) (fun w => ?_))
  · rw [w] at k; exact k
  · rw [w] at k; exact k
theorem kdW_rng (t : Nat → Int32) (T f : Nat) : kdW t T f = -1 ∨ zb (kdW t T f) 0 6 := by
  unfold kdW
  repeat' split
  all_goals first | exact Or.inl rfl | exact Or.inr ⟨by decide, by decide⟩
theorem kdW_wd {t : Nat → Int32} {T f j : Nat} (hj : j < 5) (h : wdB t T f j = true) : kdW t T f = -1 := by
  have n := fun j' (h1 : j' < 12) (h2 : 5 ≤ j') => wd_one (t := t) (T := T) (f := f) (j := j) (j' := j') (by omega) h1 (by omega) h
  unfold kdW
  rw [n 5 (by decide) (by decide), n 6 (by decide) (by decide), n 7 (by decide) (by decide), n 8 (by decide) (by decide), n 9 (by decide) (by decide), n 10 (by decide) (by decide), n 11 (by decide) (by decide)]
  rfl
