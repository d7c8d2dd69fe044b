/-! THE SMALL MACHINE: a world of int arrays and objects whose shape never changes; zz_Go is 'from this small state the method comes to its end, with post'. -/
theorem zz_goodf {w : Cond} (h : w ∈ lw_tbl.filter goodWord) : w ∈ lw_tbl ∧ goodWord w = true := List.mem_filter.mp h
def zz_TB : List Cond := lw_tbl.filter goodWord
theorem zz_in {w : Cond} (i : Nat) (h : lw_tbl[i]? = some w) (hg : goodWord w = true) : w ∈ zz_TB := List.mem_filter.mpr ⟨List.mem_of_getElem? h, hg⟩
theorem zz_goodIn (ws : List Cond) (h : ∀ w ∈ ws, w ∈ zz_TB) : GoodIn zz_TB ws := fun w hw => ⟨h w hw, good_of_word (zz_goodf (h w hw)).2⟩
abbrev zz_SC : Type := Nat ⊕ (List Nat ⊕ (Nat × List (Option Nat)))
abbrev zz_H : Type := Nat → Nat → Int32
def zz_v (ad : Nat → Nat) (v : Value) : Value := match v with
  | .ref k => .ref (ad k)
  | w => w
def zz_f (ad : Nat → Nat) (g : Nat → Int32) (j : Nat) (o : Option Nat) : Value := match o with
  | some k => .ref (ad k)
  | none => .int (g j)
def zz_cell (ad : Nat → Nat) (cI cR : ClassId) (h : zz_H) (k : Nat) (c : zz_SC) : va_E := match c with
  | .inl n => .inl (cI, n, .inl (h k))
  | .inr (.inl l) => .inl (cR, l.length, .inr (.inr (.inr (.inr (fun i => (l[i]?).map ad)))))
  | .inr (.inr (ci, fs)) => .inr (ci, fs.mapIdx (zz_f ad (h k)))
def zz_ws (ad : Nat → Nat) (cI cR : ClassId) (sh : List zz_SC) (h : zz_H) : va_W := sh.mapIdx (fun k c => (ad k, zz_cell ad cI cR h k c))
/-- one cell's ints become others -/
def zz_st (h : zz_H) (k : Nat) (g : Nat → Int32) : zz_H := fun a => if a = k then g else h a
theorem zz_st_self (h : zz_H) (k : Nat) (g : Nat → Int32) : zz_st h k g k = g := if_pos rfl
theorem zz_st_ne (h : zz_H) {k a : Nat} (g : Nat → Int32) (n : a ≠ k) : zz_st h k g a = h a := if_neg n
theorem zz_v_cat (ad : Nat → Nat) (v : Value) : (zz_v ad v).category = v.category := by cases v <;> rfl
theorem zz_ws_at {ad : Nat → Nat} {cI cR : ClassId} {sh : List zz_SC} {h : zz_H} {k : Nat} {c : zz_SC} (hk : sh[k]? = some c) : (zz_ws ad cI cR sh h)[k]? = some (ad k, zz_cell ad cI cR h k c) := by
  simp [zz_ws, List.getElem?_mapIdx, hk]
theorem zz_cell_st {ad : Nat → Nat} {cI cR : ClassId} {h : zz_H} {k j : Nat} {g : Nat → Int32} (c : zz_SC) (hj : j ≠ k) : zz_cell ad cI cR (zz_st h k g) j c = zz_cell ad cI cR h j c := by
  have e : zz_st h k g j = h j := zz_st_ne h g hj
  rcases c with n | l | ⟨ci, fs⟩
  · show Sum.inl (cI, n, Sum.inl (zz_st h k g j)) = Sum.inl (cI, n, Sum.inl (h j))
    rw [e]
  · rfl
  · show Sum.inr (ci, fs.mapIdx (zz_f ad (zz_st h k g j))) = Sum.inr (ci, fs.mapIdx (zz_f ad (h j)))
    rw [e]
theorem zz_ws_set {ad : Nat → Nat} {cI cR : ClassId} {sh : List zz_SC} {h : zz_H} {k : Nat} {c : zz_SC} {g : Nat → Int32} {x : va_E} (hk : sh[k]? = some c) (hx : zz_cell ad cI cR (zz_st h k g) k c = x) : (zz_ws ad cI cR sh h).set k (ad k, x) = zz_ws ad cI cR sh (zz_st h k g) := by
  apply List.ext_getElem?
  intro j
  by_cases hj : k = j
  · subst hj
    have hl : k < (zz_ws ad cI cR sh h).length := (List.getElem?_eq_some_iff.mp (zz_ws_at (ad := ad) (cI := cI) (cR := cR) (h := h) hk)).1
    rw [List.getElem?_set_self hl, zz_ws_at hk, hx]
  · rw [List.getElem?_set_ne hj]
    simp only [zz_ws, List.getElem?_mapIdx]
    cases hs : sh[j]? with
    | none => rfl
    | some c' =>
      simp only [Option.map_some]
      rw [zz_cell_st c' (fun e => hj e.symm)]
theorem zz_ws_arr {ad : Nat → Nat} {cI cR : ClassId} {sh : List zz_SC} {h : zz_H} {k n : Nat} (g : Nat → Int32) (hk : sh[k]? = some (.inl n)) : (zz_ws ad cI cR sh h).set k (ad k, .inl (cI, n, .inl g)) = zz_ws ad cI cR sh (zz_st h k g) :=
  zz_ws_set hk (by show Sum.inl (cI, n, Sum.inl (zz_st h k g k)) = _; rw [zz_st_self])
theorem zz_mapIdx_set {ad : Nat → Nat} {f : Nat → Int32} {fs : List (Option Nat)} {j : Nat} {x : Int32} (hj : fs[j]? = some none) : fs.mapIdx (zz_f ad (upd f j x)) = (fs.mapIdx (zz_f ad f)).set j (.int x) := by
  apply List.ext_getElem?
  intro i
  by_cases hi : j = i
  · subst hi
    have hl : j < (fs.mapIdx (zz_f ad f)).length := by
      rw [List.length_mapIdx]
      exact (List.getElem?_eq_some_iff.mp hj).1
    rw [List.getElem?_set_self hl, List.getElem?_mapIdx, hj]
    simp [zz_f, upd]
  · rw [List.getElem?_set_ne hi, List.getElem?_mapIdx, List.getElem?_mapIdx]
    cases hs : fs[i]? with
    | none => rfl
    | some o =>
      simp only [Option.map_some]
      cases o with
      | none => simp [zz_f, upd, Ne.symm hi]
      | some q => rfl
theorem zz_ws_obj {ad : Nat → Nat} {cI cR : ClassId} {sh : List zz_SC} {h : zz_H} {k ci j : Nat} {fs : List (Option Nat)} (x : Int32) (hk : sh[k]? = some (.inr (.inr (ci, fs)))) (hj : fs[j]? = some none) : (zz_ws ad cI cR sh h).set k (ad k, .inr (ci, (fs.mapIdx (zz_f ad (h k))).set j (.int x))) = zz_ws ad cI cR sh (zz_st h k (upd (h k) j x)) :=
  zz_ws_set hk (by show Sum.inr (ci, fs.mapIdx (zz_f ad (zz_st h k (upd (h k) j x) k))) = _; rw [zz_st_self, zz_mapIdx_set hj])
/-- the locals: null stands for 'nothing is said' -/
def zz_pl (ad : Nat → Nat) : Nat → List Value → List (Nat × Value)
  | _, [] => []
  | i, v :: t => match v with
    | .null => zz_pl ad (i + 1) t
    | w => (i, zz_v ad w) :: zz_pl ad (i + 1) t
theorem zz_pl_mem {ad : Nat → Nat} : ∀ (L : List Value) (b i : Nat) (v : Value), L[i]? = some v → v ≠ .null → (b + i, zz_v ad v) ∈ zz_pl ad b L := by
  intro L
  induction L with
  | nil => intro b i v h; simp at h
  | cons w t ih =>
    intro b i v h hv
    cases i with
    | zero =>
      simp at h
      subst h
      cases w <;> first | exact absurd rfl hv | exact List.mem_cons_self
    | succ i =>
      have h1 := ih (b + 1) i v (by simpa using h) hv
      rw [show b + (i + 1) = b + 1 + i by omega]
      cases w <;> first | exact h1 | exact List.mem_cons_of_mem _ h1
theorem zz_pl_of {ad : Nat → Nat} : ∀ (L : List Value) (b : Nat) (q : Nat × Value), q ∈ zz_pl ad b L → ∃ (i : Nat) (v : Value), L[i]? = some v ∧ v ≠ .null ∧ q = (b + i, zz_v ad v) := by
  intro L
  induction L with
  | nil => intro b q h; cases h
  | cons w t ih =>
    intro b q h
    have key : q ∈ zz_pl ad (b + 1) t → ∃ (i : Nat) (v : Value), (w :: t)[i]? = some v ∧ v ≠ .null ∧ q = (b + i, zz_v ad v) := by
      intro h1
      obtain ⟨i, v, h2, h3, h4⟩ := ih (b + 1) q h1
      exact ⟨i + 1, v, by simpa using h2, h3, by rw [h4]; congr 1; omega⟩
    by_cases hw : w = .null
    · subst hw
      exact key h
    · have h2 : q ∈ (b, zz_v ad w) :: zz_pl ad (b + 1) t := by
        cases w <;> first | exact absurd rfl hw | exact h
      rcases List.mem_cons.mp h2 with h3 | h3
      · exact ⟨0, w, rfl, hw, h3⟩
      · exact key h3
theorem zz_lset {ad : Nat → Nat} {ls : Array Slot} {nL i : Nat} {L : List Value} {v : Value} (hc : L.all (fun w => w.category == 1) = true) (h : lv_has ls nL ((i, zz_v ad v) :: (zz_pl ad 0 L).filter (fun q => !(q.1 == i) && !(q.1 + 1 == i && q.2.category == 2)))) : lv_has ls nL (zz_pl ad 0 (L.set i v)) := by
  refine ⟨h.1, h.2.1, fun q hq => ?_⟩
  obtain ⟨j, w, h1, h2, h3⟩ := zz_pl_of _ _ _ hq
  subst h3
  rw [Nat.zero_add]
  by_cases hj : i = j
  · subst hj
    have hl : i < L.length := by
      have := (List.getElem?_eq_some_iff.mp h1).1
      simpa using this
    rw [List.getElem?_set_self hl] at h1
    cases h1
    exact h.2.2 _ List.mem_cons_self
  · rw [List.getElem?_set_ne hj] at h1
    have hm := zz_pl_mem (ad := ad) L 0 j w h1 h2
    rw [Nat.zero_add] at hm
    have hcw : w.category = 1 := by
      have := List.all_eq_true.mp hc w (List.mem_of_getElem? h1)
      simpa using this
    refine h.2.2 (j, zz_v ad w) (List.mem_cons_of_mem _ (List.mem_filter.mpr ⟨hm, ?_⟩))
    simp [Ne.symm hj, zz_v_cat, hcw]
theorem zz_lget {ad : Nat → Nat} {ls : Array Slot} {nL i : Nat} {L : List Value} {v : Value} (h : lv_has ls nL (zz_pl ad 0 L)) (hi : L[i]? = some v) (hv : v ≠ .null) : ls[i]? = some (.val (zz_v ad v)) := by
  have := h.2.2 _ (zz_pl_mem (ad := ad) L 0 i v hi hv)
  rw [Nat.zero_add] at this
  exact this
/-- iterated: a loop of at most n rounds -/
def zz_lp {S : Type} (b : (S → Prop) → S → Prop) : Nat → S → Prop
  | 0, _ => False
  | n + 1, s => b (zz_lp b n) s
theorem zz_lp_of {S : Type} {b : (S → Prop) → S → Prop} (I : S → Prop) (μ : S → Nat) (hs : ∀ (s : S) (K : S → Prop), I s → (∀ s', I s' → μ s' < μ s → K s') → b K s) (s : S) (h : I s) : ∃ n, zz_lp b n s := by
  have key : ∀ (n : Nat) (s : S), μ s < n → I s → zz_lp b n s := by
    intro n
    induction n with
    | zero => intro s h; omega
    | succ n ih => intro s h1 h2; exact hs s _ h2 (fun s' h3 h4 => ih s' (by omega) h3)
  exact ⟨μ s + 1, key _ s (Nat.lt_succ_self _) h⟩
