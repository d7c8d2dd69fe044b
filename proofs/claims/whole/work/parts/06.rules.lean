def zz_sto (h : zz_H) (k : Nat) (g : Nat → Int32) (P : zz_H → Prop) : Prop := P (zz_st h k g)
def zz_min (x y : Int32) : Int32 := if y < x then y else x
def zz_max (x y : Int32) : Int32 := if x < y then y else x
def zz_abs (x : Int32) : Int32 := if 0 ≤ x then x else 0 - x
/-- an answer that is a truth value -/
def zz_z (v : Int32) : Prop := narrow .boolean (.int v) = .int v
theorem zz_vin {i : Int32} {n : Nat} (h : (decide (i < 0) || decide (n ≤ i.toNatClampNeg)) = false) : vp_in i n := by
  simp only [Bool.or_eq_false_iff, decide_eq_false_iff_not] at h
  exact fun q => q.elim h.1 h.2
def zz_le : List Value → List Value → Prop
  | [], _ => True
  | _ :: _, [] => False
  | v :: t, w :: t' => (v = .null ∨ v = w) ∧ zz_le t t'
theorem zz_le_mem (ad : Nat → Nat) : ∀ (L' L : List Value) (b : Nat), zz_le L' L → ∀ q ∈ zz_pl ad b L', q ∈ zz_pl ad b L := by
  intro L'
  induction L' with
  | nil => intro L b _ q hq; cases hq
  | cons v t ih =>
    intro L b hs q hq
    cases L with
    | nil => exact hs.elim
    | cons w t' =>
      obtain ⟨h1, h2⟩ := hs
      have up : q ∈ zz_pl ad (b + 1) t' → q ∈ zz_pl ad b (w :: t') := by
        intro h3
        cases w <;> first | exact h3 | exact List.mem_cons_of_mem _ h3
      rcases h1 with rfl | rfl
      · exact up (ih t' (b + 1) h2 q hq)
      · by_cases hv : v = .null
        · subst hv
          exact up (ih t' (b + 1) h2 q hq)
        · have h4 : q ∈ (b, zz_v ad v) :: zz_pl ad (b + 1) t := by
            cases v <;> first | exact absurd rfl hv | exact hq
          rcases List.mem_cons.mp h4 with rfl | h5
          · cases v <;> first | exact absurd rfl hv | exact List.mem_cons_self
          · exact up (ih t' (b + 1) h2 q h5)
def zz_yV (y : MethodName) (cc : ByteArray) (nL : Nat) (ret : Option FieldType) (C : String) (n : Nat) : Prop := Cond.code y cc nL ret ∈ zz_TB ∧ Cond.instanceMethod y ∈ zz_TB ∧ Cond.selects C y y ∈ zz_TB ∧ Cond.initialized C ∈ zz_TB ∧ nL ≤ 17 ∧ y.cls = C ∧ y.cls ≠ "java/lang/invoke/MethodHandle" ∧ y.cls ≠ "java/lang/invoke/VarHandle" ∧ (parseMethodDescriptor y.desc).map (fun d => d.parameters.length) = some n
def zz_yS (y : MethodName) (cc : ByteArray) (nL : Nat) (ret : Option FieldType) (n : Nat) : Prop := Cond.code y cc nL ret ∈ zz_TB ∧ Cond.static y ∈ zz_TB ∧ Cond.initialized y.cls ∈ zz_TB ∧ nL ≤ 17 ∧ y.cls ≠ "java/lang/invoke/MethodHandle" ∧ y.cls ≠ "java/lang/invoke/VarHandle" ∧ (parseMethodDescriptor y.desc).map (fun d => d.parameters.length) = some n
def zz_ushr (x y : Int32) : Int32 := (x.toUInt32 >>> (y.toUInt32 &&& Int32.toUInt32 31)).toInt32
def zz_rem (x y : Int32) : Int32 := x - x / y * y
def zz_cls (ci : Nat) (C : String) (T : u_T) (N : Nat) (ty : Nat → FieldType) : Prop := vwCl[ci]? = some (C, T, N) ∧ (∀ w ∈ u_ws C T N, w ∈ zz_TB) ∧ (∀ k, k < N → parseFieldDescriptor (T k).2.2.1 = some (ty k)) ∧ ∀ a, a < N → ∀ b, b < N → a ≠ b → (T a).2.1 ≠ (T b).2.1
theorem zz_catS (ad : Nat → Nat) (st : List Value) : ((st.map (zz_v ad)).map fun v => v.category).sum = (st.map fun v => v.category).sum := by
  rw [List.map_map]
  congr 1
  exact List.map_congr_left (fun v _ => zz_v_cat ad v)
theorem zz_loc {d d' nL : Nat} {R : Room} (h : d' + 1 ≤ d) (hn : nL ≤ 17) (hl : 36 * d ≤ R.locals) : 8 + (nL + 11) + (zz_rm d').locals ≤ R.locals := by
  show 8 + (nL + 11) + 36 * d' ≤ R.locals
  omega
theorem zz_memV {own C : String} {i nL : Nat} {y : MethodName} {cc : ByteArray} {ret : Option FieldType} (h0 : Cond.code y cc nL ret ∈ zz_TB) (h1 : Cond.methodLink own i y ∈ zz_TB) (h2 : Cond.instanceMethod y ∈ zz_TB) (h3 : Cond.selects C y y ∈ zz_TB) (h4 : Cond.initialized C ∈ zz_TB) : ∀ w ∈ wsV own i C y (zz_w y cc nL ret), w ∈ zz_TB := by
  intro w hw
  simp only [wsV, List.mem_append, List.mem_cons, List.not_mem_nil, or_false] at hw
  rcases hw with (rfl | rfl | rfl | rfl) | rfl | hw <;> assumption
theorem zz_memS {own : String} {i nL : Nat} {y : MethodName} {cc : ByteArray} {ret : Option FieldType} (h0 : Cond.code y cc nL ret ∈ zz_TB) (h1 : Cond.methodLink own i y ∈ zz_TB) (h2 : Cond.static y ∈ zz_TB) (h3 : Cond.initialized y.cls ∈ zz_TB) : ∀ w ∈ va_wsS own i y (zz_w y cc nL ret), w ∈ zz_TB := by
  intro w hw
  simp only [va_wsS, List.mem_append, List.mem_cons, List.not_mem_nil, or_false] at hw
  rcases hw with (rfl | rfl | rfl) | rfl | hw <;> assumption
theorem zz_memN {nL : Nat} {y : MethodName} {cc : ByteArray} {ret : Option FieldType} (h0 : Cond.code y cc nL ret ∈ zz_TB) : ∀ w ∈ zz_w y cc nL ret, w ∈ zz_TB := by
  intro w hw
  rcases List.mem_cons.mp hw with rfl | hw <;> assumption
section ZR
variable {sh : List zz_SC} {d : Nat} {cc : ByteArray} {own : String} {nL : Nat} {ret : Option FieldType} {post : Int32 → zz_H → Prop} {pc : Nat} {st L : List Value} {h : zz_H}
theorem zr_iconst {n : Int} {v : Int32} (hd : decode cc pc = .ok (.iconst n, 1)) (hv : Int32.ofInt n = v) (k : zz_Go sh d cc own nL ret post (pc + 1) (.int v :: st) L h) : zz_Go sh d cc own nL ret post pc st L h := by
  intro p l e R s m args below meth c H locs D cI cR ad A ls X hP hD hS hL
  obtain ⟨hx, hb, hr, hml, hown, hlk, hts, hfr, hlo, hA, hK, hN, hO⟩ := id X
  exact lv_iconst hx hb hd hv (k p l e R s m args below meth c H locs D cI cR ad A ls X hP hD hS hL)
theorem zr_bipush {n : Int} {v : Int32} (hd : decode cc pc = .ok (.bipush n, 2)) (hv : (Int8.ofInt n).toInt32 = v) (k : zz_Go sh d cc own nL ret post (pc + 2) (.int v :: st) L h) : zz_Go sh d cc own nL ret post pc st L h := by
  intro p l e R s m args below meth c H locs D cI cR ad A ls X hP hD hS hL
  obtain ⟨hx, hb, hr, hml, hown, hlk, hts, hfr, hlo, hA, hK, hN, hO⟩ := id X
  exact lv_bipush hx hb hd hv (k p l e R s m args below meth c H locs D cI cR ad A ls X hP hD hS hL)
theorem zr_sipush {n : Int} {v : Int32} (hd : decode cc pc = .ok (.sipush n, 3)) (hv : (Int16.ofInt n).toInt32 = v) (k : zz_Go sh d cc own nL ret post (pc + 3) (.int v :: st) L h) : zz_Go sh d cc own nL ret post pc st L h := by
  intro p l e R s m args below meth c H locs D cI cR ad A ls X hP hD hS hL
  obtain ⟨hx, hb, hr, hml, hown, hlk, hts, hfr, hlo, hA, hK, hN, hO⟩ := id X
  exact lv_sipush hx hb hd hv (k p l e R s m args below meth c H locs D cI cR ad A ls X hP hD hS hL)
theorem zr_lconst {n : Fin 2} {v : Int64} (hd : decode cc pc = .ok (.lconst n, 1)) (hv : Int64.ofNat (n : Nat) = v) (k : zz_Go sh d cc own nL ret post (pc + 1) (.long v :: st) L h) : zz_Go sh d cc own nL ret post pc st L h := by
  intro p l e R s m args below meth c H locs D cI cR ad A ls X hP hD hS hL
  obtain ⟨hx, hb, hr, hml, hown, hlk, hts, hfr, hlo, hA, hK, hN, hO⟩ := id X
  exact lv_lconst hx hb hd hv (k p l e R s m args below meth c H locs D cI cR ad A ls X hP hD hS hL)
theorem zr_ldc {i : Nat} {v : Int32} (hw : Cond.constant own i v ∈ zz_TB) (hd : decode cc pc = .ok (.ldc i, 2)) (k : zz_Go sh d cc own nL ret post (pc + 2) (.int v :: st) L h) : zz_Go sh d cc own nL ret post pc st L h := by
  intro p l e R s m args below meth c H locs D cI cR ad A ls X hP hD hS hL
  obtain ⟨hx, hb, hr, hml, hown, hlk, hts, hfr, hlo, hA, hK, hN, hO⟩ := id X
  exact lv_ldc hx hb hown (hts _ hw) hd (k p l e R s m args below meth c H locs D cI cR ad A ls X hP hD hS hL)
theorem zr_ldcw {i : Nat} {v : Int32} (hw : Cond.constant own i v ∈ zz_TB) (hd : decode cc pc = .ok (.ldc_w i, 3)) (k : zz_Go sh d cc own nL ret post (pc + 3) (.int v :: st) L h) : zz_Go sh d cc own nL ret post pc st L h := by
  intro p l e R s m args below meth c H locs D cI cR ad A ls X hP hD hS hL
  obtain ⟨hx, hb, hr, hml, hown, hlk, hts, hfr, hlo, hA, hK, hN, hO⟩ := id X
  exact lv_ldcw hx hb hown (hts _ hw) hd (k p l e R s m args below meth c H locs D cI cR ad A ls X hP hD hS hL)
theorem zr_ldc2 {i : Nat} {v : Int64} (hw : Cond.constantLong own i v ∈ zz_TB) (hd : decode cc pc = .ok (.ldc2_w i, 3)) (k : zz_Go sh d cc own nL ret post (pc + 3) (.long v :: st) L h) : zz_Go sh d cc own nL ret post pc st L h := by
  intro p l e R s m args below meth c H locs D cI cR ad A ls X hP hD hS hL
  obtain ⟨hx, hb, hr, hml, hown, hlk, hts, hfr, hlo, hA, hK, hN, hO⟩ := id X
  exact lv_ldc2 hx hb hown (hts _ hw) hd (k p l e R s m args below meth c H locs D cI cR ad A ls X hP hD hS hL)
theorem zr_iload_n {k : Fin 4} {i : Nat} {x : Int32} (hd : decode cc pc = .ok (.iload_n k, 1)) (hi : (k : Nat) = i) (hl : L[i]? = some (.int x)) (kk : zz_Go sh d cc own nL ret post (pc + 1) (.int x :: st) L h) : zz_Go sh d cc own nL ret post pc st L h := by
  intro p l e R s m args below meth c H locs D cI cR ad A ls X hP hD hS hL
  obtain ⟨hx, hb, hr, hml, hown, hlk, hts, hfr, hlo, hA, hK, hN, hO⟩ := id X
  exact lv_iload_n hx hb hd hi (zz_lget hL hl (fun q => by cases q)) (kk p l e R s m args below meth c H locs D cI cR ad A ls X hP hD hS hL)
theorem zr_iload {i : Nat} {x : Int32} (hd : decode cc pc = .ok (.iload i, 2)) (hl : L[i]? = some (.int x)) (kk : zz_Go sh d cc own nL ret post (pc + 2) (.int x :: st) L h) : zz_Go sh d cc own nL ret post pc st L h := by
  intro p l e R s m args below meth c H locs D cI cR ad A ls X hP hD hS hL
  obtain ⟨hx, hb, hr, hml, hown, hlk, hts, hfr, hlo, hA, hK, hN, hO⟩ := id X
  exact lv_iload hx hb hd (zz_lget hL hl (fun q => by cases q)) (kk p l e R s m args below meth c H locs D cI cR ad A ls X hP hD hS hL)
theorem zr_lload_n {k : Fin 4} {i : Nat} {x : Int64} (hd : decode cc pc = .ok (.lload_n k, 1)) (hi : (k : Nat) = i) (hl : L[i]? = some (.long x)) (kk : zz_Go sh d cc own nL ret post (pc + 1) (.long x :: st) L h) : zz_Go sh d cc own nL ret post pc st L h := by
  intro p l e R s m args below meth c H locs D cI cR ad A ls X hP hD hS hL
  obtain ⟨hx, hb, hr, hml, hown, hlk, hts, hfr, hlo, hA, hK, hN, hO⟩ := id X
  exact lv_lload_n hx hb hd hi (zz_lget hL hl (fun q => by cases q)) (kk p l e R s m args below meth c H locs D cI cR ad A ls X hP hD hS hL)
theorem zr_lload {i : Nat} {x : Int64} (hd : decode cc pc = .ok (.lload i, 2)) (hl : L[i]? = some (.long x)) (kk : zz_Go sh d cc own nL ret post (pc + 2) (.long x :: st) L h) : zz_Go sh d cc own nL ret post pc st L h := by
  intro p l e R s m args below meth c H locs D cI cR ad A ls X hP hD hS hL
  obtain ⟨hx, hb, hr, hml, hown, hlk, hts, hfr, hlo, hA, hK, hN, hO⟩ := id X
  exact lv_lload hx hb hd (zz_lget hL hl (fun q => by cases q)) (kk p l e R s m args below meth c H locs D cI cR ad A ls X hP hD hS hL)
theorem zr_aload_n {k : Fin 4} {i : Nat} {x : Nat} (hd : decode cc pc = .ok (.aload_n k, 1)) (hi : (k : Nat) = i) (hl : L[i]? = some (.ref x)) (kk : zz_Go sh d cc own nL ret post (pc + 1) (.ref x :: st) L h) : zz_Go sh d cc own nL ret post pc st L h := by
  intro p l e R s m args below meth c H locs D cI cR ad A ls X hP hD hS hL
  obtain ⟨hx, hb, hr, hml, hown, hlk, hts, hfr, hlo, hA, hK, hN, hO⟩ := id X
  exact lv_aload_n hx hb hd hi (zz_lget hL hl (fun q => by cases q)) (kk p l e R s m args below meth c H locs D cI cR ad A ls X hP hD hS hL)
theorem zr_aload {i : Nat} {x : Nat} (hd : decode cc pc = .ok (.aload i, 2)) (hl : L[i]? = some (.ref x)) (kk : zz_Go sh d cc own nL ret post (pc + 2) (.ref x :: st) L h) : zz_Go sh d cc own nL ret post pc st L h := by
  intro p l e R s m args below meth c H locs D cI cR ad A ls X hP hD hS hL
  obtain ⟨hx, hb, hr, hml, hown, hlk, hts, hfr, hlo, hA, hK, hN, hO⟩ := id X
  exact lv_aload hx hb hd (zz_lget hL hl (fun q => by cases q)) (kk p l e R s m args below meth c H locs D cI cR ad A ls X hP hD hS hL)
theorem zr_istore_n {k : Fin 4} {i : Nat} {x : Int32} (L' : List Value) (hd : decode cc pc = .ok (.istore_n k, 1)) (hi : (k : Nat) = i) (hn : i < nL) (hc : L.all (fun w => w.category == 1) = true) (he : L.set i (.int x) = L') (kk : zz_Go sh d cc own nL ret post (pc + 1) st L' h) : zz_Go sh d cc own nL ret post pc (.int x :: st) L h := by
  intro p l e R s m args below meth c H locs D cI cR ad A ls X hP hD hS hL
  obtain ⟨hx, hb, hr, hml, hown, hlk, hts, hfr, hlo, hA, hK, hN, hO⟩ := id X
  exact lv_istore_n hx hb hd hi hL hn rfl (fun ls' hL' => kk p l e R s m args below meth c H locs D cI cR ad A ls' X hP hD hS (he ▸ zz_lset (v := .int x) hc hL'))
theorem zr_istore {i : Nat} {x : Int32} (L' : List Value) (hd : decode cc pc = .ok (.istore i, 2)) (hn : i < nL) (hc : L.all (fun w => w.category == 1) = true) (he : L.set i (.int x) = L') (kk : zz_Go sh d cc own nL ret post (pc + 2) st L' h) : zz_Go sh d cc own nL ret post pc (.int x :: st) L h := by
  intro p l e R s m args below meth c H locs D cI cR ad A ls X hP hD hS hL
  obtain ⟨hx, hb, hr, hml, hown, hlk, hts, hfr, hlo, hA, hK, hN, hO⟩ := id X
  exact lv_istore hx hb hd hL hn rfl (fun ls' hL' => kk p l e R s m args below meth c H locs D cI cR ad A ls' X hP hD hS (he ▸ zz_lset (v := .int x) hc hL'))
theorem zr_astore_n {k : Fin 4} {i : Nat} {x : Nat} (L' : List Value) (hd : decode cc pc = .ok (.astore_n k, 1)) (hi : (k : Nat) = i) (hn : i < nL) (hc : L.all (fun w => w.category == 1) = true) (he : L.set i (.ref x) = L') (kk : zz_Go sh d cc own nL ret post (pc + 1) st L' h) : zz_Go sh d cc own nL ret post pc (.ref x :: st) L h := by
  intro p l e R s m args below meth c H locs D cI cR ad A ls X hP hD hS hL
  obtain ⟨hx, hb, hr, hml, hown, hlk, hts, hfr, hlo, hA, hK, hN, hO⟩ := id X
  exact lv_astore_n hx hb hd hi hL hn rfl (fun ls' hL' => kk p l e R s m args below meth c H locs D cI cR ad A ls' X hP hD hS (he ▸ zz_lset (v := .ref x) hc hL'))
theorem zr_astore {i : Nat} {x : Nat} (L' : List Value) (hd : decode cc pc = .ok (.astore i, 2)) (hn : i < nL) (hc : L.all (fun w => w.category == 1) = true) (he : L.set i (.ref x) = L') (kk : zz_Go sh d cc own nL ret post (pc + 2) st L' h) : zz_Go sh d cc own nL ret post pc (.ref x :: st) L h := by
  intro p l e R s m args below meth c H locs D cI cR ad A ls X hP hD hS hL
  obtain ⟨hx, hb, hr, hml, hown, hlk, hts, hfr, hlo, hA, hK, hN, hO⟩ := id X
  exact lv_astore hx hb hd hL hn rfl (fun ls' hL' => kk p l e R s m args below meth c H locs D cI cR ad A ls' X hP hD hS (he ▸ zz_lset (v := .ref x) hc hL'))
theorem zr_iinc {i : Nat} {n : Int} {x : Int32} (v : Int32) (L' : List Value) (hd : decode cc pc = .ok (.iinc i n, 3)) (hl : L[i]? = some (.int x)) (hv : x + Int32.ofInt n = v) (hn : i < nL) (hc : L.all (fun w => w.category == 1) = true) (he : L.set i (.int v) = L') (kk : zz_Go sh d cc own nL ret post (pc + 3) st L' h) : zz_Go sh d cc own nL ret post pc st L h := by
  intro p l e R s m args below meth c H locs D cI cR ad A ls X hP hD hS hL
  obtain ⟨hx, hb, hr, hml, hown, hlk, hts, hfr, hlo, hA, hK, hN, hO⟩ := id X
  have hm := zz_pl_mem (ad := ad) L 0 i (.int x) hl (fun q => by cases q)
  rw [Nat.zero_add] at hm
  obtain ⟨j, hj⟩ := List.getElem?_of_mem hm
  exact lv_iinc hx hb hd hL (k := j) hj hv hn rfl (fun ls' hL' => kk p l e R s m args below meth c H locs D cI cR ad A ls' X hP hD hS (he ▸ zz_lset (v := .int v) hc hL'))
theorem zr_iadd {x y : Int32} (hd : decode cc pc = .ok (.iadd, 1)) (k : zz_Go sh d cc own nL ret post (pc + 1) (.int (x + y) :: st) L h) : zz_Go sh d cc own nL ret post pc (.int y :: .int x :: st) L h := by
  intro p l e R s m args below meth c H locs D cI cR ad A ls X hP hD hS hL
  obtain ⟨hx, hb, hr, hml, hown, hlk, hts, hfr, hlo, hA, hK, hN, hO⟩ := id X
  exact lv_iadd hx hb hd (k p l e R s m args below meth c H locs D cI cR ad A ls X hP hD hS hL)
theorem zr_isub {x y : Int32} (hd : decode cc pc = .ok (.isub, 1)) (k : zz_Go sh d cc own nL ret post (pc + 1) (.int (x - y) :: st) L h) : zz_Go sh d cc own nL ret post pc (.int y :: .int x :: st) L h := by
  intro p l e R s m args below meth c H locs D cI cR ad A ls X hP hD hS hL
  obtain ⟨hx, hb, hr, hml, hown, hlk, hts, hfr, hlo, hA, hK, hN, hO⟩ := id X
  exact lv_isub hx hb hd (k p l e R s m args below meth c H locs D cI cR ad A ls X hP hD hS hL)
theorem zr_imul {x y : Int32} (hd : decode cc pc = .ok (.imul, 1)) (k : zz_Go sh d cc own nL ret post (pc + 1) (.int (x * y) :: st) L h) : zz_Go sh d cc own nL ret post pc (.int y :: .int x :: st) L h := by
  intro p l e R s m args below meth c H locs D cI cR ad A ls X hP hD hS hL
  obtain ⟨hx, hb, hr, hml, hown, hlk, hts, hfr, hlo, hA, hK, hN, hO⟩ := id X
  exact lv_imul hx hb hd (k p l e R s m args below meth c H locs D cI cR ad A ls X hP hD hS hL)
theorem zr_iand {x y : Int32} (hd : decode cc pc = .ok (.iand, 1)) (k : zz_Go sh d cc own nL ret post (pc + 1) (.int (x &&& y) :: st) L h) : zz_Go sh d cc own nL ret post pc (.int y :: .int x :: st) L h := by
  intro p l e R s m args below meth c H locs D cI cR ad A ls X hP hD hS hL
  obtain ⟨hx, hb, hr, hml, hown, hlk, hts, hfr, hlo, hA, hK, hN, hO⟩ := id X
  exact lv_iand hx hb hd (k p l e R s m args below meth c H locs D cI cR ad A ls X hP hD hS hL)
theorem zr_ior {x y : Int32} (hd : decode cc pc = .ok (.ior, 1)) (k : zz_Go sh d cc own nL ret post (pc + 1) (.int (x ||| y) :: st) L h) : zz_Go sh d cc own nL ret post pc (.int y :: .int x :: st) L h := by
  intro p l e R s m args below meth c H locs D cI cR ad A ls X hP hD hS hL
  obtain ⟨hx, hb, hr, hml, hown, hlk, hts, hfr, hlo, hA, hK, hN, hO⟩ := id X
  exact lv_ior hx hb hd (k p l e R s m args below meth c H locs D cI cR ad A ls X hP hD hS hL)
theorem zr_ixor {x y : Int32} (hd : decode cc pc = .ok (.ixor, 1)) (k : zz_Go sh d cc own nL ret post (pc + 1) (.int (x ^^^ y) :: st) L h) : zz_Go sh d cc own nL ret post pc (.int y :: .int x :: st) L h := by
  intro p l e R s m args below meth c H locs D cI cR ad A ls X hP hD hS hL
  obtain ⟨hx, hb, hr, hml, hown, hlk, hts, hfr, hlo, hA, hK, hN, hO⟩ := id X
  exact lv_ixor hx hb hd (k p l e R s m args below meth c H locs D cI cR ad A ls X hP hD hS hL)
theorem zr_ishl {x y : Int32} (hd : decode cc pc = .ok (.ishl, 1)) (k : zz_Go sh d cc own nL ret post (pc + 1) (.int (x <<< (y &&& 31)) :: st) L h) : zz_Go sh d cc own nL ret post pc (.int y :: .int x :: st) L h := by
  intro p l e R s m args below meth c H locs D cI cR ad A ls X hP hD hS hL
  obtain ⟨hx, hb, hr, hml, hown, hlk, hts, hfr, hlo, hA, hK, hN, hO⟩ := id X
  exact lv_ishl hx hb hd (k p l e R s m args below meth c H locs D cI cR ad A ls X hP hD hS hL)
theorem zr_ishr {x y : Int32} (hd : decode cc pc = .ok (.ishr, 1)) (k : zz_Go sh d cc own nL ret post (pc + 1) (.int (x >>> (y &&& 31)) :: st) L h) : zz_Go sh d cc own nL ret post pc (.int y :: .int x :: st) L h := by
  intro p l e R s m args below meth c H locs D cI cR ad A ls X hP hD hS hL
  obtain ⟨hx, hb, hr, hml, hown, hlk, hts, hfr, hlo, hA, hK, hN, hO⟩ := id X
  exact lv_ishr hx hb hd (k p l e R s m args below meth c H locs D cI cR ad A ls X hP hD hS hL)
theorem zr_iushr {x y : Int32} (hd : decode cc pc = .ok (.iushr, 1)) (k : zz_Go sh d cc own nL ret post (pc + 1) (.int (zz_ushr x y) :: st) L h) : zz_Go sh d cc own nL ret post pc (.int y :: .int x :: st) L h := by
  intro p l e R s m args below meth c H locs D cI cR ad A ls X hP hD hS hL
  obtain ⟨hx, hb, hr, hml, hown, hlk, hts, hfr, hlo, hA, hK, hN, hO⟩ := id X
  exact lv_iushr hx hb hd rfl (k p l e R s m args below meth c H locs D cI cR ad A ls X hP hD hS hL)
theorem zr_idiv {x y : Int32} (hd : decode cc pc = .ok (.idiv, 1)) (hy : ¬ y = 0) (k : zz_Go sh d cc own nL ret post (pc + 1) (.int (x / y) :: st) L h) : zz_Go sh d cc own nL ret post pc (.int y :: .int x :: st) L h := by
  intro p l e R s m args below meth c H locs D cI cR ad A ls X hP hD hS hL
  obtain ⟨hx, hb, hr, hml, hown, hlk, hts, hfr, hlo, hA, hK, hN, hO⟩ := id X
  exact lv_idiv hx hb hd hy (k p l e R s m args below meth c H locs D cI cR ad A ls X hP hD hS hL)
theorem zr_irem {x y : Int32} (hd : decode cc pc = .ok (.irem, 1)) (hy : ¬ y = 0) (k : zz_Go sh d cc own nL ret post (pc + 1) (.int (zz_rem x y) :: st) L h) : zz_Go sh d cc own nL ret post pc (.int y :: .int x :: st) L h := by
  intro p l e R s m args below meth c H locs D cI cR ad A ls X hP hD hS hL
  obtain ⟨hx, hb, hr, hml, hown, hlk, hts, hfr, hlo, hA, hK, hN, hO⟩ := id X
  exact lv_irem hx hb hd hy (k p l e R s m args below meth c H locs D cI cR ad A ls X hP hD hS hL)
theorem zr_ineg {x : Int32} (hd : decode cc pc = .ok (.ineg, 1)) (k : zz_Go sh d cc own nL ret post (pc + 1) (.int (-x) :: st) L h) : zz_Go sh d cc own nL ret post pc (.int x :: st) L h := by
  intro p l e R s m args below meth c H locs D cI cR ad A ls X hP hD hS hL
  obtain ⟨hx, hb, hr, hml, hown, hlk, hts, hfr, hlo, hA, hK, hN, hO⟩ := id X
  exact lv_ineg hx hb hd (k p l e R s m args below meth c H locs D cI cR ad A ls X hP hD hS hL)
theorem zr_i2l {x : Int32} (hd : decode cc pc = .ok (.i2l, 1)) (k : zz_Go sh d cc own nL ret post (pc + 1) (.long x.toInt64 :: st) L h) : zz_Go sh d cc own nL ret post pc (.int x :: st) L h := by
  intro p l e R s m args below meth c H locs D cI cR ad A ls X hP hD hS hL
  obtain ⟨hx, hb, hr, hml, hown, hlk, hts, hfr, hlo, hA, hK, hN, hO⟩ := id X
  exact lv_i2l hx hb hd rfl (k p l e R s m args below meth c H locs D cI cR ad A ls X hP hD hS hL)
theorem zr_i2b {x : Int32} (hd : decode cc pc = .ok (.i2b, 1)) (k : zz_Go sh d cc own nL ret post (pc + 1) (.int (x.toInt8.toInt32) :: st) L h) : zz_Go sh d cc own nL ret post pc (.int x :: st) L h := by
  intro p l e R s m args below meth c H locs D cI cR ad A ls X hP hD hS hL
  obtain ⟨hx, hb, hr, hml, hown, hlk, hts, hfr, hlo, hA, hK, hN, hO⟩ := id X
  exact lv_i2b hx hb hd rfl (k p l e R s m args below meth c H locs D cI cR ad A ls X hP hD hS hL)
theorem zr_i2s {x : Int32} (hd : decode cc pc = .ok (.i2s, 1)) (k : zz_Go sh d cc own nL ret post (pc + 1) (.int (x.toInt16.toInt32) :: st) L h) : zz_Go sh d cc own nL ret post pc (.int x :: st) L h := by
  intro p l e R s m args below meth c H locs D cI cR ad A ls X hP hD hS hL
  obtain ⟨hx, hb, hr, hml, hown, hlk, hts, hfr, hlo, hA, hK, hN, hO⟩ := id X
  exact lv_i2s hx hb hd rfl (k p l e R s m args below meth c H locs D cI cR ad A ls X hP hD hS hL)
theorem zr_i2c {x : Int32} (hd : decode cc pc = .ok (.i2c, 1)) (k : zz_Go sh d cc own nL ret post (pc + 1) (.int ((x.toUInt32 % 65536).toInt32) :: st) L h) : zz_Go sh d cc own nL ret post pc (.int x :: st) L h := by
  intro p l e R s m args below meth c H locs D cI cR ad A ls X hP hD hS hL
  obtain ⟨hx, hb, hr, hml, hown, hlk, hts, hfr, hlo, hA, hK, hN, hO⟩ := id X
  exact lv_i2c hx hb hd rfl (k p l e R s m args below meth c H locs D cI cR ad A ls X hP hD hS hL)
theorem zr_lcmp {x y : Int64} (hd : decode cc pc = .ok (.lcmp, 1)) (k : zz_Go sh d cc own nL ret post (pc + 1) (.int (lg_cmp x y) :: st) L h) : zz_Go sh d cc own nL ret post pc (.long y :: .long x :: st) L h := by
  intro p l e R s m args below meth c H locs D cI cR ad A ls X hP hD hS hL
  obtain ⟨hx, hb, hr, hml, hown, hlk, hts, hfr, hlo, hA, hK, hN, hO⟩ := id X
  exact W.lcmp hx hb hd (k p l e R s m args below meth c H locs D cI cR ad A ls X hP hD hS hL)
theorem zr_dup {v : Value} (hd : decode cc pc = .ok (.dup, 1)) (hv : v.category = 1) (k : zz_Go sh d cc own nL ret post (pc + 1) (v :: v :: st) L h) : zz_Go sh d cc own nL ret post pc (v :: st) L h := by
  intro p l e R s m args below meth c H locs D cI cR ad A ls X hP hD hS hL
  obtain ⟨hx, hb, hr, hml, hown, hlk, hts, hfr, hlo, hA, hK, hN, hO⟩ := id X
  exact lv_dup hx hb hd (by rw [zz_v_cat]; exact hv) (k p l e R s m args below meth c H locs D cI cR ad A ls X hP hD hS hL)
theorem zr_pop {v : Value} (hd : decode cc pc = .ok (.pop, 1)) (hv : v.category = 1) (k : zz_Go sh d cc own nL ret post (pc + 1) st L h) : zz_Go sh d cc own nL ret post pc (v :: st) L h := by
  intro p l e R s m args below meth c H locs D cI cR ad A ls X hP hD hS hL
  obtain ⟨hx, hb, hr, hml, hown, hlk, hts, hfr, hlo, hA, hK, hN, hO⟩ := id X
  exact lv_pop hx hb hd (by rw [zz_v_cat]; exact hv) (k p l e R s m args below meth c H locs D cI cR ad A ls X hP hD hS hL)
theorem zr_dup_x1 {v w : Value} (hd : decode cc pc = .ok (.dup_x1, 1)) (hv : v.category = 1) (hw : w.category = 1) (k : zz_Go sh d cc own nL ret post (pc + 1) (v :: w :: v :: st) L h) : zz_Go sh d cc own nL ret post pc (v :: w :: st) L h := by
  intro p l e R s m args below meth c H locs D cI cR ad A ls X hP hD hS hL
  obtain ⟨hx, hb, hr, hml, hown, hlk, hts, hfr, hlo, hA, hK, hN, hO⟩ := id X
  exact lv_dup_x1 hx hb hd (by rw [zz_v_cat]; exact hv) (by rw [zz_v_cat]; exact hw) (k p l e R s m args below meth c H locs D cI cR ad A ls X hP hD hS hL)
theorem zr_dup_x2 {v w u : Value} (hd : decode cc pc = .ok (.dup_x2, 1)) (hv : v.category = 1) (hw : w.category = 1) (hu : u.category = 1) (k : zz_Go sh d cc own nL ret post (pc + 1) (v :: w :: u :: v :: st) L h) : zz_Go sh d cc own nL ret post pc (v :: w :: u :: st) L h := by
  intro p l e R s m args below meth c H locs D cI cR ad A ls X hP hD hS hL
  obtain ⟨hx, hb, hr, hml, hown, hlk, hts, hfr, hlo, hA, hK, hN, hO⟩ := id X
  exact lv_dup_x2 hx hb hd (by rw [zz_v_cat]; exact hv) (by rw [zz_v_cat]; exact hw) (by rw [zz_v_cat]; exact hu) (k p l e R s m args below meth c H locs D cI cR ad A ls X hP hD hS hL)
theorem zr_dup2 {v w : Value} (hd : decode cc pc = .ok (.dup2, 1)) (hv : v.category = 1) (hw : w.category = 1) (k : zz_Go sh d cc own nL ret post (pc + 1) (v :: w :: v :: w :: st) L h) : zz_Go sh d cc own nL ret post pc (v :: w :: st) L h := by
  intro p l e R s m args below meth c H locs D cI cR ad A ls X hP hD hS hL
  obtain ⟨hx, hb, hr, hml, hown, hlk, hts, hfr, hlo, hA, hK, hN, hO⟩ := id X
  exact lv_dup2_11 hx hb hd (by rw [zz_v_cat]; exact hv) (by rw [zz_v_cat]; exact hw) (k p l e R s m args below meth c H locs D cI cR ad A ls X hP hD hS hL)
theorem zr_if_eq {x : Int32} {off : Int} (tgt : Nat) (hd : decode cc pc = .ok (.ifCond .eq off, 3)) (ht : (pc : Int) + off = (tgt : Int)) (kt : x = 0 → zz_Go sh d cc own nL ret post tgt st L h) (kf : ¬ x = 0 → zz_Go sh d cc own nL ret post (pc + 3) st L h) : zz_Go sh d cc own nL ret post pc (.int x :: st) L h := by
  intro p l e R s m args below meth c H locs D cI cR ad A ls X hP hD hS hL
  obtain ⟨hx, hb, hr, hml, hown, hlk, hts, hfr, hlo, hA, hK, hN, hO⟩ := id X
  exact lv_if_eq hx hb hd ht (fun q => kt q p l e R s m args below meth c H locs D cI cR ad A ls X hP hD hS hL) (fun q => kf q p l e R s m args below meth c H locs D cI cR ad A ls X hP hD hS hL)
theorem zr_icmp_eq {x y : Int32} {off : Int} (tgt : Nat) (hd : decode cc pc = .ok (.if_icmp .eq off, 3)) (ht : (pc : Int) + off = (tgt : Int)) (kt : x = y → zz_Go sh d cc own nL ret post tgt st L h) (kf : ¬ x = y → zz_Go sh d cc own nL ret post (pc + 3) st L h) : zz_Go sh d cc own nL ret post pc (.int y :: .int x :: st) L h := by
  intro p l e R s m args below meth c H locs D cI cR ad A ls X hP hD hS hL
  obtain ⟨hx, hb, hr, hml, hown, hlk, hts, hfr, hlo, hA, hK, hN, hO⟩ := id X
  exact lv_icmp_eq hx hb hd ht (fun q => kt q p l e R s m args below meth c H locs D cI cR ad A ls X hP hD hS hL) (fun q => kf q p l e R s m args below meth c H locs D cI cR ad A ls X hP hD hS hL)
theorem zr_if_ne {x : Int32} {off : Int} (tgt : Nat) (hd : decode cc pc = .ok (.ifCond .ne off, 3)) (ht : (pc : Int) + off = (tgt : Int)) (kt : ¬ x = 0 → zz_Go sh d cc own nL ret post tgt st L h) (kf : x = 0 → zz_Go sh d cc own nL ret post (pc + 3) st L h) : zz_Go sh d cc own nL ret post pc (.int x :: st) L h := by
  intro p l e R s m args below meth c H locs D cI cR ad A ls X hP hD hS hL
  obtain ⟨hx, hb, hr, hml, hown, hlk, hts, hfr, hlo, hA, hK, hN, hO⟩ := id X
  exact lv_if_ne hx hb hd ht (fun q => kt q p l e R s m args below meth c H locs D cI cR ad A ls X hP hD hS hL) (fun q => kf q p l e R s m args below meth c H locs D cI cR ad A ls X hP hD hS hL)
theorem zr_icmp_ne {x y : Int32} {off : Int} (tgt : Nat) (hd : decode cc pc = .ok (.if_icmp .ne off, 3)) (ht : (pc : Int) + off = (tgt : Int)) (kt : ¬ x = y → zz_Go sh d cc own nL ret post tgt st L h) (kf : x = y → zz_Go sh d cc own nL ret post (pc + 3) st L h) : zz_Go sh d cc own nL ret post pc (.int y :: .int x :: st) L h := by
  intro p l e R s m args below meth c H locs D cI cR ad A ls X hP hD hS hL
  obtain ⟨hx, hb, hr, hml, hown, hlk, hts, hfr, hlo, hA, hK, hN, hO⟩ := id X
  exact lv_icmp_ne hx hb hd ht (fun q => kt q p l e R s m args below meth c H locs D cI cR ad A ls X hP hD hS hL) (fun q => kf q p l e R s m args below meth c H locs D cI cR ad A ls X hP hD hS hL)
theorem zr_if_lt {x : Int32} {off : Int} (tgt : Nat) (hd : decode cc pc = .ok (.ifCond .lt off, 3)) (ht : (pc : Int) + off = (tgt : Int)) (kt : x < 0 → zz_Go sh d cc own nL ret post tgt st L h) (kf : ¬ x < 0 → zz_Go sh d cc own nL ret post (pc + 3) st L h) : zz_Go sh d cc own nL ret post pc (.int x :: st) L h := by
  intro p l e R s m args below meth c H locs D cI cR ad A ls X hP hD hS hL
  obtain ⟨hx, hb, hr, hml, hown, hlk, hts, hfr, hlo, hA, hK, hN, hO⟩ := id X
  exact lv_if_lt hx hb hd ht (fun q => kt q p l e R s m args below meth c H locs D cI cR ad A ls X hP hD hS hL) (fun q => kf q p l e R s m args below meth c H locs D cI cR ad A ls X hP hD hS hL)
theorem zr_icmp_lt {x y : Int32} {off : Int} (tgt : Nat) (hd : decode cc pc = .ok (.if_icmp .lt off, 3)) (ht : (pc : Int) + off = (tgt : Int)) (kt : x < y → zz_Go sh d cc own nL ret post tgt st L h) (kf : ¬ x < y → zz_Go sh d cc own nL ret post (pc + 3) st L h) : zz_Go sh d cc own nL ret post pc (.int y :: .int x :: st) L h := by
  intro p l e R s m args below meth c H locs D cI cR ad A ls X hP hD hS hL
  obtain ⟨hx, hb, hr, hml, hown, hlk, hts, hfr, hlo, hA, hK, hN, hO⟩ := id X
  exact lv_icmp_lt hx hb hd ht (fun q => kt q p l e R s m args below meth c H locs D cI cR ad A ls X hP hD hS hL) (fun q => kf q p l e R s m args below meth c H locs D cI cR ad A ls X hP hD hS hL)
theorem zr_if_ge {x : Int32} {off : Int} (tgt : Nat) (hd : decode cc pc = .ok (.ifCond .ge off, 3)) (ht : (pc : Int) + off = (tgt : Int)) (kt : 0 ≤ x → zz_Go sh d cc own nL ret post tgt st L h) (kf : ¬ 0 ≤ x → zz_Go sh d cc own nL ret post (pc + 3) st L h) : zz_Go sh d cc own nL ret post pc (.int x :: st) L h := by
  intro p l e R s m args below meth c H locs D cI cR ad A ls X hP hD hS hL
  obtain ⟨hx, hb, hr, hml, hown, hlk, hts, hfr, hlo, hA, hK, hN, hO⟩ := id X
  exact lv_if_ge hx hb hd ht (fun q => kt q p l e R s m args below meth c H locs D cI cR ad A ls X hP hD hS hL) (fun q => kf q p l e R s m args below meth c H locs D cI cR ad A ls X hP hD hS hL)
theorem zr_icmp_ge {x y : Int32} {off : Int} (tgt : Nat) (hd : decode cc pc = .ok (.if_icmp .ge off, 3)) (ht : (pc : Int) + off = (tgt : Int)) (kt : y ≤ x → zz_Go sh d cc own nL ret post tgt st L h) (kf : ¬ y ≤ x → zz_Go sh d cc own nL ret post (pc + 3) st L h) : zz_Go sh d cc own nL ret post pc (.int y :: .int x :: st) L h := by
  intro p l e R s m args below meth c H locs D cI cR ad A ls X hP hD hS hL
  obtain ⟨hx, hb, hr, hml, hown, hlk, hts, hfr, hlo, hA, hK, hN, hO⟩ := id X
  exact lv_icmp_ge hx hb hd ht (fun q => kt q p l e R s m args below meth c H locs D cI cR ad A ls X hP hD hS hL) (fun q => kf q p l e R s m args below meth c H locs D cI cR ad A ls X hP hD hS hL)
theorem zr_if_gt {x : Int32} {off : Int} (tgt : Nat) (hd : decode cc pc = .ok (.ifCond .gt off, 3)) (ht : (pc : Int) + off = (tgt : Int)) (kt : 0 < x → zz_Go sh d cc own nL ret post tgt st L h) (kf : ¬ 0 < x → zz_Go sh d cc own nL ret post (pc + 3) st L h) : zz_Go sh d cc own nL ret post pc (.int x :: st) L h := by
  intro p l e R s m args below meth c H locs D cI cR ad A ls X hP hD hS hL
  obtain ⟨hx, hb, hr, hml, hown, hlk, hts, hfr, hlo, hA, hK, hN, hO⟩ := id X
  exact lv_if_gt hx hb hd ht (fun q => kt q p l e R s m args below meth c H locs D cI cR ad A ls X hP hD hS hL) (fun q => kf q p l e R s m args below meth c H locs D cI cR ad A ls X hP hD hS hL)
theorem zr_icmp_gt {x y : Int32} {off : Int} (tgt : Nat) (hd : decode cc pc = .ok (.if_icmp .gt off, 3)) (ht : (pc : Int) + off = (tgt : Int)) (kt : y < x → zz_Go sh d cc own nL ret post tgt st L h) (kf : ¬ y < x → zz_Go sh d cc own nL ret post (pc + 3) st L h) : zz_Go sh d cc own nL ret post pc (.int y :: .int x :: st) L h := by
  intro p l e R s m args below meth c H locs D cI cR ad A ls X hP hD hS hL
  obtain ⟨hx, hb, hr, hml, hown, hlk, hts, hfr, hlo, hA, hK, hN, hO⟩ := id X
  exact lv_icmp_gt hx hb hd ht (fun q => kt q p l e R s m args below meth c H locs D cI cR ad A ls X hP hD hS hL) (fun q => kf q p l e R s m args below meth c H locs D cI cR ad A ls X hP hD hS hL)
theorem zr_if_le {x : Int32} {off : Int} (tgt : Nat) (hd : decode cc pc = .ok (.ifCond .le off, 3)) (ht : (pc : Int) + off = (tgt : Int)) (kt : x ≤ 0 → zz_Go sh d cc own nL ret post tgt st L h) (kf : ¬ x ≤ 0 → zz_Go sh d cc own nL ret post (pc + 3) st L h) : zz_Go sh d cc own nL ret post pc (.int x :: st) L h := by
  intro p l e R s m args below meth c H locs D cI cR ad A ls X hP hD hS hL
  obtain ⟨hx, hb, hr, hml, hown, hlk, hts, hfr, hlo, hA, hK, hN, hO⟩ := id X
  exact lv_if_le hx hb hd ht (fun q => kt q p l e R s m args below meth c H locs D cI cR ad A ls X hP hD hS hL) (fun q => kf q p l e R s m args below meth c H locs D cI cR ad A ls X hP hD hS hL)
theorem zr_icmp_le {x y : Int32} {off : Int} (tgt : Nat) (hd : decode cc pc = .ok (.if_icmp .le off, 3)) (ht : (pc : Int) + off = (tgt : Int)) (kt : x ≤ y → zz_Go sh d cc own nL ret post tgt st L h) (kf : ¬ x ≤ y → zz_Go sh d cc own nL ret post (pc + 3) st L h) : zz_Go sh d cc own nL ret post pc (.int y :: .int x :: st) L h := by
  intro p l e R s m args below meth c H locs D cI cR ad A ls X hP hD hS hL
  obtain ⟨hx, hb, hr, hml, hown, hlk, hts, hfr, hlo, hA, hK, hN, hO⟩ := id X
  exact lv_icmp_le hx hb hd ht (fun q => kt q p l e R s m args below meth c H locs D cI cR ad A ls X hP hD hS hL) (fun q => kf q p l e R s m args below meth c H locs D cI cR ad A ls X hP hD hS hL)
theorem zr_goto {off : Int} (tgt : Nat) (hd : decode cc pc = .ok (.goto off, 3)) (ht : (pc : Int) + off = (tgt : Int)) (k : zz_Go sh d cc own nL ret post tgt st L h) : zz_Go sh d cc own nL ret post pc st L h := by
  intro p l e R s m args below meth c H locs D cI cR ad A ls X hP hD hS hL
  obtain ⟨hx, hb, hr, hml, hown, hlk, hts, hfr, hlo, hA, hK, hN, hO⟩ := id X
  exact lv_goto hx hb hd ht (k p l e R s m args below meth c H locs D cI cR ad A ls X hP hD hS hL)
theorem zr_tabOut {dflt lo hi : Int} {offs : Array Int} {len : Nat} {x : Int32} (tgt : Nat) (hd : decode cc pc = .ok (.tableswitch dflt lo hi offs, len)) (hq : x.toInt < lo ∨ hi < x.toInt) (ht : (pc : Int) + dflt = (tgt : Int)) (k : zz_Go sh d cc own nL ret post tgt st L h) : zz_Go sh d cc own nL ret post pc (.int x :: st) L h := by
  intro p l e R s m args below meth c H locs D cI cR ad A ls X hP hD hS hL
  obtain ⟨hx, hb, hr, hml, hown, hlk, hts, hfr, hlo, hA, hK, hN, hO⟩ := id X
  exact lv_tableOut hx hb hd hq ht (k p l e R s m args below meth c H locs D cI cR ad A ls X hP hD hS hL)
theorem zr_tabIn {dflt lo hi off : Int} {offs : Array Int} {len : Nat} {x : Int32} (tgt : Nat) (hd : decode cc pc = .ok (.tableswitch dflt lo hi offs, len)) (h1 : ¬ x.toInt < lo) (h2 : ¬ hi < x.toInt) (ho : offs[(x.toInt - lo).toNat]? = some off) (ht : (pc : Int) + off = (tgt : Int)) (k : zz_Go sh d cc own nL ret post tgt st L h) : zz_Go sh d cc own nL ret post pc (.int x :: st) L h := by
  intro p l e R s m args below meth c H locs D cI cR ad A ls X hP hD hS hL
  obtain ⟨hx, hb, hr, hml, hown, hlk, hts, hfr, hlo, hA, hK, hN, hO⟩ := id X
  exact lv_tableIn hx hb hd h1 h2 ho ht (k p l e R s m args below meth c H locs D cI cR ad A ls X hP hD hS hL)
theorem zr_ret {ty : FieldType} {v : Int32} (hret : ret = some ty) (hn : narrow ty (.int v) = .int v) (hd : decode cc pc = .ok (.ireturn, 1)) (hp : post v h) : zz_Go sh d cc own nL ret post pc [.int v] L h := by
  intro p l e R s m args below meth c H locs D cI cR ad A ls X hP hD hS hL
  obtain ⟨hx, hb, hr, hml, hown, hlk, hts, hfr, hlo, hA, hK, hN, hO⟩ := id X
  subst hret
  exact W.zret (ty := ty) (v := v) hx hb hr hn (fun t ht hW => ⟨⟨v, h, rfl, hp, by rw [zz_B, ht]; exact ⟨hP, hD⟩⟩, hS.F ht⟩) hS.2.2 hd hlk
theorem zr_vret (hret : ret = none) (hd : decode cc pc = .ok (.return_, 1)) (hp : post 0 h) : zz_Go sh d cc own nL ret post pc [] L h := by
  intro p l e R s m args below meth c H locs D cI cR ad A ls X hP hD hS hL
  obtain ⟨hx, hb, hr, hml, hown, hlk, hts, hfr, hlo, hA, hK, hN, hO⟩ := id X
  subst hret
  exact W.vret hx hb hr (fun t ht hW => ⟨⟨h, rfl, hp, by rw [zz_B, ht]; exact ⟨hP, hD⟩⟩, hS.F ht⟩) hS.2.2 hd hlk
theorem zr_getI {ci N : Nat} {C : String} {T : u_T} {ty : Nat → FieldType} (hc : zz_cls ci C T N ty) {k : Nat} {fs : List (Option Nat)} (hsh : sh[k]? = some (.inr (.inr (ci, fs)))) (j : Nat) (hj : j < N) (hf : fs[j]? = some none) {i : Nat} (hw : Cond.fieldLink own i (T j).1 (T j).2.1 (T j).2.2.1 ∈ zz_TB) (hd : decode cc pc = .ok (.getfield i, 3)) (kk : zz_Go sh d cc own nL ret post (pc + 3) (.int (h k j) :: st) L h) : zz_Go sh d cc own nL ret post pc (.ref k :: st) L h := by
  intro p l e R s m args below meth c H locs D cI cR ad A ls X hP hD hS hL
  obtain ⟨hx, hb, hr, hml, hown, hlk, hts, hfr, hlo, hA, hK, hN, hO⟩ := id X
  exact va_get (D := D) (ci := ci) (v := .int (h k j)) (C := C) (T := T) (N := N) hx hb hts hc.2.1 hown hK hP k (zz_ws_at hsh) hc.1 j hj (hts _ hw) (fun _ h9 => h9) (by rw [List.getElem?_mapIdx, hf]; rfl) hd (kk p l e R s m args below meth c H locs D cI cR ad A ls X hP hD hS hL)
theorem zr_getR {ci N : Nat} {C : String} {T : u_T} {ty : Nat → FieldType} (hc : zz_cls ci C T N ty) {k : Nat} {fs : List (Option Nat)} (hsh : sh[k]? = some (.inr (.inr (ci, fs)))) (j : Nat) (hj : j < N) {k' : Nat} (hf : fs[j]? = some (some k')) {i : Nat} (hw : Cond.fieldLink own i (T j).1 (T j).2.1 (T j).2.2.1 ∈ zz_TB) (hd : decode cc pc = .ok (.getfield i, 3)) (kk : zz_Go sh d cc own nL ret post (pc + 3) (.ref k' :: st) L h) : zz_Go sh d cc own nL ret post pc (.ref k :: st) L h := by
  intro p l e R s m args below meth c H locs D cI cR ad A ls X hP hD hS hL
  obtain ⟨hx, hb, hr, hml, hown, hlk, hts, hfr, hlo, hA, hK, hN, hO⟩ := id X
  exact va_get (D := D) (ci := ci) (v := .ref (ad k')) (C := C) (T := T) (N := N) hx hb hts hc.2.1 hown hK hP k (zz_ws_at hsh) hc.1 j hj (hts _ hw) (fun _ h9 => h9) (by rw [List.getElem?_mapIdx, hf]; rfl) hd (kk p l e R s m args below meth c H locs D cI cR ad A ls X hP hD hS hL)
theorem zr_putI {ci N : Nat} {C : String} {T : u_T} {ty : Nat → FieldType} (hc : zz_cls ci C T N ty) {k : Nat} {fs : List (Option Nat)} (hsh : sh[k]? = some (.inr (.inr (ci, fs)))) (j : Nat) (hj : j < N) (hf : fs[j]? = some none) (hfin : (T j).2.2.2 = false) {t : FieldType} {x : Int32} (hty : ty j = t) (hn : narrow t (.int x) = .int x) (hfit : fits t (.int x) = true) {i : Nat} (hw : Cond.fieldLink own i (T j).1 (T j).2.1 (T j).2.2.1 ∈ zz_TB) (hd : decode cc pc = .ok (.putfield i, 3)) {P : zz_H → Prop} (hw0 : zz_sto h k (upd (h k) j x) P) (kk : ∀ h' : zz_H, P h' → zz_Go sh d cc own nL ret post (pc + 3) st L h') : zz_Go sh d cc own nL ret post pc (.int x :: .ref k :: st) L h := by
  intro p l e R s m args below meth c H locs D cI cR ad A ls X hP hD hS hL
  obtain ⟨hx, hb, hr, hml, hown, hlk, hts, hfr, hlo, hA, hK, hN, hO⟩ := id X
  refine va_put (D := D) (ci := ci) (v := .int x) (ty := t) (C := C) (T := T) (N := N) hx hb hts hc.2.1 ty hc.2.2.1 hc.2.2.2 hown hK hP hD hS k (zz_ws_at hsh) hc.1 j hj (hts _ hw) (fun _ h9 => h9) hfin (by rw [hc.2.2.1 j hj, hty]) hn hfit (by rw [List.length_mapIdx]; exact (List.getElem?_eq_some_iff.mp hf).1) hd (fun H1 locs1 hP1 hD1 hS1 => ?_)
  rw [zz_ws_obj x hsh hf] at hP1 hD1
  exact kk _ hw0 p l e R s m args below meth c H1 locs1 D cI cR ad A ls X hP1 hD1 hS1 hL
theorem zr_iald {k n : Nat} (hsh : sh[k]? = some (.inl n)) {i : Int32} (hi : vp_in i n) {j : Nat} (hj : i.toNatClampNeg = j) (hd : decode cc pc = .ok (.iaload, 1)) (kk : zz_Go sh d cc own nL ret post (pc + 1) (.int (h k j) :: st) L h) : zz_Go sh d cc own nL ret post pc (.int i :: .ref k :: st) L h := by
  intro p l e R s m args below meth c H locs D cI cR ad A ls X hP hD hS hL
  obtain ⟨hx, hb, hr, hml, hown, hlk, hts, hfr, hlo, hA, hK, hN, hO⟩ := id X
  subst hj
  exact va_iald hx hb hK hP k 0 (zz_ws_at hsh) rfl hi hd (kk p l e R s m args below meth c H locs D cI cR ad A ls X hP hD hS hL)
theorem zr_iast {k n : Nat} (hsh : sh[k]? = some (.inl n)) {i x : Int32} (hi : vp_in i n) {j : Nat} (hj : i.toNatClampNeg = j) (hd : decode cc pc = .ok (.iastore, 1)) {P : zz_H → Prop} (hw0 : zz_sto h k (upd (h k) j x) P) (kk : ∀ h' : zz_H, P h' → zz_Go sh d cc own nL ret post (pc + 1) st L h') : zz_Go sh d cc own nL ret post pc (.int x :: .int i :: .ref k :: st) L h := by
  intro p l e R s m args below meth c H locs D cI cR ad A ls X hP hD hS hL
  obtain ⟨hx, hb, hr, hml, hown, hlk, hts, hfr, hlo, hA, hK, hN, hO⟩ := id X
  subst hj
  refine va_iast hx hb hK hP hD hS k 0 (zz_ws_at hsh) rfl hi hd (fun H1 locs1 hP1 hD1 hS1 => ?_)
  rw [zz_ws_arr _ hsh] at hP1 hD1
  exact kk _ hw0 p l e R s m args below meth c H1 locs1 D cI cR ad A ls X hP1 hD1 hS1 hL
theorem zr_aald {k k' : Nat} {q : List Nat} (hsh : sh[k]? = some (.inr (.inl q))) {i : Int32} (hi : vp_in i q.length) (hq : q[i.toNatClampNeg]? = some k') (hd : decode cc pc = .ok (.aaload, 1)) (kk : zz_Go sh d cc own nL ret post (pc + 1) (.ref k' :: st) L h) : zz_Go sh d cc own nL ret post pc (.int i :: .ref k :: st) L h := by
  intro p l e R s m args below meth c H locs D cI cR ad A ls X hP hD hS hL
  obtain ⟨hx, hb, hr, hml, hown, hlk, hts, hfr, hlo, hA, hK, hN, hO⟩ := id X
  refine va_aldq hx hb hK hP k 1 (zz_ws_at hsh) rfl hi hd ?_
  rw [show va_rf ((q[i.toNatClampNeg]?).map ad) = .ref (ad k') by rw [hq]; rfl]
  exact kk p l e R s m args below meth c H locs D cI cR ad A ls X hP hD hS hL
theorem zr_alen {k n : Nat} (hsh : sh[k]? = some (.inl n)) (hd : decode cc pc = .ok (.arraylength, 1)) (kk : zz_Go sh d cc own nL ret post (pc + 1) (.int (nI n) :: st) L h) : zz_Go sh d cc own nL ret post pc (.ref k :: st) L h := by
  intro p l e R s m args below meth c H locs D cI cR ad A ls X hP hD hS hL
  obtain ⟨hx, hb, hr, hml, hown, hlk, hts, hfr, hlo, hA, hK, hN, hO⟩ := id X
  exact va_alen hx hb hK hP k 0 (zz_ws_at hsh) rfl rfl hd (kk p l e R s m args below meth c H locs D cI cR ad A ls X hP hD hS hL)
theorem zr_over {i : Nat} (hw : Cond.fieldLink own i RX4 "OVER" "[I" ∈ zz_TB) (hd : decode cc pc = .ok (.getstatic i, 3)) (kk : zz_Go sh d cc own nL ret post (pc + 3) (.ref 2000 :: st) L h) : zz_Go sh d cc own nL ret post pc st L h := by
  intro p l e R s m args below meth c H locs D cI cR ad A ls X hP hD hS hL
  obtain ⟨hx, hb, hr, hml, hown, hlk, hts, hfr, hlo, hA, hK, hN, hO⟩ := id X
  exact va_gets hx hb hO.1 hS hown (hts _ hw) (fun _ h9 => h9) hd (kk p l e R s m args below meth c H locs D cI cR ad A ls X hP hD hS hL)
theorem zr_ovld {i : Int32} (hi : vp_in i 7) (hd : decode cc pc = .ok (.iaload, 1)) (kk : zz_Go sh d cc own nL ret post (pc + 1) (.int (zz_over.getD i.toNatClampNeg 0) :: st) L h) : zz_Go sh d cc own nL ret post pc (.int i :: .ref 2000 :: st) L h := by
  intro p l e R s m args below meth c H locs D cI cR ad A ls X hP hD hS hL
  obtain ⟨hx, hb, hr, hml, hown, hlk, hts, hfr, hlo, hA, hK, hN, hO⟩ := id X
  exact va_ti hx hb hO.2.1 hS hi rfl hd (kk p l e R s m args below meth c H locs D cI cR ad A ls X hP hD hS hL)
theorem zr_ldcS (j : Nat) (hj : j < 12) {i : Nat} (hown' : own = RX3) (hi : zz_ent.getD j 0 = i) (hd : decode cc pc = .ok (.ldc i, 2)) (kk : zz_Go sh d cc own nL ret post (pc + 2) (.ref (1000 + j) :: st) L h) : zz_Go sh d cc own nL ret post pc st L h := by
  intro p l e R s m args below meth c H locs D cI cR ad A ls X hP hD hS hL
  obtain ⟨hx, hb, hr, hml, hown, hlk, hts, hfr, hlo, hA, hK, hN, hO⟩ := id X
  subst hown'
  subst hi
  exact va_ldcS hx hb hown (hO.2.2.2.1 j hj) hd (kk p l e R s m args below meth c H locs D cI cR ad A ls X hP hD hS hL)
theorem zr_max {x y : Int32} {i : Nat} (hl : Cond.methodLink own i Lib.Math.max.name ∈ zz_TB) (h1 : Cond.static Lib.Math.max.name ∈ zz_TB) (h2 : Cond.initialized "java/lang/Math" ∈ zz_TB) (h3 : Cond.code Lib.Math.max.name Lib.Math.max.code 2 (some .int) ∈ zz_TB) (hd1 : 1 ≤ d) (hst : (st.map fun v => v.category).sum ≤ 8) (hd : decode cc pc = .ok (.invokestatic i, 3)) (kk : zz_Go sh d cc own nL ret post (pc + 3) (.int (zz_max x y) :: st) L h) : zz_Go sh d cc own nL ret post pc (.int y :: .int x :: st) L h := by
  intro p l e R s m args below meth c H locs D cI cR ad A ls X hP hD hS hL
  obtain ⟨hx, hb, hr, hml, hown, hlk, hts, hfr, hlo, hA, hK, hN, hO⟩ := id X
  exact va_mmax hx hb (by rw [hml, hL.1]) hown (hts _ hl) (hts _ h1) (hts _ h2) (hts _ h3) (Nat.le_trans hd1 hfr) (by rw [zz_catS]; omega) (Nat.zero_le _) (Nat.zero_le _) hd (kk p l e R s m args below meth c H locs D cI cR ad A ls X hP hD hS hL)
theorem zr_min {x y : Int32} {i : Nat} (hl : Cond.methodLink own i Lib.Math.min.name ∈ zz_TB) (h1 : Cond.static Lib.Math.min.name ∈ zz_TB) (h2 : Cond.initialized "java/lang/Math" ∈ zz_TB) (h3 : Cond.code Lib.Math.min.name Lib.Math.min.code 2 (some .int) ∈ zz_TB) (hd1 : 1 ≤ d) (hst : (st.map fun v => v.category).sum ≤ 8) (hd : decode cc pc = .ok (.invokestatic i, 3)) (kk : zz_Go sh d cc own nL ret post (pc + 3) (.int (zz_min x y) :: st) L h) : zz_Go sh d cc own nL ret post pc (.int y :: .int x :: st) L h := by
  intro p l e R s m args below meth c H locs D cI cR ad A ls X hP hD hS hL
  obtain ⟨hx, hb, hr, hml, hown, hlk, hts, hfr, hlo, hA, hK, hN, hO⟩ := id X
  exact va_mmin hx hb (by rw [hml, hL.1]) hown (hts _ hl) (hts _ h1) (hts _ h2) (hts _ h3) (Nat.le_trans hd1 hfr) (by rw [zz_catS]; omega) (Nat.zero_le _) (Nat.zero_le _) hd (kk p l e R s m args below meth c H locs D cI cR ad A ls X hP hD hS hL)
theorem zr_abs {x : Int32} {i : Nat} (hl : Cond.methodLink own i Lib.Math.abs.name ∈ zz_TB) (h1 : Cond.static Lib.Math.abs.name ∈ zz_TB) (h2 : Cond.initialized "java/lang/Math" ∈ zz_TB) (h3 : Cond.code Lib.Math.abs.name Lib.Math.abs.code 1 (some .int) ∈ zz_TB) (hd1 : 1 ≤ d) (hst : (st.map fun v => v.category).sum ≤ 8) (hd : decode cc pc = .ok (.invokestatic i, 3)) (kk : zz_Go sh d cc own nL ret post (pc + 3) (.int (zz_abs x) :: st) L h) : zz_Go sh d cc own nL ret post pc (.int x :: st) L h := by
  intro p l e R s m args below meth c H locs D cI cR ad A ls X hP hD hS hL
  obtain ⟨hx, hb, hr, hml, hown, hlk, hts, hfr, hlo, hA, hK, hN, hO⟩ := id X
  exact va_mabs hx hb (by rw [hml, hL.1]) hown (hts _ hl) (hts _ h1) (hts _ h2) (hts _ h3) (Nat.le_trans hd1 hfr) (by rw [zz_catS]; omega) (Nat.zero_le _) (Nat.zero_le _) hd (kk p l e R s m args below meth c H locs D cI cR ad A ls X hP hD hS hL)
theorem zr_acopy {k k' n n' : Nat} (hk : sh[k]? = some (.inl n)) (hk' : sh[k']? = some (.inl n')) {sp dp m0 : Int32} (q1 : ¬ sp < 0) (q2 : ¬ dp < 0) (q3 : ¬ m0 < 0) (q4 : sp.toNatClampNeg + m0.toNatClampNeg ≤ n) (q5 : dp.toNatClampNeg + m0.toNatClampNeg ≤ n') {i : Nat} (hl : Cond.methodLink own i arraycopyName ∈ zz_TB) (h0 : Cond.native arraycopyName ∈ zz_TB) (h1 : Cond.static arraycopyName ∈ zz_TB) (h2 : Cond.initialized "java/lang/System" ∈ zz_TB) (hd1 : 1 ≤ d) (hst : (st.map fun v => v.category).sum ≤ 8) (hd : decode cc pc = .ok (.invokestatic i, 3)) {P : zz_H → Prop} (hw0 : zz_sto h k' (va_cpy (h k) (h k') sp.toNatClampNeg dp.toNatClampNeg m0.toNatClampNeg) P) (kk : ∀ h' : zz_H, P h' → zz_Go sh d cc own nL ret post (pc + 3) st L h') : zz_Go sh d cc own nL ret post pc (.int m0 :: .int dp :: .ref k' :: .int sp :: .ref k :: st) L h := by
  intro p l e R s m args below meth c H locs D cI cR ad A ls X hP hD hS hL
  obtain ⟨hx, hb, hr, hml, hown, hlk, hts, hfr, hlo, hA, hK, hN, hO⟩ := id X
  refine va_copyi hx hb (by rw [hml, hL.1]) hown (hts _ hl) (hts _ h0) (hts _ h1) (hts _ h2) hK hP hD hS k k' 0 0 (zz_ws_at hk) (zz_ws_at hk') rfl rfl rfl q1 q2 q3 q4 q5 (fun _ _ => rfl) (Nat.le_trans hd1 hfr) (by rw [zz_catS]; show _ + (5 + 2 + 11) ≤ _; omega) hd (fun H1 locs1 hP1 hD1 hS1 => ?_)
  rw [zz_ws_arr _ hk'] at hP1 hD1
  exact kk _ hw0 p l e R s m args below meth c H1 locs1 D cI cR ad A ls X hP1 hD1 hS1 hL
theorem zr_callVi {ty : FieldType} {d' nL' n : Nat} {y : MethodName} {cc' : ByteArray} {P : Int32 → zz_H → Prop} {ci N : Nat} {C : String} {T : u_T} {ty0 : Nat → FieldType} (hc : zz_cls ci C T N ty0) {k : Nat} {fs : List (Option Nat)} (hsh : sh[k]? = some (.inr (.inr (ci, fs)))) {As : List Value} (hct : zz_Ct sh d' y cc' nL' (some ty) (.ref k :: As) h P) (hy : zz_yV y cc' nL' (some ty) C n) {i : Nat} (hl : Cond.methodLink own i y ∈ zz_TB) (hd' : d' + 1 ≤ d) (hn : As.length = n) {st' : List Value} (hstk : st' = As.reverse ++ .ref k :: st) (hst : (st.map fun v => v.category).sum ≤ 8) (hd : decode cc pc = .ok (.invokevirtual i, 3)) (kk : ∀ (r : Int32) (h' : zz_H), P r h' → zz_Go sh d cc own nL ret post (pc + 3) (.int r :: st) L h') : zz_Go sh d cc own nL ret post pc st' L h := by
  intro p l e R s m args below meth c H locs D cI cR ad A ls X hP hD hS hL
  obtain ⟨hx, hb, hr, hml, hown, hlk, hts, hfr, hlo, hA, hK, hN, hO⟩ := id X
  have hF : ∀ q, va_A (zz_ws ad cI cR sh h) H.size q → A q := fun q hq => hq.elim (fun ⟨k9, e9, h9⟩ => hD.2 k9 (q, e9) h9) (fun h9 => hA q (Nat.le_trans hS.1 h9))
  refine va_calli (va_runV (As := As.map (zz_v ad)) (rest := st.map (zz_v ad)) ⟨hx, hb, hml, hown, hts⟩ (hct l D cI cR ad H.size) (cwV n hts (zz_goodIn _ (zz_memV hy.1 hl hy.2.1 hy.2.2.1 hy.2.2.2.1)) rfl rfl rfl hy.2.2.2.2.2 ⟨Nat.le_trans hd' hfr, zz_loc hd' hy.2.2.2.2.1 hlo⟩) ⟨fun a U g mk q => by obtain ⟨q0, q1, qP, qK, qD, qN, qO⟩ := q; exact ⟨q0, q1, qP, va_K.moved (u := U) (U := U.calling g mk a) (Vm.Alike.refl U.vm) qK, qD, qN.same rfl, qO.to (Vm.Alike.refl U.vm) (fun _ _ _ _ hz => hz.same rfl) (fun _ _ _ => rfl) (fun _ hz => hz)⟩, va_recv hK hP hc.1 (zz_ws_at hsh), fun U hU hW => ⟨rfl, by rw [hU], by rw [hU]; exact hP, va_K.moved hW.alike hK, hD.weaken (fun _ _ _ _ => trivial), hN.warm hW, hO.to hW.alike (fun _ _ _ _ hz => hz.warm hW) (fun a h1 h2 => by rw [hU]; exact hS.2.1 a h1 h2) hF⟩⟩ rfl (by rw [List.length_map]; exact hn) hL.1 (by rw [← List.map_reverse]; show (st'.map (zz_v ad)) = _; rw [hstk, List.map_append]; rfl) (lv_room (by rw [zz_catS]; exact hst)) hd ⟨Nat.zero_le _, Nat.zero_le _⟩) hS (fun q _ hq => hF q hq) hF (fun r u t H1 locs1 ht hvm hw hB hz hk hS1 => ?_)
  obtain ⟨hP1, hD1⟩ := hB
  rw [ht] at hP1
  exact kk r u hw p l e R s m args below meth c H1 locs1 D cI cR ad A ls X hP1 (hD1.weaken (fun _ q _ hq => hF q.1 hq)) hS1 hL
theorem zr_callVv {d' nL' n : Nat} {y : MethodName} {cc' : ByteArray} {P : Int32 → zz_H → Prop} {ci N : Nat} {C : String} {T : u_T} {ty0 : Nat → FieldType} (hc : zz_cls ci C T N ty0) {k : Nat} {fs : List (Option Nat)} (hsh : sh[k]? = some (.inr (.inr (ci, fs)))) {As : List Value} (hct : zz_Ct sh d' y cc' nL' none (.ref k :: As) h P) (hy : zz_yV y cc' nL' none C n) {i : Nat} (hl : Cond.methodLink own i y ∈ zz_TB) (hd' : d' + 1 ≤ d) (hn : As.length = n) {st' : List Value} (hstk : st' = As.reverse ++ .ref k :: st) (hst : (st.map fun v => v.category).sum ≤ 8) (hd : decode cc pc = .ok (.invokevirtual i, 3)) (kk : ∀ (h' : zz_H), P 0 h' → zz_Go sh d cc own nL ret post (pc + 3) st L h') : zz_Go sh d cc own nL ret post pc st' L h := by
  intro p l e R s m args below meth c H locs D cI cR ad A ls X hP hD hS hL
  obtain ⟨hx, hb, hr, hml, hown, hlk, hts, hfr, hlo, hA, hK, hN, hO⟩ := id X
  have hF : ∀ q, va_A (zz_ws ad cI cR sh h) H.size q → A q := fun q hq => hq.elim (fun ⟨k9, e9, h9⟩ => hD.2 k9 (q, e9) h9) (fun h9 => hA q (Nat.le_trans hS.1 h9))
  refine va_callv (va_runV (As := As.map (zz_v ad)) (rest := st.map (zz_v ad)) ⟨hx, hb, hml, hown, hts⟩ (hct l D cI cR ad H.size) (cwV n hts (zz_goodIn _ (zz_memV hy.1 hl hy.2.1 hy.2.2.1 hy.2.2.2.1)) rfl rfl rfl hy.2.2.2.2.2 ⟨Nat.le_trans hd' hfr, zz_loc hd' hy.2.2.2.2.1 hlo⟩) ⟨fun a U g mk q => by obtain ⟨q0, q1, qP, qK, qD, qN, qO⟩ := q; exact ⟨q0, q1, qP, va_K.moved (u := U) (U := U.calling g mk a) (Vm.Alike.refl U.vm) qK, qD, qN.same rfl, qO.to (Vm.Alike.refl U.vm) (fun _ _ _ _ hz => hz.same rfl) (fun _ _ _ => rfl) (fun _ hz => hz)⟩, va_recv hK hP hc.1 (zz_ws_at hsh), fun U hU hW => ⟨rfl, by rw [hU], by rw [hU]; exact hP, va_K.moved hW.alike hK, hD.weaken (fun _ _ _ _ => trivial), hN.warm hW, hO.to hW.alike (fun _ _ _ _ hz => hz.warm hW) (fun a h1 h2 => by rw [hU]; exact hS.2.1 a h1 h2) hF⟩⟩ rfl (by rw [List.length_map]; exact hn) hL.1 (by rw [← List.map_reverse]; show (st'.map (zz_v ad)) = _; rw [hstk, List.map_append]; rfl) (lv_room (by rw [zz_catS]; exact hst)) hd ⟨Nat.zero_le _, Nat.zero_le _⟩) hS (fun q _ hq => hF q hq) hF (fun u t H1 locs1 ht hvm hw hB hz hk hS1 => ?_)
  obtain ⟨hP1, hD1⟩ := hB
  rw [ht] at hP1
  exact kk u hw p l e R s m args below meth c H1 locs1 D cI cR ad A ls X hP1 (hD1.weaken (fun _ q _ hq => hF q.1 hq)) hS1 hL
theorem zr_callSi {ty : FieldType} {d' nL' n : Nat} {y : MethodName} {cc' : ByteArray} {P : Int32 → zz_H → Prop} {As : List Value} (hct : zz_Ct sh d' y cc' nL' (some ty) As h P) (hy : zz_yS y cc' nL' (some ty) n) {i : Nat} (hl : Cond.methodLink own i y ∈ zz_TB) (hd' : d' + 1 ≤ d) (hn : As.length = n) {st' : List Value} (hstk : st' = As.reverse ++ st) (hst : (st.map fun v => v.category).sum ≤ 8) (hd : decode cc pc = .ok (.invokestatic i, 3)) (kk : ∀ (r : Int32) (h' : zz_H), P r h' → zz_Go sh d cc own nL ret post (pc + 3) (.int r :: st) L h') : zz_Go sh d cc own nL ret post pc st' L h := by
  intro p l e R s m args below meth c H locs D cI cR ad A ls X hP hD hS hL
  obtain ⟨hx, hb, hr, hml, hown, hlk, hts, hfr, hlo, hA, hK, hN, hO⟩ := id X
  have hF : ∀ q, va_A (zz_ws ad cI cR sh h) H.size q → A q := fun q hq => hq.elim (fun ⟨k9, e9, h9⟩ => hD.2 k9 (q, e9) h9) (fun h9 => hA q (Nat.le_trans hS.1 h9))
  refine va_calli (va_runS (As := As.map (zz_v ad)) (rest := st.map (zz_v ad)) ⟨hx, hb, hml, hown, hts⟩ (hct l D cI cR ad H.size) (va_cwS n hts (zz_goodIn _ (zz_memS hy.1 hl hy.2.1 hy.2.2.1)) rfl rfl rfl hy.2.2.2.2 ⟨Nat.le_trans hd' hfr, zz_loc hd' hy.2.2.2.1 hlo⟩) ⟨fun a U g mk q => by obtain ⟨q0, q1, qP, qK, qD, qN, qO⟩ := q; exact ⟨q0, q1, qP, va_K.moved (u := U) (U := U.calling g mk a) (Vm.Alike.refl U.vm) qK, qD, qN.same rfl, qO.to (Vm.Alike.refl U.vm) (fun _ _ _ _ hz => hz.same rfl) (fun _ _ _ => rfl) (fun _ hz => hz)⟩, fun U hU hW => ⟨rfl, by rw [hU], by rw [hU]; exact hP, va_K.moved hW.alike hK, hD.weaken (fun _ _ _ _ => trivial), hN.warm hW, hO.to hW.alike (fun _ _ _ _ hz => hz.warm hW) (fun a h1 h2 => by rw [hU]; exact hS.2.1 a h1 h2) hF⟩⟩ rfl (by rw [List.length_map]; exact hn) hL.1 (by rw [← List.map_reverse]; show (st'.map (zz_v ad)) = _; rw [hstk, List.map_append]) (lv_room (by rw [zz_catS]; exact hst)) hd ⟨Nat.zero_le _, Nat.zero_le _⟩) hS (fun q _ hq => hF q hq) hF (fun r u t H1 locs1 ht hvm hw hB hz hk hS1 => ?_)
  obtain ⟨hP1, hD1⟩ := hB
  rw [ht] at hP1
  exact kk r u hw p l e R s m args below meth c H1 locs1 D cI cR ad A ls X hP1 (hD1.weaken (fun _ q _ hq => hF q.1 hq)) hS1 hL
theorem zr_callSv {d' nL' n : Nat} {y : MethodName} {cc' : ByteArray} {P : Int32 → zz_H → Prop} {As : List Value} (hct : zz_Ct sh d' y cc' nL' none As h P) (hy : zz_yS y cc' nL' none n) {i : Nat} (hl : Cond.methodLink own i y ∈ zz_TB) (hd' : d' + 1 ≤ d) (hn : As.length = n) {st' : List Value} (hstk : st' = As.reverse ++ st) (hst : (st.map fun v => v.category).sum ≤ 8) (hd : decode cc pc = .ok (.invokestatic i, 3)) (kk : ∀ (h' : zz_H), P 0 h' → zz_Go sh d cc own nL ret post (pc + 3) st L h') : zz_Go sh d cc own nL ret post pc st' L h := by
  intro p l e R s m args below meth c H locs D cI cR ad A ls X hP hD hS hL
  obtain ⟨hx, hb, hr, hml, hown, hlk, hts, hfr, hlo, hA, hK, hN, hO⟩ := id X
  have hF : ∀ q, va_A (zz_ws ad cI cR sh h) H.size q → A q := fun q hq => hq.elim (fun ⟨k9, e9, h9⟩ => hD.2 k9 (q, e9) h9) (fun h9 => hA q (Nat.le_trans hS.1 h9))
  refine va_callv (va_runS (As := As.map (zz_v ad)) (rest := st.map (zz_v ad)) ⟨hx, hb, hml, hown, hts⟩ (hct l D cI cR ad H.size) (va_cwS n hts (zz_goodIn _ (zz_memS hy.1 hl hy.2.1 hy.2.2.1)) rfl rfl rfl hy.2.2.2.2 ⟨Nat.le_trans hd' hfr, zz_loc hd' hy.2.2.2.1 hlo⟩) ⟨fun a U g mk q => by obtain ⟨q0, q1, qP, qK, qD, qN, qO⟩ := q; exact ⟨q0, q1, qP, va_K.moved (u := U) (U := U.calling g mk a) (Vm.Alike.refl U.vm) qK, qD, qN.same rfl, qO.to (Vm.Alike.refl U.vm) (fun _ _ _ _ hz => hz.same rfl) (fun _ _ _ => rfl) (fun _ hz => hz)⟩, fun U hU hW => ⟨rfl, by rw [hU], by rw [hU]; exact hP, va_K.moved hW.alike hK, hD.weaken (fun _ _ _ _ => trivial), hN.warm hW, hO.to hW.alike (fun _ _ _ _ hz => hz.warm hW) (fun a h1 h2 => by rw [hU]; exact hS.2.1 a h1 h2) hF⟩⟩ rfl (by rw [List.length_map]; exact hn) hL.1 (by rw [← List.map_reverse]; show (st'.map (zz_v ad)) = _; rw [hstk, List.map_append]) (lv_room (by rw [zz_catS]; exact hst)) hd ⟨Nat.zero_le _, Nat.zero_le _⟩) hS (fun q _ hq => hF q hq) hF (fun u t H1 locs1 ht hvm hw hB hz hk hS1 => ?_)
  obtain ⟨hP1, hD1⟩ := hB
  rw [ht] at hP1
  exact kk u hw p l e R s m args below meth c H1 locs1 D cI cR ad A ls X hP1 (hD1.weaken (fun _ q _ hq => hF q.1 hq)) hS1 hL
theorem zr_callNi {ty : FieldType} {d' nL' n : Nat} {y : MethodName} {cc' : ByteArray} {P : Int32 → zz_H → Prop} {As : List Value} (hct : zz_Ct sh d' y cc' nL' (some ty) As h P) (hy : zz_yS y cc' nL' (some ty) n) {i : Nat} {host : String} (hl : (own, i, y, host) ∈ zz_nl) (hd' : d' + 1 ≤ d) (hn : As.length = n) {st' : List Value} (hstk : st' = As.reverse ++ st) (hst : (st.map fun v => v.category).sum ≤ 8) (hd : decode cc pc = .ok (.invokestatic i, 3)) (kk : ∀ (r : Int32) (h' : zz_H), P r h' → zz_Go sh d cc own nL ret post (pc + 3) (.int r :: st) L h') : zz_Go sh d cc own nL ret post pc st' L h := by
  intro p l e R s m args below meth c H locs D cI cR ad A ls X hP hD hS hL
  obtain ⟨hx, hb, hr, hml, hown, hlk, hts, hfr, hlo, hA, hK, hN, hO⟩ := id X
  have hF : ∀ q, va_A (zz_ws ad cI cR sh h) H.size q → A q := fun q hq => hq.elim (fun ⟨k9, e9, h9⟩ => hD.2 k9 (q, e9) h9) (fun h9 => hA q (Nat.le_trans hS.1 h9))
  refine va_calli (va_runSN (As := As.map (zz_v ad)) (rest := st.map (zz_v ad)) (Ts := zz_TB) (host := host) ⟨hx, hb, hml, hown, hts⟩ (hct l D cI cR ad H.size) ⟨va_cnB n hts (zz_goodIn _ (zz_memN hy.1)) rfl rfl rfl (hN _ hl) (hts _ hy.2.2.1) hy.2.2.2.2 ⟨Nat.le_trans hd' hfr, zz_loc hd' hy.2.2.2.1 hlo⟩, hts _ hy.2.1, trivial⟩ ⟨fun a U g mk q => by obtain ⟨q0, q1, qP, qK, qD, qN, qO⟩ := q; exact ⟨q0, q1, qP, va_K.moved (u := U) (U := U.calling g mk a) (Vm.Alike.refl U.vm) qK, qD, qN.same rfl, qO.to (Vm.Alike.refl U.vm) (fun _ _ _ _ hz => hz.same rfl) (fun _ _ _ => rfl) (fun _ hz => hz)⟩, fun U hU hW => ⟨rfl, by rw [hU], by rw [hU]; exact hP, va_K.moved hW.alike hK, hD.weaken (fun _ _ _ _ => trivial), hN.warm hW, hO.to hW.alike (fun _ _ _ _ hz => hz.warm hW) (fun a h1 h2 => by rw [hU]; exact hS.2.1 a h1 h2) hF⟩⟩ rfl (by rw [List.length_map]; exact hn) hL.1 (by rw [← List.map_reverse]; show (st'.map (zz_v ad)) = _; rw [hstk, List.map_append]) (lv_room (by rw [zz_catS]; exact hst)) hd ⟨Nat.zero_le _, Nat.zero_le _⟩) hS (fun q _ hq => hF q hq) hF (fun r u t H1 locs1 ht hvm hw hB hz hk hS1 => ?_)
  obtain ⟨hP1, hD1⟩ := hB
  rw [ht] at hP1
  exact kk r u hw p l e R s m args below meth c H1 locs1 D cI cR ad A ls X hP1 (hD1.weaken (fun _ q _ hq => hF q.1 hq)) hS1 hL
theorem zr_callNv {d' nL' n : Nat} {y : MethodName} {cc' : ByteArray} {P : Int32 → zz_H → Prop} {As : List Value} (hct : zz_Ct sh d' y cc' nL' none As h P) (hy : zz_yS y cc' nL' none n) {i : Nat} {host : String} (hl : (own, i, y, host) ∈ zz_nl) (hd' : d' + 1 ≤ d) (hn : As.length = n) {st' : List Value} (hstk : st' = As.reverse ++ st) (hst : (st.map fun v => v.category).sum ≤ 8) (hd : decode cc pc = .ok (.invokestatic i, 3)) (kk : ∀ (h' : zz_H), P 0 h' → zz_Go sh d cc own nL ret post (pc + 3) st L h') : zz_Go sh d cc own nL ret post pc st' L h := by
  intro p l e R s m args below meth c H locs D cI cR ad A ls X hP hD hS hL
  obtain ⟨hx, hb, hr, hml, hown, hlk, hts, hfr, hlo, hA, hK, hN, hO⟩ := id X
  have hF : ∀ q, va_A (zz_ws ad cI cR sh h) H.size q → A q := fun q hq => hq.elim (fun ⟨k9, e9, h9⟩ => hD.2 k9 (q, e9) h9) (fun h9 => hA q (Nat.le_trans hS.1 h9))
  refine va_callv (va_runSN (As := As.map (zz_v ad)) (rest := st.map (zz_v ad)) (Ts := zz_TB) (host := host) ⟨hx, hb, hml, hown, hts⟩ (hct l D cI cR ad H.size) ⟨va_cnB n hts (zz_goodIn _ (zz_memN hy.1)) rfl rfl rfl (hN _ hl) (hts _ hy.2.2.1) hy.2.2.2.2 ⟨Nat.le_trans hd' hfr, zz_loc hd' hy.2.2.2.1 hlo⟩, hts _ hy.2.1, trivial⟩ ⟨fun a U g mk q => by obtain ⟨q0, q1, qP, qK, qD, qN, qO⟩ := q; exact ⟨q0, q1, qP, va_K.moved (u := U) (U := U.calling g mk a) (Vm.Alike.refl U.vm) qK, qD, qN.same rfl, qO.to (Vm.Alike.refl U.vm) (fun _ _ _ _ hz => hz.same rfl) (fun _ _ _ => rfl) (fun _ hz => hz)⟩, fun U hU hW => ⟨rfl, by rw [hU], by rw [hU]; exact hP, va_K.moved hW.alike hK, hD.weaken (fun _ _ _ _ => trivial), hN.warm hW, hO.to hW.alike (fun _ _ _ _ hz => hz.warm hW) (fun a h1 h2 => by rw [hU]; exact hS.2.1 a h1 h2) hF⟩⟩ rfl (by rw [List.length_map]; exact hn) hL.1 (by rw [← List.map_reverse]; show (st'.map (zz_v ad)) = _; rw [hstk, List.map_append]) (lv_room (by rw [zz_catS]; exact hst)) hd ⟨Nat.zero_le _, Nat.zero_le _⟩) hS (fun q _ hq => hF q hq) hF (fun u t H1 locs1 ht hvm hw hB hz hk hS1 => ?_)
  obtain ⟨hP1, hD1⟩ := hB
  rw [ht] at hP1
  exact kk u hw p l e R s m args below meth c H1 locs1 D cI cR ad A ls X hP1 (hD1.weaken (fun _ q _ hq => hF q.1 hq)) hS1 hL
theorem zr_sub (L' : List Value) (hs : zz_le L' L) (k : zz_Go sh d cc own nL ret post pc st L' h) : zz_Go sh d cc own nL ret post pc st L h := by
  intro p l e R s m args below meth c H locs D cI cR ad A ls X hP hD hS hL
  obtain ⟨hx, hb, hr, hml, hown, hlk, hts, hfr, hlo, hA, hK, hN, hO⟩ := id X
  exact k p l e R s m args below meth c H locs D cI cR ad A ls X hP hD hS ⟨hL.1, hL.2.1, fun q hq => hL.2.2 q (zz_le_mem ad L' L 0 hs q hq)⟩
end ZR
