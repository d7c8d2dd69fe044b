/-! what a method knows of the tables, and of cells outside its world -/
def zz_nl : List (String × Nat × MethodName × String) := [(RX0, 55, yX4_spotOfPoint, RX4)]
def zz_Ne (U : State) : Prop := ∀ q ∈ zz_nl, va_Nw (.methodLinkNest q.1 q.2.1 q.2.2.1 q.2.2.2) U
theorem zz_Ne.same {u U : State} (hv : u.vm = U.vm) (h : zz_Ne u) : zz_Ne U := fun q hq => va_Nw.same rfl hv (h q hq)
theorem zz_Ne.warm {s U : State} (hW : s.WarmedH U.vm) (h : zz_Ne s) : zz_Ne U := fun q hq => va_Nw.warmM hW (h q hq)
/-- cells that nobody writes: MarkCurves.OVER is 2000, the text constant i is 1000 + i, its bytes 1100 + i -/
def zz_over : List Int32 := [-1, 0, 0, 2, 0, 1, 0]
def zz_len : List Nat := [8, 6, 5, 5, 2, 5, 5, 9, 4, 6, 6, 7]
def zz_tx : List String := ["question", "common", "pupil", "worth", "by", "curve", "added", "stretched", "bent", "shared", "linked", "dropped"]
def zz_byt : List (List Int32) := [[113, 117, 101, 115, 116, 105, 111, 110], [99, 111, 109, 109, 111, 110], [112, 117, 112, 105, 108], [119, 111, 114, 116, 104], [98, 121], [99, 117, 114, 118, 101], [97, 100, 100, 101, 100], [115, 116, 114, 101, 116, 99, 104, 101, 100], [98, 101, 110, 116], [115, 104, 97, 114, 101, 100], [108, 105, 110, 107, 101, 100], [100, 114, 111, 112, 112, 101, 100]]
def zz_ent : List Nat := [38, 47, 52, 69, 97, 103, 105, 107, 109, 111, 113, 115]
def zz_Out (ad : Nat → Nat) (A : Nat → Prop) (U : State) (H : Heap) : Prop :=
  va_Z RX4 "OVER" "[I" (.ref (ad 2000)) A U H ∧ va_T .int (ad 2000) 7 (fun j => .int (zz_over.getD j 0)) A U H ∧
  vk_S 12 zz_len zz_byt (fun i => ad (1000 + i)) (fun i => ad (1100 + i)) A U H ∧ (∀ i, i < 12 → vk_R RX3 (zz_ent.getD i 0) (zz_tx.getD i "") (ad (1000 + i)) U) ∧
  va_Z "java/lang/String" "COMPACT_STRINGS" "Z" (.int 1) A U H ∧ va_Zq "jdk/internal/util/Preconditions" "SIOOBE_FORMATTER" "Ljava/util/function/BiFunction;" A U H
theorem zz_Out.to {ad : Nat → Nat} {A B : Nat → Prop} {u U : State} {H H1 : Heap} (h : zz_Out ad A u H) (hvm : u.vm.Alike U.vm) (hR : ∀ (own : String) (k : Nat) (tx : String) (a : Nat), vk_R own k tx a u → vk_R own k tx a U) (hq : ∀ a : Nat, a < H.size → ¬ A a → H1[a]? = H[a]?) (hAB : ∀ q, B q → A q) : zz_Out ad B U H1 := by
  obtain ⟨h1, h2, h3, h4, h5, h6⟩ := h
  exact ⟨((h1.moved hvm).kept hq).narrow hAB, ((h2.moved hvm).kept hq).narrow hAB, ((h3.moved hvm).kept hq).narrow hAB, fun i hi => hR _ _ _ _ (h4 i hi), ((h5.moved hvm).kept hq).narrow hAB, ((h6.moved hvm).kept hq).narrow hAB⟩
abbrev zz_tys (cI cR : ClassId) : List (ClassId × FieldType) := [(cI, .int), (cR, .object "MarkCurves$Sheet")]
/-- where a method stands: the machine, its code, the tables, its room -/
def zz_Cx (d : Nat) (cc : ByteArray) (own : String) (nL : Nat) (ret : Option FieldType) (p : Program) (R : Room) (s : State) (m : MethodId) (args : Array Value) (meth : Method) (c : Code) (D : va_G) (cI cR : ClassId) (ad : Nat → Nat) (A : Nat → Prop) : Prop :=
  p.tables.exec = Jvm.exec ∧ c.code = cc ∧ meth.sig.returnType = ret ∧ c.maxLocals = nL ∧ s.vm.findClass own = some m.cls ∧ meth.locks = false ∧ (∀ w ∈ zz_TB, w.before args s = true) ∧ d ≤ R.frames ∧ 36 * d ≤ R.locals ∧ (∀ q, s.heap.size ≤ q → A q) ∧ va_K D vwCl (zz_tys cI cR) s ∧ zz_Ne s ∧ zz_Out ad A s s.heap
def zz_B (D : va_G) (cI cR : ClassId) (ad : Nat → Nat) (sh : List zz_SC) (A : Nat → Prop) (h : zz_H) (t : State) : Prop := va_P D vwCl (zz_ws ad cI cR sh h) t.heap ∧ va_D A (zz_ws ad cI cR sh h)
def zz_Q (ret : Option FieldType) (post : Int32 → zz_H → Prop) (B : zz_H → State → Prop) (A : Nat → Prop) : Array Value → State → Outcome → State → Prop := match ret with
  | none => va_Qv (fun h => post 0 h) B A
  | some _ => va_Qi post B A
def zz_Go (sh : List zz_SC) (d : Nat) (cc : ByteArray) (own : String) (nL : Nat) (ret : Option FieldType) (post : Int32 → zz_H → Prop) (pc : Nat) (st L : List Value) (h : zz_H) : Prop :=
  ∀ (p : Program) (l : Launch) (e : Env) (R : Room) (s : State) (m : MethodId) (args : Array Value) (below : List Frame) (meth : Method) (c : Code) (H : Heap) (locs : List Loc) (D : va_G) (cI cR : ClassId) (ad : Nat → Nat) (A : Nat → Prop) (ls : Array Slot),
    zz_Cx d cc own nL ret p R s m args meth c D cI cR ad A → va_P D vwCl (zz_ws ad cI cR sh h) H → va_D A (zz_ws ad cI cR sh h) → va_S A s.heap H locs → lv_has ls nL (zz_pl ad 0 L) →
    W p l e R s m args below meth c H locs 0 0 (MQ below (zz_Q ret post (zz_B D cI cR ad sh A) A) args s 0 0 A) (F0 m pc ls (st.map (zz_v ad)))
def zz_rm (d : Nat) : Room := { frames := d, cells := 0, slots := 0, locals := 36 * d }
abbrev zz_w (y : MethodName) (cc : ByteArray) (nL : Nat) (ret : Option FieldType) : List Cond := Cond.code y cc nL ret :: zz_TB
/-- a method's contract: from a world with the ints h, with these arguments, it returns, with post -/
def zz_Ct (sh : List zz_SC) (d : Nat) (y : MethodName) (cc : ByteArray) (nL : Nat) (ret : Option FieldType) (av : List Value) (h : zz_H) (post : Int32 → zz_H → Prop) : Prop :=
  ∀ (l : Launch) (D : va_G) (cI cR : ClassId) (ad : Nat → Nat) (sz : Nat),
    Met l y (zz_w y cc nL ret) (zz_rm d) (va_Pc (av.map (zz_v ad)) (fun U => U.heap.size = sz ∧ va_P D vwCl (zz_ws ad cI cR sh h) U.heap ∧ va_K D vwCl (zz_tys cI cR) U ∧ va_D (fun _ => True) (zz_ws ad cI cR sh h) ∧ zz_Ne U ∧ zz_Out ad (va_A (zz_ws ad cI cR sh h) sz) U U.heap))
      (zz_Q ret post (zz_B D cI cR ad sh (va_A (zz_ws ad cI cR sh h) sz)) (va_A (zz_ws ad cI cR sh h) sz)) 0 0 (va_A (zz_ws ad cI cR sh h) sz)
/-- a contract out of a walk -/
theorem zz_ct {sh : List zz_SC} {d : Nat} {y : MethodName} {cc : ByteArray} {nL : Nat} {ret : Option FieldType} {av L : List Value} {h : zz_H} {post : Int32 → zz_H → Prop} (hy : plainName y.cls = true) (hn : (lg_sl av).length ≤ nL) (hL : ∀ ad : Nat → Nat, ∀ q ∈ zz_pl ad 0 L, q ∈ lv_args 0 (av.map (zz_v ad))) (g : zz_Go sh d cc y.cls nL ret post 0 [] L h) : zz_Ct sh d y cc nL ret av h post := by
  intro l D cI cR ad sz
  refine Met.ofW (cc := cc) (maxL := nL) (ret := ret) hy rfl ?_
  intro p e s m args below meth c s₁ B hml hv
  obtain ⟨rfl, hsz, hP, hK, hD0, hN, hO⟩ := hv
  subst hsz
  have hts : ∀ w ∈ zz_w y cc nL ret, w.before ((av.map (zz_v ad)).toArray) s = true := atoms_spec (ws := zz_w y cc nL ret) B.pre
  have hown : s.vm.findClass y.cls = some m.cls := findClass_of_methodNamed B.named
  have hlen : (lg_sl (av.map (zz_v ad))).length = (lg_sl av).length := by
    clear hn hL g hP hK hD0 hN hO hts B
    induction av with
    | nil => rfl
    | cons v t ih =>
      simp only [lg_sl, List.map_cons, List.flatMap_cons, List.length_append, zz_v_cat] at ih ⊢
      rw [ih]
      split <;> rfl
  have hl := lv_entry (av.map (zz_v ad)) (n := nL) (by rw [hlen]; exact hn)
  rw [lg_entry_eq]
  generalize (lg_sl (av.map (zz_v ad)) ++ List.replicate (nL - (lg_sl (av.map (zz_v ad))).length) Slot.unset).toArray = ls at hl ⊢
  exact g p l e _ s m _ below meth c s.heap [] D cI cR ad _ ls ⟨B.exec, B.bytes, B.returns, hml, hown, B.notSynchronized, fun w hw => hts w (List.mem_cons_of_mem _ hw), Nat.le_refl _, Nat.le_refl _, fun q hq => Or.inr hq, hK, hN, hO⟩ hP hD0.self va_S.rf ⟨hl.1, hl.2.1, fun q hq => hl.2.2 q (hL ad q hq)⟩
