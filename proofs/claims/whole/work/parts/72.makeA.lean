/-! constructors: rows that make cells -/
theorem zA_int : Cond.arrayClass .int ∈ zz_TB := zz_in 127 (by decide +kernel) (by decide +kernel)
def zk_nl : List (String × Nat × MethodName × String) := [(RX4, 24, yX1_init, RX4), (RX4, 31, yX3_init, RX4), (RX4, 56, yX2_init, RX4)]
def zk_Ne (U : State) : Prop := (∀ q ∈ zk_nl, va_Nw (.methodLinkNest q.1 q.2.1 q.2.2.1 q.2.2.2) U) ∧ va_AO "MarkCurves$Sheet" U
theorem zk_Ne.same {u U : State} (hv : u.vm = U.vm) (h : zk_Ne u) : zk_Ne U := ⟨fun q hq => va_Nw.same rfl hv (h.1 q hq), va_AO.moved (by rw [hv]; exact Vm.Alike.refl _) h.2⟩
theorem zk_Ne.warm {s U : State} (hW : s.WarmedH U.vm) (h : zk_Ne s) : zk_Ne U := ⟨fun q hq => va_Nw.warmM hW (h.1 q hq), va_AO.moved hW.alike h.2⟩
theorem zz_Out.cong {ad ad' : Nat → Nat} {A : Nat → Prop} {U : State} {H : Heap} (h : zz_Out ad A U H) (e : ∀ k, 43 ≤ k → ad' k = ad k) : zz_Out ad' A U H := by
  have e1 : (fun i => ad' (1000 + i)) = fun i => ad (1000 + i) := funext fun i => e _ (by omega)
  have e2 : (fun i => ad' (1100 + i)) = fun i => ad (1100 + i) := funext fun i => e _ (by omega)
  obtain ⟨h1, h2, h3, h4, h5, h6⟩ := h
  refine ⟨by rw [e 2000 (by omega)]; exact h1, by rw [e 2000 (by omega)]; exact h2, by rw [e1, e2]; exact h3, fun i hi => by rw [e (1000 + i) (by omega)]; exact h4 i hi, h5, h6⟩
/-- a constructor's start -/
def zk_B (D : va_G) (cI cR : ClassId) (ad : Nat → Nat) (ws : va_W) (sz : Nat) (U : State) : Prop := U.heap.size = sz ∧ va_P D vwCl ws U.heap ∧ va_K D vwCl (zz_tys cI cR) U ∧ va_D (fun _ => True) ws ∧ zz_Ne U ∧ zz_Out ad (va_A ws sz) U U.heap ∧ zk_Ne U
/-- and its end: a world of that shape, at addresses f, its first cell at h0 -/
def zk_E (D : va_G) (cI cR : ClassId) (sh : List zz_SC) (h0 : Nat) (A : Nat → Prop) (u : (Nat → Nat) × zz_H) (t : State) : Prop := u.1 0 = h0 ∧ va_P D vwCl (zz_ws u.1 cI cR sh u.2) t.heap ∧ va_D A (zz_ws u.1 cI cR sh u.2)
abbrev zk_rm (F MC MS : Nat) : Room := { frames := F, cells := MC, slots := MS, locals := 36 * F }
/-- a constructor's contract -/
def zk_Ct (sh : List zz_SC) (F MC MS : Nat) (y : MethodName) (cc : ByteArray) (nL ci : Nat) (fs : List Value) (post : (Nat → Nat) × zz_H → Prop) : Prop :=
  ∀ (l : Launch) (D : va_G) (cI cR : ClassId) (ad : Nat → Nat) (sz h0 : Nat),
    Met l y (zz_w y cc nL none) (zk_rm F MC MS) (va_Pc [.ref h0] (zk_B D cI cR ad [(h0, .inr (ci, fs))] sz)) (va_Qv post (zk_E D cI cR sh h0 (va_A [(h0, .inr (ci, fs))] sz)) (va_A [(h0, .inr (ci, fs))] sz)) MC MS (va_A [(h0, .inr (ci, fs))] sz)
theorem zk_join {A0 : Nat → Prop} {D : va_G} {cl : List vw_C} {ws w1 : va_W} {x : Nat × va_E} {H H1 : Heap} (hP : va_P D cl (ws ++ [x]) H) (hD : va_D A0 (ws ++ [x])) (hk : ∀ q : Nat, q < H.size → ¬ va_A [x] H.size q → H1[q]? = H[q]?) (hF : ∀ q, va_A [x] H.size q → A0 q) (hP1 : va_P D cl w1 H1) (hD1 : va_D (va_A [x] H.size) w1) : va_P D cl (ws ++ w1) H1 ∧ va_D A0 (ws ++ w1) := by
  have up : ∀ (k : Nat) (q : Nat × va_E), ws[k]? = some q → (ws ++ [x])[k]? = some q := fun k q hq => by
    rw [List.getElem?_append_left (List.getElem?_eq_some_iff.mp hq).1]
    exact hq
  have lastx : (ws ++ [x])[ws.length]? = some x := by simp
  have apart : ∀ (k : Nat) (q : Nat × va_E), ws[k]? = some q → q.1 < H.size ∧ ¬ va_A [x] H.size q.1 := by
    intro k q hq
    have hl := (hP k q (up k q hq)).lt
    refine ⟨hl, fun h => ?_⟩
    rcases h with ⟨k2, e, h⟩ | h
    · have hz : k2 < 1 := (List.getElem?_eq_some_iff.mp h).1
      rw [show k2 = 0 by omega] at h
      have hx : x = (q.1, e) := Option.some.inj h
      have := hD.1 k ws.length q x (up k q hq) lastx (by rw [hx])
      have := (List.getElem?_eq_some_iff.mp hq).1
      omega
    · omega
  refine ⟨va_P.app (fun k q hq => ?_) hP1, va_D.app ⟨fun i j p q hi hj => hD.1 i j p q (up i p hi) (up j q hj), fun k q hq => hD.2 k q (up k q hq)⟩ (hD1.weaken (fun k q _ h => hF q.1 h)) (fun i j x y hx hy hxy => ?_)⟩
  · obtain ⟨g1, g2⟩ := apart k q hq
    exact (hP k q (up k q hq)).kept (hk q.1 g1 g2)
  · exact (apart i x hx).2 (by rw [hxy]; exact hD1.2 j y hy)
/-- Arrays.fill -/
theorem ct_fill (n : Nat) (hn : n ≤ 1000) (v : Int32) (h : zz_H) : zz_Ct [.inl n] 0 yJ7_fill_53178 cJ7_fill_53178 4 none [.ref 0, .int v] h (fun _ h' => ∀ j, j < n → h' 0 j = v) := by
  refine zz_ct (L := [.ref 0, .int v, .null, .null]) (by decide +kernel) (Nat.le_of_ble_eq_true rfl) (fun ad q hq => hq) ?_
  show zz_Go [.inl n] 0 cJ7_fill_53178 RJ7 4 none _ 0 [] [.ref 0, .int v, .null, .null] h
  have loop : ∀ (k i : Nat) (h : zz_H), i + k = n → (∀ j, j < i → h 0 j = v) → zz_Go [.inl n] 0 cJ7_fill_53178 RJ7 4 none (fun _ h' => ∀ j, j < n → h' 0 j = v) 5 [] [.ref 0, .int v, .int (nI i), .int (nI n)] h := by
    intro k
    induction k with
    | zero =>
      intro i h hi hj
      have e : i = n := by omega
      subst e
      refine zr_iload_n dJ7_fill_53178_5 rfl rfl ?_
      refine zr_iload_n dJ7_fill_53178_6 rfl rfl ?_
      exact zr_icmp_ge 20 dJ7_fill_53178_7 (by decide) (fun _ => zr_vret rfl dJ7_fill_53178_20 hj) (fun w => absurd (nI_le (Nat.le_refl i) (by omega)) w)
    | succ k ih =>
      intro i h hi hj
      refine zr_iload_n dJ7_fill_53178_5 rfl rfl ?_
      refine zr_iload_n dJ7_fill_53178_6 rfl rfl ?_
      refine zr_icmp_ge 20 dJ7_fill_53178_7 (by decide) (fun w => absurd w (lt_nle (by omega) (by omega))) (fun _ => ?_)
      refine zr_aload_n dJ7_fill_53178_10 rfl rfl ?_
      refine zr_iload_n dJ7_fill_53178_11 rfl rfl ?_
      refine zr_iload_n dJ7_fill_53178_12 rfl rfl ?_
      refine zr_iast (n := n) rfl (in_nI (by omega) (by omega)) (nI_clamp (by omega)) dJ7_fill_53178_13 (P := fun h' => h' = zz_st h 0 (upd (h 0) i v)) rfl (fun h' e => ?_)
      subst e
      refine zr_iinc (nI (i + 1)) [.ref 0, .int v, .int (nI (i + 1)), .int (nI n)] dJ7_fill_53178_14 rfl (by rw [zqk_1, nI_1]) (by decide) rfl rfl ?_
      refine zr_goto 5 dJ7_fill_53178_17 (by decide) ?_
      refine ih (i + 1) _ (by omega) (fun j hj2 => ?_)
      rw [zz_st_self]
      by_cases e : j = i
      · subst e; exact pk_us
      · rw [pk_un e]; exact hj j (by omega)
  refine zr_iconst dJ7_fill_53178_0 zqk_0 ?_
  refine zr_istore_n [.ref 0, .int v, .int 0, .null] dJ7_fill_53178_1 rfl (by decide) rfl rfl ?_
  refine zr_aload_n dJ7_fill_53178_2 rfl rfl ?_
  refine zr_alen (n := n) rfl dJ7_fill_53178_3 ?_
  refine zr_istore_n [.ref 0, .int v, .int 0, .int (nI n)] dJ7_fill_53178_4 rfl (by decide) rfl rfl ?_
  exact loop n 0 h (by omega) (fun j hj => absurd hj (by omega))
section ZK
variable {p : Program} {l : Launch} {e : Env} {R : Room} {s : State} {m : MethodId} {args : Array Value} {below : List Frame} {meth : Method} {c : Code} {H : Heap} {locs : List Loc} {cells slots : Nat} {Q : State → Prop}
variable {cc : ByteArray} {pc nL : Nat} {ls : Array Slot} {rest : List Value} {D : va_G} {A : Nat → Prop} {a : Nat} {cI cR : ClassId} {ws : va_W} {own : String} {ad : Nat → Nat} {lv : List (Nat × Value)}
theorem zk_newa (hx : p.tables.exec = Jvm.exec) (hb : c.code = cc) (htb : ∀ w ∈ zz_TB, w.before args s = true) (hK : va_K D vwCl (zz_tys cI cR) s) (hA : ∀ q, s.heap.size ≤ q → A q) {n : Int32} (N' : Nat) (hn : ¬ n < 0) (hN : n.toNatClampNeg = N') (hl : N' ≤ 1000) (hcells : cells + 1 ≤ R.cells) (hslots : slots + N' ≤ R.slots) (hdg : decode cc pc = .ok (.newarray .int, 2)) (hP : va_P D vwCl ws H) (hD : va_D A ws) (hS : va_S A s.heap H locs)
    (kk : ∀ (q : Nat) (H1 : Heap), va_P D vwCl (ws ++ [(q, .inl (cI, N', .inl (fun _ => 0)))]) H1 → va_D A (ws ++ [(q, .inl (cI, N', .inl (fun _ => 0)))]) → va_S A s.heap H1 locs → W p l e R s m args below meth c H1 locs (cells + 1) (slots + N') Q (F0 m (pc + 2) ls (.ref q :: rest))) : W p l e R s m args below meth c H locs cells slots Q (F0 m pc ls (.int n :: rest)) := by
  refine va_newa (atype := .int) hx hb (htb _ zA_int) rfl hK hP hD hS hA (a0 := (N', .inl (fun _ => 0))) (fun cA => rfl) hn hN (by show N' * 4 ≤ _; omega) hcells hslots hdg (fun q cA H1 hK1 hP1 hD1 hS1 => ?_)
  have e1 : s.vm.findClass ("[" ++ (FieldType.int).toString) = some cA := (hK1.2 2 (cA, .int) rfl).2
  have e2 : s.vm.findClass ("[" ++ (FieldType.int).toString) = some cI := (hK.2 0 (cI, .int) rfl).2
  have e3 : cA = cI := Option.some.inj (e1.symm.trans e2)
  subst e3
  exact kk q H1 hP1 hD1 hS1
theorem zk_newq (hx : p.tables.exec = Jvm.exec) (hb : c.code = cc) (hown : s.vm.findClass own = some m.cls) {i : Nat} (hcl : (Cond.classLink own i "MarkCurves$Sheet").before args s = true) (hN2 : zk_Ne s) (hK : va_K D vwCl (zz_tys cI cR) s) (hA : ∀ q, s.heap.size ≤ q → A q) {n : Int32} (N' : Nat) (hn : ¬ n < 0) (hN : n.toNatClampNeg = N') (hl : N' ≤ 1000) (hcells : cells + 1 ≤ R.cells) (hslots : slots + N' ≤ R.slots) (hdg : decode cc pc = .ok (.anewarray i, 3)) (hP : va_P D vwCl ws H) (hD : va_D A ws) (hS : va_S A s.heap H locs)
    (kk : ∀ (q : Nat) (H1 : Heap), va_P D vwCl (ws ++ [(q, .inl (cR, N', .inr (.inr (.inr (.inr (fun _ => none))))))]) H1 → va_D A (ws ++ [(q, .inl (cR, N', .inr (.inr (.inr (.inr (fun _ => none))))))]) → va_S A s.heap H1 locs → W p l e R s m args below meth c H1 locs (cells + 1) (slots + N') Q (F0 m (pc + 3) ls (.ref q :: rest))) : W p l e R s m args below meth c H locs cells slots Q (F0 m pc ls (.int n :: rest)) := by
  refine va_newq (C := "MarkCurves$Sheet") hx hb hown hcl hN2.2 hK hP hD hS hA hn hN (by omega) hcells hslots hdg (fun q cA H1 hK1 hP1 hD1 hS1 => ?_)
  obtain ⟨-, -, -, -, -, e1⟩ := (hK1.2 2 (cA, .object "MarkCurves$Sheet") rfl).2
  obtain ⟨-, -, -, -, -, e2⟩ := (hK.2 1 (cR, .object "MarkCurves$Sheet") rfl).2
  have e3 : cA = cR := Option.some.inj (e1.symm.trans e2)
  subst e3
  exact kk q H1 hP1 hD1 hS1
theorem zk_putF (hx : p.tables.exec = Jvm.exec) (hb : c.code = cc) (htb : ∀ w ∈ zz_TB, w.before args s = true) (hown : s.vm.findClass own = some m.cls) (hin : meth.name = "<init>") (hK : va_K D vwCl (zz_tys cI cR) s) {ci N : Nat} {C : String} {T : u_T} {ty0 : Nat → FieldType} (hc : zz_cls ci C T N ty0) (k0 : Nat) {fs : List Value} (he : ws[k0]? = some (a, .inr (ci, fs))) (k : Nat) (hk : k < N) {i : Nat} (hlink : Cond.fieldLink own i (T k).1 (T k).2.1 (T k).2.2.1 ∈ zz_TB) (hfin : (T k).2.2.2 = true) (hdecl : (T k).1 = own) {ty : FieldType} {v : Value} (hd : parseFieldDescriptor (T k).2.2.1 = some ty) (hn : narrow ty v = v) (hfit : fits ty v = true) (hl : k < fs.length) (hdg : decode cc pc = .ok (.putfield i, 3)) (hP : va_P D vwCl ws H) (hD : va_D A ws) (hS : va_S A s.heap H locs)
    (kk : ∀ (H1 : Heap) (locs1 : List Loc), va_P D vwCl (ws.set k0 (a, .inr (ci, fs.set k v))) H1 → va_D A (ws.set k0 (a, .inr (ci, fs.set k v))) → va_S A s.heap H1 locs1 → W p l e R s m args below meth c H1 locs1 cells slots Q (F0 m (pc + 3) ls rest)) : W p l e R s m args below meth c H locs cells slots Q (F0 m pc ls (v :: .ref a :: rest)) :=
  va_putF hx hb htb hc.2.1 ty0 hc.2.2.1 hc.2.2.2 hown hK hP hD hS k0 he hc.1 k hk (htb _ hlink) (fun _ h9 => h9) hfin hin hdecl hd hn hfit hl hdg kk
theorem zk_put (hx : p.tables.exec = Jvm.exec) (hb : c.code = cc) (htb : ∀ w ∈ zz_TB, w.before args s = true) (hown : s.vm.findClass own = some m.cls) (hK : va_K D vwCl (zz_tys cI cR) s) {ci N : Nat} {C : String} {T : u_T} {ty0 : Nat → FieldType} (hc : zz_cls ci C T N ty0) (k0 : Nat) {fs : List Value} (he : ws[k0]? = some (a, .inr (ci, fs))) (k : Nat) (hk : k < N) {i : Nat} (hlink : Cond.fieldLink own i (T k).1 (T k).2.1 (T k).2.2.1 ∈ zz_TB) (hfin : (T k).2.2.2 = false) {ty : FieldType} {v : Value} (hd : parseFieldDescriptor (T k).2.2.1 = some ty) (hn : narrow ty v = v) (hfit : fits ty v = true) (hl : k < fs.length) (hdg : decode cc pc = .ok (.putfield i, 3)) (hP : va_P D vwCl ws H) (hD : va_D A ws) (hS : va_S A s.heap H locs)
    (kk : ∀ (H1 : Heap) (locs1 : List Loc), va_P D vwCl (ws.set k0 (a, .inr (ci, fs.set k v))) H1 → va_D A (ws.set k0 (a, .inr (ci, fs.set k v))) → va_S A s.heap H1 locs1 → W p l e R s m args below meth c H1 locs1 cells slots Q (F0 m (pc + 3) ls rest)) : W p l e R s m args below meth c H locs cells slots Q (F0 m pc ls (v :: .ref a :: rest)) :=
  va_put hx hb htb hc.2.1 ty0 hc.2.2.1 hc.2.2.2 hown hK hP hD hS k0 he hc.1 k hk (htb _ hlink) (fun _ h9 => h9) hfin hd hn hfit hl hdg kk
theorem zk_objInit (hx : p.tables.exec = Jvm.exec) (hb : c.code = cc) (htb : ∀ w ∈ zz_TB, w.before args s = true) (hown : s.vm.findClass own = some m.cls) (hml : c.maxLocals = nL) (hl : lv_has ls nL lv) {i : Nat} (hlink : Cond.methodLink own i objectInit ∈ zz_TB) (hR : 1 ≤ R.frames) (hR2 : 36 ≤ R.locals) (hdg : decode cc pc = .ok (.invokespecial i, 3)) (kk : W p l e R s m args below meth c H locs cells slots Q (F0 m (pc + 3) ls [])) : W p l e R s m args below meth c H locs cells slots Q (F0 m pc ls [.ref a]) := by
  refine W.objInit hx hb hown (htb _ hlink) (htb _ zi_objectInit) (htb _ zc_objectInit) rfl (by rw [hml]; exact hl.1) rfl hdg hR (by show 2 * 0 + 0 + 12 ≤ _; omega) ?_
  exact W.eq (g2 := F0 m (pc + 3) ls []) rfl kk
/-- new C(); a copy of the reference stays -/
theorem zk_makeI (hx : p.tables.exec = Jvm.exec) (hb : c.code = cc) (hml : c.maxLocals = nL) (htb : ∀ w ∈ zz_TB, w.before args s = true) (hown : s.vm.findClass own = some m.cls) (hK : va_K D vwCl (zz_tys cI cR) s) (hA : ∀ q, s.heap.size ≤ q → A q) (hNe : zz_Ne s) (hO : zz_Out ad A s s.heap) (hN2 : zk_Ne s) (hl : lv_has ls nL lv)
    {ci N : Nat} {C : String} {T : u_T} {ty : Nat → FieldType} (hc : zz_cls ci C T N ty) {fs : List Value} (hfs : ∀ j, j < N → defaultValue (ty j) = vp_V fs j) {i1 i2 : Nat} (hcl : (Cond.classLink own i1 C).before args s = true) (hinst : (Cond.instantiable C N).before args s = true) {sh : List zz_SC} {F MC MS nL' : Nat} {y : MethodName} {cc' : ByteArray} {post : (Nat → Nat) × zz_H → Prop} (hct : zk_Ct sh F MC MS y cc' nL' ci fs post)
    (hini : Cond.initialized C ∈ zz_TB) (hy : y.cls = C) (hyn : y.name = "<init>") (hcode : Cond.code y cc' nL' none ∈ zz_TB) (hyi : Cond.instanceMethod y ∈ zz_TB) (hlink : (Cond.methodLink own i2 y).before args s = true) (hd3 : y.cls ≠ "java/lang/invoke/MethodHandle" ∧ y.cls ≠ "java/lang/invoke/VarHandle" ∧ (parseMethodDescriptor y.desc).map (fun d => d.parameters.length) = some 0) (hnl : nL' ≤ 17)
    (hRf : F + 1 ≤ R.frames) (hRl : 36 * F + 36 ≤ R.locals) (hcells : cells + 1 + MC ≤ R.cells) (hslots : slots + N + MS ≤ R.slots) (hst : (rest.map fun v => v.category).sum ≤ 7) (d0 : decode cc pc = .ok (.new i1, 3)) (d1 : decode cc (pc + 3) = .ok (.dup, 1)) (d2 : decode cc (pc + 4) = .ok (.invokespecial i2, 3))
    (hP : va_P D vwCl ws H) (hD : va_D A ws) (hS : va_S A s.heap H locs)
    (kk : ∀ (f : Nat → Nat) (h : zz_H) (H1 : Heap) (locs1 : List Loc), post (f, h) → va_P D vwCl (ws ++ zz_ws f cI cR sh h) H1 → va_D A (ws ++ zz_ws f cI cR sh h) → va_S A s.heap H1 locs1 → W p l e R s m args below meth c H1 locs1 (cells + 1 + MC) (slots + N + MS) Q (F0 m (pc + 7) ls (.ref (f 0) :: rest))) : W p l e R s m args below meth c H locs cells slots Q (F0 m pc ls rest) := by
  refine va_new hx hb htb hc.2.1 ty hc.2.2.1 hown hcl hinst (htb _ hini) hK hP hD hS hA hc.1 hfs (by omega) (by omega) d0 (fun q H1 hP1 hD1 hS1 => ?_)
  refine lv_dup hx hb d1 rfl ?_
  have hF : ∀ x, va_A [(q, .inr (ci, fs))] H1.size x → A x := fun x hx => hx.elim (fun ⟨k9, e9, h9⟩ => by
    have hz : k9 < 1 := (List.getElem?_eq_some_iff.mp h9).1
    rw [show k9 = 0 by omega] at h9
    have hh : (q, Sum.inr (ci, fs)) = (x, e9) := Option.some.inj h9
    have := hD1.2 ws.length (q, .inr (ci, fs)) (by simp)
    have hq : q = x := congrArg Prod.fst hh
    subst hq
    exact this) (fun h9 => hA x (Nat.le_trans hS1.1 h9))
  have hPc : va_P D vwCl [(q, .inr (ci, fs))] H1 := fun k x hx => by
    have hz : k < 1 := (List.getElem?_eq_some_iff.mp hx).1
    rw [show k = 0 by omega] at hx
    have hh : (q, Sum.inr (ci, fs)) = x := Option.some.inj hx
    exact hP1 ws.length x (by rw [← hh]; simp)
  have hDc : va_D (fun _ => True) [(q, (.inr (ci, fs) : va_E))] := ⟨fun i j x y hx hy _ => by
    have h1 : i < 1 := (List.getElem?_eq_some_iff.mp hx).1
    have h2 : j < 1 := (List.getElem?_eq_some_iff.mp hy).1
    omega, fun _ _ _ => trivial⟩
  refine va_callv (va_runI (As := []) (rest := .ref q :: rest) ⟨hx, hb, hml, hown, htb⟩ (hct l D cI cR ad H1.size q) (cwI 0 htb (zz_goodIn _ (zz_memN hcode)) rfl rfl rfl (by rw [hy]; exact htb _ hini) hlink (htb _ hyi) hyn hd3 ⟨hRf, by show 8 + (nL' + 11) + 36 * F ≤ _; omega⟩) ⟨fun a U g mk q => by obtain ⟨q0, q1, qP, qK, qD, qN, qO, qM⟩ := q; exact ⟨q0, q1, qP, va_K.moved (u := U) (U := U.calling g mk a) (Vm.Alike.refl U.vm) qK, qD, qN.same rfl, qO.to (Vm.Alike.refl U.vm) (fun _ _ _ _ hz => hz.same rfl) (fun _ _ _ => rfl) (fun _ hz => hz), qM.same rfl⟩, fun U hU hW => ⟨rfl, by rw [hU], by rw [hU]; exact hPc, va_K.moved hW.alike hK, hDc, hNe.warm hW, hO.to hW.alike (fun _ _ _ _ hz => hz.warm hW) (fun a h1 h2 => by rw [hU]; exact hS1.2.1 a h1 h2) hF, hN2.warm hW⟩⟩ rfl rfl hl.1 rfl (lv_room (by show 1 + (rest.map fun v => v.category).sum ≤ 8; omega)) d2 ⟨by omega, by omega⟩) hS1 (fun x _ hx => hF x hx) hF (fun u t H2 locs2 ht hvm hw hB hz hk hS2 => ?_)
  obtain ⟨f, h⟩ := u
  obtain ⟨e0, hP2, hD2⟩ := hB
  rw [ht] at hP2
  obtain ⟨hP3, hD3⟩ := zk_join hP1 hD1 hk hF hP2 hD2
  have e0 : f 0 = q := e0
  subst e0
  exact kk f h H2 locs2 hw hP3 hD3 hS2
/-- the same, of a nest mate -/
theorem zk_makeN (hx : p.tables.exec = Jvm.exec) (hb : c.code = cc) (hml : c.maxLocals = nL) (htb : ∀ w ∈ zz_TB, w.before args s = true) (hown : s.vm.findClass own = some m.cls) (hK : va_K D vwCl (zz_tys cI cR) s) (hA : ∀ q, s.heap.size ≤ q → A q) (hNe : zz_Ne s) (hO : zz_Out ad A s s.heap) (hN2 : zk_Ne s) (hl : lv_has ls nL lv)
    {ci N : Nat} {C : String} {T : u_T} {ty : Nat → FieldType} (hc : zz_cls ci C T N ty) {fs : List Value} (hfs : ∀ j, j < N → defaultValue (ty j) = vp_V fs j) {i1 i2 : Nat} (hcl : (Cond.classLink own i1 C).before args s = true) (hinst : (Cond.instantiable C N).before args s = true) {sh : List zz_SC} {F MC MS nL' : Nat} {y : MethodName} {cc' : ByteArray} {post : (Nat → Nat) × zz_H → Prop} (hct : zk_Ct sh F MC MS y cc' nL' ci fs post)
    (hini : Cond.initialized C ∈ zz_TB) (hy : y.cls = C) (hyn : y.name = "<init>") (hcode : Cond.code y cc' nL' none ∈ zz_TB) (hyi : Cond.instanceMethod y ∈ zz_TB) {host : String} (hlink : va_Nw (.methodLinkNest own i2 y host) s) (hd3 : y.cls ≠ "java/lang/invoke/MethodHandle" ∧ y.cls ≠ "java/lang/invoke/VarHandle" ∧ (parseMethodDescriptor y.desc).map (fun d => d.parameters.length) = some 0) (hnl : nL' ≤ 17)
    (hRf : F + 1 ≤ R.frames) (hRl : 36 * F + 36 ≤ R.locals) (hcells : cells + 1 + MC ≤ R.cells) (hslots : slots + N + MS ≤ R.slots) (hst : (rest.map fun v => v.category).sum ≤ 7) (d0 : decode cc pc = .ok (.new i1, 3)) (d1 : decode cc (pc + 3) = .ok (.dup, 1)) (d2 : decode cc (pc + 4) = .ok (.invokespecial i2, 3))
    (hP : va_P D vwCl ws H) (hD : va_D A ws) (hS : va_S A s.heap H locs)
    (kk : ∀ (f : Nat → Nat) (h : zz_H) (H1 : Heap) (locs1 : List Loc), post (f, h) → va_P D vwCl (ws ++ zz_ws f cI cR sh h) H1 → va_D A (ws ++ zz_ws f cI cR sh h) → va_S A s.heap H1 locs1 → W p l e R s m args below meth c H1 locs1 (cells + 1 + MC) (slots + N + MS) Q (F0 m (pc + 7) ls (.ref (f 0) :: rest))) : W p l e R s m args below meth c H locs cells slots Q (F0 m pc ls rest) := by
  refine va_new hx hb htb hc.2.1 ty hc.2.2.1 hown hcl hinst (htb _ hini) hK hP hD hS hA hc.1 hfs (by omega) (by omega) d0 (fun q H1 hP1 hD1 hS1 => ?_)
  refine lv_dup hx hb d1 rfl ?_
  have hF : ∀ x, va_A [(q, .inr (ci, fs))] H1.size x → A x := fun x hx => hx.elim (fun ⟨k9, e9, h9⟩ => by
    have hz : k9 < 1 := (List.getElem?_eq_some_iff.mp h9).1
    rw [show k9 = 0 by omega] at h9
    have hh : (q, Sum.inr (ci, fs)) = (x, e9) := Option.some.inj h9
    have := hD1.2 ws.length (q, .inr (ci, fs)) (by simp)
    have hq : q = x := congrArg Prod.fst hh
    subst hq
    exact this) (fun h9 => hA x (Nat.le_trans hS1.1 h9))
  have hPc : va_P D vwCl [(q, .inr (ci, fs))] H1 := fun k x hx => by
    have hz : k < 1 := (List.getElem?_eq_some_iff.mp hx).1
    rw [show k = 0 by omega] at hx
    have hh : (q, Sum.inr (ci, fs)) = x := Option.some.inj hx
    exact hP1 ws.length x (by rw [← hh]; simp)
  have hDc : va_D (fun _ => True) [(q, (.inr (ci, fs) : va_E))] := ⟨fun i j x y hx hy _ => by
    have h1 : i < 1 := (List.getElem?_eq_some_iff.mp hx).1
    have h2 : j < 1 := (List.getElem?_eq_some_iff.mp hy).1
    omega, fun _ _ _ => trivial⟩
  refine va_callv (va_runIN (host := host) (Ts := zz_TB) (As := []) (rest := .ref q :: rest) ⟨hx, hb, hml, hown, htb⟩ (hct l D cI cR ad H1.size q) ⟨va_cnB 0 htb (zz_goodIn _ (zz_memN hcode)) rfl rfl rfl hlink (by rw [hy]; exact htb _ hini) hd3 ⟨hRf, by show 8 + (nL' + 11) + 36 * F ≤ _; omega⟩, hyn, htb _ hyi⟩ ⟨fun a U g mk q => by obtain ⟨q0, q1, qP, qK, qD, qN, qO, qM⟩ := q; exact ⟨q0, q1, qP, va_K.moved (u := U) (U := U.calling g mk a) (Vm.Alike.refl U.vm) qK, qD, qN.same rfl, qO.to (Vm.Alike.refl U.vm) (fun _ _ _ _ hz => hz.same rfl) (fun _ _ _ => rfl) (fun _ hz => hz), qM.same rfl⟩, fun U hU hW => ⟨rfl, by rw [hU], by rw [hU]; exact hPc, va_K.moved hW.alike hK, hDc, hNe.warm hW, hO.to hW.alike (fun _ _ _ _ hz => hz.warm hW) (fun a h1 h2 => by rw [hU]; exact hS1.2.1 a h1 h2) hF, hN2.warm hW⟩⟩ rfl rfl hl.1 rfl (lv_room (by show 1 + (rest.map fun v => v.category).sum ≤ 8; omega)) d2 ⟨by omega, by omega⟩) hS1 (fun x _ hx => hF x hx) hF (fun u t H2 locs2 ht hvm hw hB hz hk hS2 => ?_)
  obtain ⟨f, h⟩ := u
  obtain ⟨e0, hP2, hD2⟩ := hB
  rw [ht] at hP2
  obtain ⟨hP3, hD3⟩ := zk_join hP1 hD1 hk hF hP2 hD2
  have e0 : f 0 = q := e0
  subst e0
  exact kk f h H2 locs2 hw hP3 hD3 hS2
/-- Arrays.fill over a whole array of the world -/
theorem zk_fill (hx : p.tables.exec = Jvm.exec) (hb : c.code = cc) (hml : c.maxLocals = nL) (htb : ∀ w ∈ zz_TB, w.before args s = true) (hown : s.vm.findClass own = some m.cls) (hK : va_K D vwCl (zz_tys cI cR) s) (hA : ∀ q, s.heap.size ≤ q → A q) (hNe : zz_Ne s) (hO : zz_Out ad A s s.heap) (hl : lv_has ls nL lv) {i : Nat} (hlink : Cond.methodLink own i yJ7_fill_53178 ∈ zz_TB) (v : Int32) (k0 : Nat) {q n : Nat} {f : Nat → Int32} (hw : ws[k0]? = some (q, .inl (cI, n, .inl f))) (hn : n ≤ 1000) (hRf : 1 ≤ R.frames) (hRl : 36 ≤ R.locals) (hcl : cells ≤ R.cells) (hsl : slots ≤ R.slots) (hdg : decode cc pc = .ok (.invokestatic i, 3)) (hP : va_P D vwCl ws H) (hD : va_D A ws) (hS : va_S A s.heap H locs)
    (kk : ∀ (g : Nat → Int32) (H1 : Heap) (locs1 : List Loc), (∀ j, j < n → g j = v) → va_P D vwCl (ws.set k0 (q, .inl (cI, n, .inl g))) H1 → va_D A (ws.set k0 (q, .inl (cI, n, .inl g))) → va_S A s.heap H1 locs1 → W p l e R s m args below meth c H1 locs1 cells slots Q (F0 m (pc + 3) ls [])) : W p l e R s m args below meth c H locs cells slots Q (F0 m pc ls [.int v, .ref q]) := by
  let ad' : Nat → Nat := fun k => if k = 0 then q else ad k
  have hO' : zz_Out ad' A s s.heap := hO.cong (fun k hk => if_neg (by omega))
  have hF : ∀ x, va_A (zz_ws ad' cI cR [.inl n] (fun _ => f)) H.size x → A x := fun x hx => hx.elim (fun ⟨k9, e9, h9⟩ => by
    have hz : k9 < 1 := (List.getElem?_eq_some_iff.mp h9).1
    rw [show k9 = 0 by omega] at h9
    have hh : (q, Sum.inl (cI, n, Sum.inl f)) = (x, e9) := Option.some.inj h9
    have hq : q = x := congrArg Prod.fst hh
    subst hq
    exact hD.2 k0 _ hw) (fun h9 => hA x (Nat.le_trans hS.1 h9))
  have hPc : va_P D vwCl (zz_ws ad' cI cR [.inl n] (fun _ => f)) H := fun k x hx => by
    have hz : k < 1 := (List.getElem?_eq_some_iff.mp hx).1
    rw [show k = 0 by omega] at hx
    have hh : (q, Sum.inl (cI, n, Sum.inl f)) = x := Option.some.inj hx
    exact hP k0 x (by rw [← hh]; exact hw)
  have hDc : va_D (fun _ => True) (zz_ws ad' cI cR [.inl n] (fun _ => f)) := ⟨fun i j x y hx hy _ => by
    have h1 : i < 1 := (List.getElem?_eq_some_iff.mp hx).1
    have h2 : j < 1 := (List.getElem?_eq_some_iff.mp hy).1
    omega, fun _ _ _ => trivial⟩
  refine va_callv (va_runS (As := [.ref q, .int v]) (rest := []) ⟨hx, hb, hml, hown, htb⟩ (ct_fill n hn v (fun _ => f) l D cI cR ad' H.size) (va_cwS 2 htb (zz_goodIn _ (zz_memS zc_yJ7_fill_53178 hlink zt_yJ7_fill_53178 zn_J7)) rfl rfl rfl zy_J7_fill_53178.2.2.2.2 ⟨hRf, by show 8 + (4 + 11) + 36 * 0 ≤ _; omega⟩) ⟨fun a U g mk q => by obtain ⟨q0, q1, qP, qK, qD, qN, qO⟩ := q; exact ⟨q0, q1, qP, va_K.moved (u := U) (U := U.calling g mk a) (Vm.Alike.refl U.vm) qK, qD, qN.same rfl, qO.to (Vm.Alike.refl U.vm) (fun _ _ _ _ hz => hz.same rfl) (fun _ _ _ => rfl) (fun _ hz => hz)⟩, fun U hU hW => ⟨rfl, by rw [hU], by rw [hU]; exact hPc, va_K.moved hW.alike hK, hDc, hNe.warm hW, hO'.to hW.alike (fun _ _ _ _ hz => hz.warm hW) (fun a h1 h2 => by rw [hU]; exact hS.2.1 a h1 h2) hF⟩⟩ rfl rfl hl.1 rfl (lv_room (by decide)) hdg ⟨hcl, hsl⟩) hS (fun x _ hx => hF x hx) hF (fun u t H2 locs2 ht hvm hw2 hB hz hk hS2 => ?_)
  obtain ⟨hP2, hD2⟩ := hB
  rw [ht] at hP2
  have hl0 := (List.getElem?_eq_some_iff.mp hw).1
  have h0 : va_at D vwCl (q, .inl (cI, n, .inl (u 0))) H2 := hP2 0 (q, .inl (cI, n, .inl (u 0))) rfl
  refine kk (u 0) H2 locs2 hw2 (fun k x hx => ?_) (hD.set hw) hS2
  by_cases e0 : k = k0
  · subst e0
    rw [List.getElem?_set_self hl0] at hx
    rw [← Option.some.inj hx]
    exact h0
  · rw [List.getElem?_set_ne (Ne.symm e0)] at hx
    have hx0 := hP k x hx
    refine hx0.kept (hk x.1 hx0.lt (fun h => ?_))
    rcases h with ⟨k2, e2, h2⟩ | h2
    · have hz : k2 < 1 := (List.getElem?_eq_some_iff.mp h2).1
      rw [show k2 = 0 by omega] at h2
      have hh : (q, Sum.inl (cI, n, Sum.inl f)) = (x.1, e2) := Option.some.inj h2
      have hq : q = x.1 := congrArg Prod.fst hh
      exact e0 (hD.1 k k0 x _ hx hw hq.symm)
    · have := hx0.lt
      omega
end ZK
