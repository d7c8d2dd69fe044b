/-! THE CLAIM OUT OF ONE WALK OF THE LAW'S BODY. Your part is whole_start (and what it stands on); all else here is the same for every law, but numbers. -/
def R_law : String := "MarkCurvesLaw"
def lw_P (b : Addr) (xs : List Int32) (args : Array Value) (s : State) : Prop := args = #[.ref b] ∧ s.IntsAt b xs ∧ xs.length ≤ 3072 ∧ (Jvm.Cond.and given_1 narrow_1).before args s = true
def lw_Q (_ : Array Value) (s : State) (o : Outcome) (t : State) : Prop := o = .returned (some (.int 1)) ∧ Framed s o t [] 600000 7302250
def lw_Z (below : List Frame) (a : Array Value) (s : State) : State → Prop := fun t => ∃ o, t.status = .running ∧ Ended t below o ∧ lw_Q a s o t
/-- the law's own end, with 1 on the stack, nothing written that was there before, its room as the claim has it -/
theorem lw_ret {p : Program} {l : Launch} {e : Env} {s : State} {m : MethodId} {below : List Frame} {meth : Method} {c : Code} {b : Nat} (hx : p.tables.exec = Jvm.exec) (hb : c.code = code) (hr : meth.sig.returnType = ret) (hlocks : meth.locks = false) {pc : Nat} {H : Heap} {ls : Array Slot} (hdg : decode code pc = .ok (.ireturn, 1)) : W p l e room_1 s m #[Value.ref b] below meth c H [] 600000 7302250 (lw_Z below #[Value.ref b] s) (F0 m pc ls [.int 1]) := by
  intro T hT X
  obtain ⟨fs, hret, hrun, hended, hW, hframe⟩ := X.leave (v := some (.int 1)) (hlocks := hlocks) (fun h => by rw [hr] at h; cases h)
  have hmeth' : T.vm.method? m = some meth := X.method'
  refine ⟨T.setFrames fs, ?_, .returned (some (.int 1)), hrun, hended, rfl, ⟨_, rfl⟩, hW, hframe⟩
  jvm_step X.here [X.here.top, hx, hb, hdg, hmeth', hr, ret, narrow_b1]
  (try refine ⟨rfl, ?_⟩); (try refine ⟨rfl, ?_⟩)
  first | (intro acts; rw [hret _ acts rfl rfl rfl]) | rw [hret _ _ rfl rfl rfl]
  exact Steps.refl _
/-- what holds at the law's entry: the machine, the code, the tables' words (any of lw_tbl by 'hts w (by decide +kernel)'), the script of L ints xs at the cell b, what the Statement gives of the start (any of its parts by flat_of_before) -/
def lw_At (p : Program) (s : State) (m : MethodId) (meth : Method) (c : Code) (b L : Nat) (xs : Nat → Int32) : Prop :=
  p.tables.exec = Jvm.exec ∧ c.code = code ∧ meth.sig.returnType = ret ∧ c.maxLocals = 4 ∧ s.vm.findClass R_law = some m.cls ∧ (∀ w ∈ lw_tbl, w.before #[Value.ref b] s = true) ∧ va_X b L xs s s.heap ∧ b < s.heap.size ∧ meth.locks = false ∧ (Jvm.Cond.and given_1 narrow_1).before #[Value.ref b] s = true
/-! what the start gives -/
def lw_G : List Cond := flatC (Jvm.Cond.and given_1 narrow_1)
def lw_st : List Nat := [19, 41, 53, 31, 184, 65, 78, 92, 111, 126, 144, 163]
def lw_ne : List Nat := [0, 51, 62, 40, 190, 74, 87, 105, 119, 136, 154, 174, 51, 0, 64, 52, 192, 76, 89, 107, 121, 138, 156, 176, 62, 64, 0, 63, 193, 77, 90, 108, 122, 139, 157, 177, 40, 52, 63, 0, 191, 75, 88, 106, 120, 137, 155, 175, 190, 192, 193, 191, 0, 194, 195, 196, 197, 198, 199, 200, 74, 76, 77, 75, 194, 0, 91, 109, 123, 140, 158, 178, 87, 89, 90, 88, 195, 91, 0, 110, 124, 141, 159, 179, 105, 107, 108, 106, 196, 109, 110, 0, 125, 142, 160, 180, 119, 121, 122, 120, 197, 123, 124, 125, 0, 143, 161, 181, 136, 138, 139, 137, 198, 140, 141, 142, 143, 0, 162, 182, 154, 156, 157, 155, 199, 158, 159, 160, 161, 162, 0, 183, 174, 176, 177, 175, 200, 178, 179, 180, 181, 182, 183, 0]
def lw_sr : List Nat := [617, 680, 685, 678, 707, 696, 697, 698, 699, 700, 701, 702]
abbrev lw_tm (i : Nat) : Term := .string RX3 (zz_ent.getD i 0)
theorem lw_g1 : ∀ i, i < 12 → lw_G[lw_st.getD i 0]? = some (Cond.exactly (lw_tm i) "java/lang/String") ∧ lw_G[lw_st.getD i 0 + 1]? = some (Cond.eq (.field (lw_tm i) "java/lang/String" "coder" "B") (.int 0)) ∧ lw_G[lw_st.getD i 0 + 2]? = some (Cond.arrayOf (.field (lw_tm i) "java/lang/String" "value" "[B") .byte) ∧ lw_G[lw_st.getD i 0 + 3]? = some (Cond.eq (.length (.field (lw_tm i) "java/lang/String" "value" "[B")) (.int (Int32.ofNat (zz_len.getD i 0)))) := by decide +kernel
theorem lw_g2 : ∀ i, i < 12 → ∀ j, j < zz_len.getD i 0 → lw_G[lw_st.getD i 0 + 4 + j]? = some (Cond.eq (.elem (.field (lw_tm i) "java/lang/String" "value" "[B") (.int (Int32.ofNat j))) (.int ((zz_byt.getD i []).getD j 0))) := by decide +kernel
theorem lw_g3 : ∀ i, i < 12 → ∀ j, j < 12 → i ≠ j → lw_G[lw_ne.getD (12 * i + j) 0]? = some (Cond.not (Cond.eq (lw_tm i) (lw_tm j))) ∨ lw_G[lw_ne.getD (12 * i + j) 0]? = some (Cond.not (Cond.eq (lw_tm j) (lw_tm i))) := by decide +kernel
theorem lw_g4 : ∀ j, j < 7 → lw_G[9 + 3 + j]? = some (Cond.eq (.elem (.static "MarkCurves" "OVER" "[I") (.int (Int32.ofNat j))) (.int (zz_over.getD j 0))) := by decide +kernel
theorem lw_g5 : ∀ i, i < 12 → lw_tbl[lw_sr.getD i 0]? = some (Cond.stringRef RX3 (zz_ent.getD i 0) (zz_tx.getD i "")) := by decide +kernel
theorem lw_g6 : ∀ i, i < 12 → zz_len.getD i 0 < 2 ^ 31 := by decide
theorem vk_S.cg {byt : List (List Int32)} {len : List Nat} {N : Nat} {k1 v1 k2 v2 : Nat → Nat} {A : Nat → Prop} {U : State} {H : Heap} (h : vk_S N len byt k1 v1 A U H) (ek : ∀ i, i < N → k2 i = k1 i) (ev : ∀ i, i < N → v2 i = v1 i) : vk_S N len byt k2 v2 A U H :=
  ⟨fun i hi => by rw [ek i hi, ev i hi]; exact h.1 i hi, fun i j hi hj q => h.2 i j hi hj (by rw [← ek i hi, ← ek j hj]; exact q)⟩
theorem lw_out {s : State} {args : Array Value} (hts : ∀ w ∈ lw_tbl, w.before args s = true) (hgv : (Jvm.Cond.and given_1 narrow_1).before args s = true) : ∃ ad : Nat → Nat, zz_Out ad (lw_A s) s s.heap := by
  have hs : ∀ w ∈ lw_G, w.before args s = true := flat_of_before _ hgv
  have hA : ∀ a : Nat, a < s.heap.size → ¬ lw_A s a := fun a h => Nat.not_le.mpr h
  obtain ⟨t, ht, hT⟩ := va_Tof (ty := .int) (N := 7) (f := fun j => .int (zz_over.getD j 0)) (A := lw_A s) (by decide) (hs _ (List.mem_of_getElem? (i := 10) (by decide +kernel))) (va_eqt (hs _ (List.mem_of_getElem? (i := 11) (by decide +kernel)))) (fun j hj => va_eqt (hs _ (List.mem_of_getElem? (lw_g4 j hj)))) hA
  have hZ : va_Z RX4 "OVER" "[I" (.ref t) (lw_A s) s s.heap := va_Zof (hts _ (List.mem_of_getElem? (i := 726) (by decide +kernel))) (hts _ (zz_goodf zn_X4).1) ht hA
  obtain ⟨adK, adV, hV, hE⟩ := vk_Sof (N := 12) (tm := lw_tm) (len := zz_len) (byt := zz_byt) (A := lw_A s) lw_g6 (fun i hi => hs _ (List.mem_of_getElem? (lw_g1 i hi).1)) (fun i hi => hs _ (List.mem_of_getElem? (lw_g1 i hi).2.1)) (fun i hi => hs _ (List.mem_of_getElem? (lw_g1 i hi).2.2.1)) (fun i hi => hs _ (List.mem_of_getElem? (lw_g1 i hi).2.2.2)) (fun i hi j hj => hs _ (List.mem_of_getElem? (lw_g2 i hi j hj))) (fun i j hi hj hn => (lw_g3 i hi j hj hn).elim (fun h => Or.inl (hs _ (List.mem_of_getElem? h))) (fun h => Or.inr (hs _ (List.mem_of_getElem? h)))) hA
  let ad : Nat → Nat := fun k => if k = 2000 then t else if 1100 ≤ k then adV (k - 1100) else adK (k - 1000)
  have e0 : ad 2000 = t := if_pos rfl
  have eK : ∀ i, i < 12 → ad (1000 + i) = adK i := fun i hi => by
    show (if 1000 + i = 2000 then t else if 1100 ≤ 1000 + i then adV (1000 + i - 1100) else adK (1000 + i - 1000)) = _
    rw [if_neg (by omega), if_neg (by omega), show 1000 + i - 1000 = i by omega]
  have eV : ∀ i, i < 12 → ad (1100 + i) = adV i := fun i hi => by
    show (if 1100 + i = 2000 then t else if 1100 ≤ 1100 + i then adV (1100 + i - 1100) else adK (1100 + i - 1000)) = _
    rw [if_neg (by omega), if_pos (by omega), show 1100 + i - 1100 = i by omega]
  refine ⟨ad, by rw [e0]; exact hZ, by rw [e0]; exact hT, hV.cg eK eV, fun i hi => by rw [eK i hi]; exact vk_R.of (hts _ (List.mem_of_getElem? (lw_g5 i hi))) (hE i hi), va_Zof (hts _ (List.mem_of_getElem? (i := 631) (by decide +kernel))) (hts _ (zz_goodf zn_J0).1) (va_eqt (hs _ (List.mem_of_getElem? (i := 4) (by decide +kernel)))) hA, va_Zqof (hts _ (List.mem_of_getElem? (i := 647) (by decide +kernel))) (hts _ (zz_goodf zn_J3).1) (hs _ (List.mem_of_getElem? (i := 5) (by decide +kernel))) hA⟩
theorem lw_Ne {s : State} {args : Array Value} (hts : ∀ w ∈ lw_tbl, w.before args s = true) : zz_Ne s := by
  intro q hq
  rcases List.mem_cons.mp hq with rfl | hq
  · exact va_tabs rfl rfl (hts _ (List.mem_of_getElem? (i := 259) (by decide +kernel)))
  · cases hq
theorem lw_Ne2 {s : State} {args : Array Value} (hts : ∀ w ∈ lw_tbl, w.before args s = true) : zk_Ne s := by
  refine ⟨fun q hq => ?_, va_AO.of (hts _ (List.mem_of_getElem? (i := 190) (by decide +kernel)))⟩
  rcases List.mem_cons.mp hq with rfl | hq
  · exact va_tabs rfl rfl (hts _ (List.mem_of_getElem? (i := 130) (by decide +kernel)))
  rcases List.mem_cons.mp hq with rfl | hq
  · exact va_tabs rfl rfl (hts _ (List.mem_of_getElem? (i := 165) (by decide +kernel)))
  rcases List.mem_cons.mp hq with rfl | hq
  · exact va_tabs rfl rfl (hts _ (List.mem_of_getElem? (i := 192) (by decide +kernel)))
  · cases hq
theorem lw_K {s : State} {args : Array Value} (hts : ∀ w ∈ lw_tbl, w.before args s = true) : ∃ (D : va_G) (cI cR : ClassId), va_K D vwCl (zz_tys cI cR) s := by
  have htb : ∀ w ∈ zz_TB, w.before args s = true := fun w hw => hts w (zz_goodf hw).1

  obtain ⟨c0, i0, h0⟩ := u_known (C := RX0) (T := TX0) (N := 10) (n := 10) htb zz_inX0 (hts _ (List.mem_of_getElem? (i := 71) (by decide +kernel)))
  obtain ⟨c1, i1, h1⟩ := u_known (C := RX1) (T := TX1) (N := 8) (n := 8) htb zz_inX1 (hts _ (List.mem_of_getElem? (i := 129) (by decide +kernel)))
  obtain ⟨c2, i2, h2⟩ := u_known (C := RX2) (T := TX2) (N := 3) (n := 3) htb zz_inX2 (hts _ (List.mem_of_getElem? (i := 191) (by decide +kernel)))
  obtain ⟨c3, i3, h3⟩ := u_known (C := RX3) (T := TX3) (N := 6) (n := 6) htb zz_inX3 (hts _ (List.mem_of_getElem? (i := 164) (by decide +kernel)))
  obtain ⟨c4, i4, h4⟩ := u_known (C := RX4) (T := TX4) (N := 10) (n := 10) htb zz_inX4 (hts _ (List.mem_of_getElem? (i := 63) (by decide +kernel)))
  obtain ⟨c5, i5, h5⟩ := u_known (C := RX5) (T := TX5) (N := 16) (n := 16) htb zz_inX5 (hts _ (List.mem_of_getElem? (i := 802) (by decide +kernel)))
  obtain ⟨cI, kI, pI, hI1, hI2, hI3⟩ := Cond.arrayClass_spec (htb _ zA_int)
  obtain ⟨pR, cR, kR, hR1, -, hR2, hR3, hR4⟩ := Cond.arrayOver_spec (n := "MarkCurves$Sheet") (hts _ (List.mem_of_getElem? (i := 190) (by decide +kernel)))
  refine ⟨(fun k => [c0, c1, c2, c3, c4, c5].getD k c0, fun k => [i0, i1, i2, i3, i4, i5].getD k i0), cI, cR, fun k q hq => ?_, fun k q hq => ?_⟩
  · match k, hq with
    | 0, hq => cases hq; exact h0
    | 1, hq => cases hq; exact h1
    | 2, hq => cases hq; exact h2
    | 3, hq => cases hq; exact h3
    | 4, hq => cases hq; exact h4
    | 5, hq => cases hq; exact h5
    | k + 6, hq => simp [vwCl] at hq
  · match k, hq with
    | 0, hq => cases hq; exact ⟨fun n z => ⟨fun k h => (by cases h), kI, hI2, pI, hI3⟩, hI1⟩
    | 1, hq => cases hq; exact ⟨fun n z => ⟨fun k h => (by cases h), kR, hR2, pR, hR3⟩, kR, pR, hR2, hR3, hR1, hR4⟩
    | k + 2, hq => simp [zz_tys] at hq
theorem lw_rel {f g : Nat → Nat} {hc hm : zz_H} (h1 : pkC (f, hc)) (h2 : pkM (g, hm)) : Rel hc hm := by
  obtain ⟨a0, a1, a2, a3, a4, a5, a6, a7, a8, a9⟩ := h1
  obtain ⟨b0, b1, b2, b3, b4, b5, b6, b7, b8, b9, b10⟩ := h2
  dsimp only at a0 a1 a2 a3 a4 a5 a6 a7 a8 a9 b0 b1 b2 b3 b4 b5 b6 b7 b8 b9 b10
  refine ⟨⟨0, 0, ⟨b4, by decide, b5, by decide, fun q hq => ?_, fun q hq => ?_, fun p hp => absurd hp (by omega), fun p q k hp => absurd hp (by omega), fun k hk => absurd hk (by omega), fun k hk => ?_⟩, ⟨a1, a2, ?_, fun q hq => ?_, fun q hq => ?_, fun p hp => absurd hp (by omega), fun p q k hp => absurd hp (by omega), fun k hk => absurd hk (by omega), fun k hk => ?_⟩⟩, Or.inl ⟨a0, b0⟩, fun k hk => ?_, ⟨0, by decide, a8, b1, fun i hi => absurd hi (by omega)⟩, fun k hk => ?_⟩
  · rw [(b2 q hq).1]; exact ⟨by decide, by decide⟩
  · rw [(b2 q hq).2]; exact ⟨by decide, by decide⟩
  · rw [b6 k hk]; exact ⟨by decide, by decide⟩
  · rw [a3, b3]
  · rw [(b2 q hq).1]; exact a4 q hq
  · rw [(b2 q hq).2]; exact a5 q hq
  · rw [b6 k hk]; exact a6 k hk
  · rw [a7, b7]
  · obtain ⟨c1, c2, c3⟩ := a9 k hk
    refine ⟨by rw [c1, b8], Or.inl (b8 k), ⟨0, by decide, by rw [c2]; rfl, by rw [b9]; rfl⟩, fun i _ => by rw [c3, b10]⟩
section ZL3
variable {p : Program} {l : Launch} {e : Env} {s : State} {m : MethodId} {below : List Frame} {meth : Method} {c : Code} {cells slots : Nat} {b L : Nat} {xs : Nat → Int32}
variable {D : va_G} {cI cR : ClassId} {ad1 ad2 : Nat → Nat}
theorem lw_switch (S : lw_S p s m c b L xs D cI cR ad1 ad2) (hL : L ≤ 3072) {i : Nat} (hi : i + 6 ≤ L) (hcl : cells ≤ 600000) (hsl : slots ≤ 7302250) {Q : State → Prop} {hc hm : zz_H} {H : Heap} {locs : List Loc} {ls : Array Slot} (hR : Rel hc hm) (I : lw_I s D cI cR ad1 ad2 hc hm H locs) (hl : lv_has ls 4 [(0, .ref b), (1, .ref (ad1 0)), (2, .ref (ad2 0)), (3, .int (nI i))]) (kk : ∀ (hc' hm' : zz_H) (H1 : Heap) (locs1 : List Loc), Rel hc' hm' → lw_I s D cI cR ad1 ad2 hc' hm' H1 locs1 → W p l e room_1 s m #[Value.ref b] below meth c H1 locs1 cells slots Q (F0 m 1688 ls [])) : ∀ j, j < 64 → W p l e room_1 s m #[Value.ref b] below meth c H locs cells slots Q (F0 m 33 ls [.int (nI j)])
  | 0, _ => lv_tableIn (tgt := 248) S.1 S.2.1 dL_33 (by decide) (by decide) (off := 215) (by decide) (by decide) (law_c0 S hL hi hcl hsl hR I hl kk)
  | 1, _ => lv_tableIn (tgt := 281) S.1 S.2.1 dL_33 (by decide) (by decide) (off := 248) (by decide) (by decide) (law_c1 S hL hi hcl hsl hR I hl kk)
  | 2, _ => lv_tableIn (tgt := 314) S.1 S.2.1 dL_33 (by decide) (by decide) (off := 281) (by decide) (by decide) (law_c2 S hL hi hcl hsl hR I hl kk)
  | 3, _ => lv_tableIn (tgt := 337) S.1 S.2.1 dL_33 (by decide) (by decide) (off := 304) (by decide) (by decide) (law_c3 S hL hi hcl hsl hR I hl kk)
  | 4, _ => lv_tableIn (tgt := 390) S.1 S.2.1 dL_33 (by decide) (by decide) (off := 357) (by decide) (by decide) (law_c4 S hL hi hcl hsl hR I hl kk)
  | 5, _ => lv_tableIn (tgt := 423) S.1 S.2.1 dL_33 (by decide) (by decide) (off := 390) (by decide) (by decide) (law_c5 S hL hi hcl hsl hR I hl kk)
  | 6, _ => lv_tableIn (tgt := 446) S.1 S.2.1 dL_33 (by decide) (by decide) (off := 413) (by decide) (by decide) (law_c6 S hL hi hcl hsl hR I hl kk)
  | 7, _ => lv_tableIn (tgt := 479) S.1 S.2.1 dL_33 (by decide) (by decide) (off := 446) (by decide) (by decide) (law_c7 S hL hi hcl hsl hR I hl kk)
  | 8, _ => lv_tableIn (tgt := 492) S.1 S.2.1 dL_33 (by decide) (by decide) (off := 459) (by decide) (by decide) (law_c8 S hL hi hcl hsl hR I hl kk)
  | 9, _ => lv_tableIn (tgt := 525) S.1 S.2.1 dL_33 (by decide) (by decide) (off := 492) (by decide) (by decide) (law_c9 S hL hi hcl hsl hR I hl kk)
  | 10, _ => lv_tableIn (tgt := 558) S.1 S.2.1 dL_33 (by decide) (by decide) (off := 525) (by decide) (by decide) (law_c10 S hL hi hcl hsl hR I hl kk)
  | 11, _ => lv_tableIn (tgt := 591) S.1 S.2.1 dL_33 (by decide) (by decide) (off := 558) (by decide) (by decide) (law_c11 S hL hi hcl hsl hR I hl kk)
  | 12, _ => lv_tableIn (tgt := 624) S.1 S.2.1 dL_33 (by decide) (by decide) (off := 591) (by decide) (by decide) (law_c12 S hL hi hcl hsl hR I hl kk)
  | 13, _ => lv_tableIn (tgt := 657) S.1 S.2.1 dL_33 (by decide) (by decide) (off := 624) (by decide) (by decide) (law_c13 S hL hi hcl hsl hR I hl kk)
  | 14, _ => lv_tableIn (tgt := 690) S.1 S.2.1 dL_33 (by decide) (by decide) (off := 657) (by decide) (by decide) (law_c14 S hL hi hcl hsl hR I hl kk)
  | 15, _ => lv_tableIn (tgt := 723) S.1 S.2.1 dL_33 (by decide) (by decide) (off := 690) (by decide) (by decide) (law_c15 S hL hi hcl hsl hR I hl kk)
  | 16, _ => lv_tableIn (tgt := 746) S.1 S.2.1 dL_33 (by decide) (by decide) (off := 713) (by decide) (by decide) (law_c16 S hL hi hcl hsl hR I hl kk)
  | 17, _ => lv_tableIn (tgt := 769) S.1 S.2.1 dL_33 (by decide) (by decide) (off := 736) (by decide) (by decide) (law_c17 S hL hi hcl hsl hR I hl kk)
  | 18, _ => lv_tableIn (tgt := 792) S.1 S.2.1 dL_33 (by decide) (by decide) (off := 759) (by decide) (by decide) (law_c18 S hL hi hcl hsl hR I hl kk)
  | 19, _ => lv_tableIn (tgt := 815) S.1 S.2.1 dL_33 (by decide) (by decide) (off := 782) (by decide) (by decide) (law_c19 S hL hi hcl hsl hR I hl kk)
  | 20, _ => lv_tableIn (tgt := 838) S.1 S.2.1 dL_33 (by decide) (by decide) (off := 805) (by decide) (by decide) (law_c20 S hL hi hcl hsl hR I hl kk)
  | 21, _ => lv_tableIn (tgt := 871) S.1 S.2.1 dL_33 (by decide) (by decide) (off := 838) (by decide) (by decide) (law_c21 S hL hi hcl hsl hR I hl kk)
  | 22, _ => lv_tableIn (tgt := 904) S.1 S.2.1 dL_33 (by decide) (by decide) (off := 871) (by decide) (by decide) (law_c22 S hL hi hcl hsl hR I hl kk)
  | 23, _ => lv_tableIn (tgt := 937) S.1 S.2.1 dL_33 (by decide) (by decide) (off := 904) (by decide) (by decide) (law_c23 S hL hi hcl hsl hR I hl kk)
  | 24, _ => lv_tableIn (tgt := 970) S.1 S.2.1 dL_33 (by decide) (by decide) (off := 937) (by decide) (by decide) (law_c24 S hL hi hcl hsl hR I hl kk)
  | 25, _ => lv_tableIn (tgt := 1003) S.1 S.2.1 dL_33 (by decide) (by decide) (off := 970) (by decide) (by decide) (law_c25 S hL hi hcl hsl hR I hl kk)
  | 26, _ => lv_tableIn (tgt := 1036) S.1 S.2.1 dL_33 (by decide) (by decide) (off := 1003) (by decide) (by decide) (law_c26 S hL hi hcl hsl hR I hl kk)
  | 27, _ => lv_tableIn (tgt := 1059) S.1 S.2.1 dL_33 (by decide) (by decide) (off := 1026) (by decide) (by decide) (law_c27 S hL hi hcl hsl hR I hl kk)
  | 28, _ => lv_tableIn (tgt := 1092) S.1 S.2.1 dL_33 (by decide) (by decide) (off := 1059) (by decide) (by decide) (law_c28 S hL hi hcl hsl hR I hl kk)
  | 29, _ => lv_tableIn (tgt := 1135) S.1 S.2.1 dL_33 (by decide) (by decide) (off := 1102) (by decide) (by decide) (law_c29 S hL hi hcl hsl hR I hl kk)
  | 30, _ => lv_tableIn (tgt := 1148) S.1 S.2.1 dL_33 (by decide) (by decide) (off := 1115) (by decide) (by decide) (law_c30 S hL hi hcl hsl hR I hl kk)
  | 31, _ => lv_tableIn (tgt := 1171) S.1 S.2.1 dL_33 (by decide) (by decide) (off := 1138) (by decide) (by decide) (law_c31 S hL hi hcl hsl hR I hl kk)
  | 32, _ => lv_tableIn (tgt := 1194) S.1 S.2.1 dL_33 (by decide) (by decide) (off := 1161) (by decide) (by decide) (law_c32 S hL hi hcl hsl hR I hl kk)
  | 33, _ => lv_tableIn (tgt := 1217) S.1 S.2.1 dL_33 (by decide) (by decide) (off := 1184) (by decide) (by decide) (law_c33 S hL hi hcl hsl hR I hl kk)
  | 34, _ => lv_tableIn (tgt := 1230) S.1 S.2.1 dL_33 (by decide) (by decide) (off := 1197) (by decide) (by decide) (law_c34 S hL hi hcl hsl hR I hl kk)
  | 35, _ => lv_tableIn (tgt := 1253) S.1 S.2.1 dL_33 (by decide) (by decide) (off := 1220) (by decide) (by decide) (law_c35 S hL hi hcl hsl hR I hl kk)
  | 36, _ => lv_tableIn (tgt := 1286) S.1 S.2.1 dL_33 (by decide) (by decide) (off := 1253) (by decide) (by decide) (law_c36 S hL hi hcl hsl hR I hl kk)
  | 37, _ => lv_tableIn (tgt := 1299) S.1 S.2.1 dL_33 (by decide) (by decide) (off := 1266) (by decide) (by decide) (law_c37 S hL hi hcl hsl hR I hl kk)
  | 38, _ => lv_tableIn (tgt := 1312) S.1 S.2.1 dL_33 (by decide) (by decide) (off := 1279) (by decide) (by decide) (law_c38 S hL hi hcl hsl hR I hl kk)
  | 39, _ => lv_tableIn (tgt := 1345) S.1 S.2.1 dL_33 (by decide) (by decide) (off := 1312) (by decide) (by decide) (law_c39 S hL hi hcl hsl hR I hl kk)
  | 40, _ => lv_tableIn (tgt := 1378) S.1 S.2.1 dL_33 (by decide) (by decide) (off := 1345) (by decide) (by decide) (law_c40 S hL hi hcl hsl hR I hl kk)
  | 41, _ => lv_tableIn (tgt := 1421) S.1 S.2.1 dL_33 (by decide) (by decide) (off := 1388) (by decide) (by decide) (law_c41 S hL hi hcl hsl hR I hl kk)
  | 42, _ => lv_tableIn (tgt := 1464) S.1 S.2.1 dL_33 (by decide) (by decide) (off := 1431) (by decide) (by decide) (law_c42 S hL hi hcl hsl hR I hl kk)
  | 43, _ => lv_tableIn (tgt := 1527) S.1 S.2.1 dL_33 (by decide) (by decide) (off := 1494) (by decide) (by decide) (law_c43 S hL hi hcl hsl hR I hl kk)
  | 44, _ => lv_tableIn (tgt := 1570) S.1 S.2.1 dL_33 (by decide) (by decide) (off := 1537) (by decide) (by decide) (law_c44 S hL hi hcl hsl hR I hl kk)
  | 45, _ => lv_tableIn (tgt := 1603) S.1 S.2.1 dL_33 (by decide) (by decide) (off := 1570) (by decide) (by decide) (law_c45 S hL hi hcl hsl hR I hl kk)
  | 46, _ => lv_tableIn (tgt := 1616) S.1 S.2.1 dL_33 (by decide) (by decide) (off := 1583) (by decide) (by decide) (law_c46 S hL hi hcl hsl hR I hl kk)
  | 47, _ => lv_tableIn (tgt := 1629) S.1 S.2.1 dL_33 (by decide) (by decide) (off := 1596) (by decide) (by decide) (law_c47 S hL hi hcl hsl hR I hl kk)
  | 48, _ => lv_tableIn (tgt := 1642) S.1 S.2.1 dL_33 (by decide) (by decide) (off := 1609) (by decide) (by decide) (law_c48 S hL hi hcl hsl hR I hl kk)
  | 49, _ => lv_tableIn (tgt := 1665) S.1 S.2.1 dL_33 (by decide) (by decide) (off := 1632) (by decide) (by decide) (law_c49 S hL hi hcl hsl hR I hl kk)
  | j + 50, hj => lv_tableOut (tgt := 1688) S.1 S.2.1 dL_33 (Or.inr (by rw [nI_toInt (by omega)]; omega)) (by decide) (kk hc hm H locs hR I)
theorem law_loop (S : lw_S p s m c b L xs D cI cR ad1 ad2) (hL : L ≤ 3072) (hr : meth.sig.returnType = ret) (hlk : meth.locks = false) (hcl : cells ≤ 600000) (hsl : slots ≤ 7302250) : ∀ (n i : Nat) (hc hm : zz_H) (H : Heap) (locs : List Loc) (ls : Array Slot), L + 6 < i + n → i ≤ L + 6 → Rel hc hm → lw_I s D cI cR ad1 ad2 hc hm H locs → lv_has ls 4 [(0, .ref b), (1, .ref (ad1 0)), (2, .ref (ad2 0)), (3, .int (nI i))] → W p l e room_1 s m #[Value.ref b] below meth c H locs cells slots (lw_Z below #[Value.ref b] s) (F0 m 18 ls []) := by
  intro n
  induction n with
  | zero => intro i hc hm H locs ls h1 h2; omega
  | succ n ih =>
    intro i hc hm H locs ls h1 h2 hR I hl
    obtain ⟨hx, hb, hml, hown, htb, hX, hbl, hK, hNe, hO1, hO2, hap⟩ := id S
    have hS := I.2.2.2.2
    refine lv_iload_n hx hb dL_18 rfl (lv_at hl 3 rfl) ?_
    refine lv_aload_n hx hb dL_19 rfl (lv_at hl 0 rfl) ?_
    refine va_slen hx hb hX hbl (Nat.not_le.mpr hbl) hS dL_20 ?_
    refine lv_bipush (v := 6) hx hb dL_21 (by decide) ?_
    refine lv_isub hx hb dL_23 ?_
    refine lv_icmp_gt (tgt := 1694) hx hb dL_24 (by decide) (fun w => ?_) (fun w => ?_)
    · refine lv_iconst (v := 1) hx hb dL_1694 (by decide) ?_
      refine va_forget hS.2.2 ?_
      exact W.widen (k := 600000) (n := 7302250) hcl hsl (lw_ret hx hb hr hlk dL_1695)
    · have hi : i + 6 ≤ L := Nat.not_lt.mp (fun q => w ((lw_left hL (by omega)).mpr q))
      refine zL_arg0 S hS hl hL (by omega) dL_27 dL_28 dL_29 ?_
      refine lv_bipush (v := 63) hx hb dL_30 (by decide) ?_
      refine lv_iand hx hb dL_32 ?_
      obtain ⟨j, hj, ej⟩ := pk_andE (xs i) (m := 63) 6 (by decide)
      rw [ej]
      refine lw_switch S hL hi hcl hsl hR I hl (fun hc' hm' H1 locs1 hR1 I1 => ?_) j hj
      refine lv_iinc (v := nI (i + 6)) (lv' := [(3, .int (nI (i + 6))), (0, .ref b), (1, .ref (ad1 0)), (2, .ref (ad2 0))]) hx hb dL_1688 hl (k := 3) rfl (by rw [show Int32.ofInt 6 = nI 6 by decide, nI_add]) (by decide) rfl (fun ls hl => ?_)
      refine lv_goto (tgt := 18) hx hb dL_1691 (by decide) ?_
      exact ih (i + 6) hc' hm' H1 locs1 ls (by omega) (by omega) hR1 I1 (lv_sub hl [1, 2, 3, 0] rfl)
end ZL3
theorem lw_lenC : zz_C.length = 43 := by decide
theorem lw_lenM : zz_M.length = 11 := by decide
theorem zk_split {D : va_G} {A : Nat → Prop} {w1 w2 : va_W} {H : Heap} (hP : va_P D vwCl (w1 ++ w2) H) (hD : va_D A (w1 ++ w2)) : (va_P D vwCl w1 H ∧ va_D A w1) ∧ (va_P D vwCl w2 H ∧ va_D A w2) ∧ ∀ (i j : Nat) (x y : Nat × va_E), w1[i]? = some x → w2[j]? = some y → x.1 ≠ y.1 := by
  have u1 : ∀ (i : Nat) (x : Nat × va_E), w1[i]? = some x → (w1 ++ w2)[i]? = some x := fun i x hx => by rw [List.getElem?_append_left (List.getElem?_eq_some_iff.mp hx).1]; exact hx
  have u2 : ∀ (i : Nat) (x : Nat × va_E), w2[i]? = some x → (w1 ++ w2)[w1.length + i]? = some x := fun i x hx => by rw [List.getElem?_append_right (by omega), show w1.length + i - w1.length = i by omega]; exact hx
  refine ⟨⟨fun i x hx => hP i x (u1 i x hx), fun i j x y hx hy => hD.1 i j x y (u1 i x hx) (u1 j y hy), fun i x hx => hD.2 i x (u1 i x hx)⟩, ⟨fun i x hx => hP _ x (u2 i x hx), fun i j x y hx hy q => by have := hD.1 _ _ x y (u2 i x hx) (u2 j y hy) q; omega, fun i x hx => hD.2 _ x (u2 i x hx)⟩, fun i j x y hx hy q => ?_⟩
  have h1 := hD.1 _ _ x y (u1 i x hx) (u2 j y hy) q
  have h2 := (List.getElem?_eq_some_iff.mp hx).1
  omega
def zk_lt (n : Nat) (c : zz_SC) : Bool := match c with
  | .inl _ => true
  | .inr (.inl l) => l.all (fun x => decide (x < n))
  | .inr (.inr (_, fs)) => fs.all (fun o => match o with
    | some x => decide (x < n)
    | none => true)
theorem zz_ws_cg {f ad : Nat → Nat} {cI cR : ClassId} {h : zz_H} {sh : List zz_SC} {n : Nat} (hn : sh.length ≤ n) (hs : sh.all (zk_lt n) = true) (e : ∀ k, k < n → ad k = f k) : zz_ws ad cI cR sh h = zz_ws f cI cR sh h := by
  apply List.ext_getElem?
  intro k
  unfold zz_ws
  rw [List.getElem?_mapIdx, List.getElem?_mapIdx]
  cases hk : sh[k]? with
  | none => rfl
  | some c =>
    have hl := (List.getElem?_eq_some_iff.mp hk).1
    have hc := List.all_eq_true.mp hs c (List.mem_of_getElem? hk)
    show some (ad k, zz_cell ad cI cR h k c) = some (f k, zz_cell f cI cR h k c)
    rw [e k (by omega)]
    congr 2
    rcases c with w | q | ⟨ci, fs⟩
    · rfl
    · show Sum.inl (cR, q.length, Sum.inr (Sum.inr (Sum.inr (Sum.inr (fun i => (q[i]?).map ad))))) = Sum.inl (cR, q.length, Sum.inr (Sum.inr (Sum.inr (Sum.inr (fun i => (q[i]?).map f)))))
      have e2 : (fun i : Nat => (q[i]?).map ad) = fun i : Nat => (q[i]?).map f := by
        funext i
        cases hi : q[i]? with
        | none => rfl
        | some x =>
          have := of_decide_eq_true (List.all_eq_true.mp hc x (List.mem_of_getElem? hi))
          show some (ad x) = some (f x)
          rw [e x this]
      rw [e2]
    · show Sum.inr (ci, fs.mapIdx (zz_f ad (h k))) = Sum.inr (ci, fs.mapIdx (zz_f f (h k)))
      have e2 : fs.mapIdx (zz_f ad (h k)) = fs.mapIdx (zz_f f (h k)) := by
        apply List.ext_getElem?
        intro j
        rw [List.getElem?_mapIdx, List.getElem?_mapIdx]
        cases hj : fs[j]? with
        | none => rfl
        | some o =>
          cases o with
          | none => rfl
          | some x =>
            have := of_decide_eq_true (List.all_eq_true.mp hc (some x) (List.mem_of_getElem? hj))
            show some (Value.ref (ad x)) = some (Value.ref (f x))
            rw [e x this]
      rw [e2]
theorem zz_ws_cgC {f ad : Nat → Nat} {cI cR : ClassId} {h : zz_H} : zz_ws (fun k => if k < 43 then f k else ad k) cI cR zz_C h = zz_ws f cI cR zz_C h := zz_ws_cg (n := 43) (by decide) (by decide) (fun k hk => if_pos hk)
theorem zz_ws_cgM {f ad : Nat → Nat} {cI cR : ClassId} {h : zz_H} : zz_ws (fun k => if k < 43 then f k else ad k) cI cR zz_M h = zz_ws f cI cR zz_M h := zz_ws_cg (n := 43) (by decide) (by decide) (fun k hk => if_pos hk)
