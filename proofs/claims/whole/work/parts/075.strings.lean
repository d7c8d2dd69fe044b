/-! String.length and charAt over the constants of the class -/
def zz_pv (h : zz_H) (P : Int32 → Prop) : Int32 → zz_H → Prop := fun r h' => h' = h ∧ P r
section ZS
variable {sh : List zz_SC} {d : Nat} {cc : ByteArray} {own : String} {nL : Nat} {ret : Option FieldType} {post : Int32 → zz_H → Prop} {pc : Nat} {st L : List Value} {h : zz_H}
theorem zr_compact {i : Nat} (hw : Cond.fieldLink own i RJ0 "COMPACT_STRINGS" "Z" ∈ zz_TB) (hd : decode cc pc = .ok (.getstatic i, 3)) (kk : zz_Go sh d cc own nL ret post (pc + 3) (.int 1 :: st) L h) : zz_Go sh d cc own nL ret post pc st L h := by
  intro p l e R s m args below meth c H locs D cI cR ad A ls X hP hD hS hL
  obtain ⟨hx, hb, hr, hml, hown, hlk, hts, hfr, hlo, hA, hK, hN, hO⟩ := id X
  exact va_gets hx hb hO.2.2.2.2.1 hS hown (hts _ hw) (fun _ h9 => h9) hd (kk p l e R s m args below meth c H locs D cI cR ad A ls X hP hD hS hL)
theorem zr_scoder (j : Nat) (hj : j < 12) {i : Nat} (hw : Cond.fieldLink own i RJ0 "coder" "B" ∈ zz_TB) (hd : decode cc pc = .ok (.getfield i, 3)) (kk : zz_Go sh d cc own nL ret post (pc + 3) (.int 0 :: st) L h) : zz_Go sh d cc own nL ret post pc (.ref (1000 + j) :: st) L h := by
  intro p l e R s m args below meth c H locs D cI cR ad A ls X hP hD hS hL
  obtain ⟨hx, hb, hr, hml, hown, hlk, hts, hfr, hlo, hA, hK, hN, hO⟩ := id X
  exact vk_getf hx hb (hO.2.2.1.1 j hj).2.1 hS hown (hts _ hw) (fun _ h9 => h9) hd (kk p l e R s m args below meth c H locs D cI cR ad A ls X hP hD hS hL)
theorem zr_svalue (j : Nat) (hj : j < 12) {i : Nat} (hw : Cond.fieldLink own i RJ0 "value" "[B" ∈ zz_TB) (hd : decode cc pc = .ok (.getfield i, 3)) (kk : zz_Go sh d cc own nL ret post (pc + 3) (.ref (1100 + j) :: st) L h) : zz_Go sh d cc own nL ret post pc (.ref (1000 + j) :: st) L h := by
  intro p l e R s m args below meth c H locs D cI cR ad A ls X hP hD hS hL
  obtain ⟨hx, hb, hr, hml, hown, hlk, hts, hfr, hlo, hA, hK, hN, hO⟩ := id X
  exact vk_getf hx hb (hO.2.2.1.1 j hj).2.2.1 hS hown (hts _ hw) (fun _ h9 => h9) hd (kk p l e R s m args below meth c H locs D cI cR ad A ls X hP hD hS hL)
theorem zr_tlen (j : Nat) (hj : j < 12) (hd : decode cc pc = .ok (.arraylength, 1)) (kk : zz_Go sh d cc own nL ret post (pc + 1) (.int (nI (zz_len.getD j 0)) :: st) L h) : zz_Go sh d cc own nL ret post pc (.ref (1100 + j) :: st) L h := by
  intro p l e R s m args below meth c H locs D cI cR ad A ls X hP hD hS hL
  obtain ⟨hx, hb, hr, hml, hown, hlk, hts, hfr, hlo, hA, hK, hN, hO⟩ := id X
  exact va_tlen hx hb (hO.2.2.1.1 j hj).2.2.2 hS rfl hd (kk p l e R s m args below meth c H locs D cI cR ad A ls X hP hD hS hL)
theorem zr_tbyte (j : Nat) (hj : j < 12) {i : Int32} (hi : vp_in i (zz_len.getD j 0)) (hd : decode cc pc = .ok (.baload, 1)) (kk : zz_Go sh d cc own nL ret post (pc + 1) (.int ((zz_byt.getD j []).getD i.toNatClampNeg 0) :: st) L h) : zz_Go sh d cc own nL ret post pc (.int i :: .ref (1100 + j) :: st) L h := by
  intro p l e R s m args below meth c H locs D cI cR ad A ls X hP hD hS hL
  obtain ⟨hx, hb, hr, hml, hown, hlk, hts, hfr, hlo, hA, hK, hN, hO⟩ := id X
  exact va_tb hx hb (hO.2.2.1.1 j hj).2.2.2 hS hi rfl hd (kk p l e R s m args below meth c H locs D cI cR ad A ls X hP hD hS hL)
/-- a call on a constant -/
theorem zr_callJ (j : Nat) (hj : j < 12) {ty : FieldType} {d' nL' n : Nat} {y : MethodName} {cc' : ByteArray} {P : Int32 → Prop} {As : List Value} (hct : zz_Ct sh d' y cc' nL' (some ty) (.ref (1000 + j) :: As) h (zz_pv h P)) (hy : zz_yV y cc' nL' (some ty) RJ0 n) {i : Nat} (hl : Cond.methodLink own i y ∈ zz_TB) (hd' : d' + 1 ≤ d) (hn : As.length = n) {st' : List Value} (hstk : st' = As.reverse ++ .ref (1000 + j) :: st) (hst : (st.map fun v => v.category).sum ≤ 8) (hd : decode cc pc = .ok (.invokevirtual i, 3)) (kk : ∀ r : Int32, P r → zz_Go sh d cc own nL ret post (pc + 3) (.int r :: st) L h) : zz_Go sh d cc own nL ret post pc st' L h := by
  intro p l e R s m args below meth c H locs D cI cR ad A ls X hP hD hS hL
  obtain ⟨hx, hb, hr, hml, hown, hlk, hts, hfr, hlo, hA, hK, hN, hO⟩ := id X
  have hF : ∀ q, va_A (zz_ws ad cI cR sh h) H.size q → A q := fun q hq => hq.elim (fun ⟨k9, e9, h9⟩ => hD.2 k9 (q, e9) h9) (fun h9 => hA q (Nat.le_trans hS.1 h9))
  have hrec : ∃ cell : Cell, H[ad (1000 + j)]? = some cell ∧ cell.vm.isStatics = false ∧ s.vm.findClass RJ0 = some cell.cls := vk_recv (adK := fun i => ad (1000 + i)) hO.2.2.1 hj hS
  refine va_calli (va_runV (As := As.map (zz_v ad)) (rest := st.map (zz_v ad)) ⟨hx, hb, hml, hown, hts⟩ (hct l D cI cR ad H.size) (cwV n hts (zz_goodIn _ (zz_memV hy.1 hl hy.2.1 hy.2.2.1 hy.2.2.2.1)) rfl rfl rfl hy.2.2.2.2.2 ⟨Nat.le_trans hd' hfr, zz_loc hd' hy.2.2.2.2.1 hlo⟩) ⟨fun a U g mk q => by obtain ⟨q0, q1, qP, qK, qD, qN, qO⟩ := q; exact ⟨q0, q1, qP, va_K.moved (u := U) (U := U.calling g mk a) (Vm.Alike.refl U.vm) qK, qD, qN.same rfl, qO.to (Vm.Alike.refl U.vm) (fun _ _ _ _ hz => hz.same rfl) (fun _ _ _ => rfl) (fun _ hz => hz)⟩, hrec, fun U hU hW => ⟨rfl, by rw [hU], by rw [hU]; exact hP, va_K.moved hW.alike hK, hD.weaken (fun _ _ _ _ => trivial), hN.warm hW, hO.to hW.alike (fun _ _ _ _ hz => hz.warm hW) (fun a h1 h2 => by rw [hU]; exact hS.2.1 a h1 h2) hF⟩⟩ rfl (by rw [List.length_map]; exact hn) hL.1 (by rw [← List.map_reverse]; show (st'.map (zz_v ad)) = _; rw [hstk, List.map_append]; rfl) (lv_room (by rw [zz_catS]; exact hst)) hd ⟨Nat.zero_le _, Nat.zero_le _⟩) hS (fun q _ hq => hF q hq) hF (fun r u t H1 locs1 ht hvm hw hB hz hk hS1 => ?_)
  obtain ⟨hP1, hD1⟩ := hB
  rw [ht] at hP1
  obtain ⟨rfl, hw⟩ := hw
  exact kk r hw p l e R s m args below meth c H1 locs1 D cI cR ad A ls X hP1 (hD1.weaken (fun _ q _ hq => hF q.1 hq)) hS1 hL
/-- a contract whose arguments are given as they are -/
theorem zz_ctR {y : MethodName} {avr : List Value} (hy : plainName y.cls = true) (hn : (lg_sl avr).length ≤ nL) (hL : ∀ ad : Nat → Nat, ∀ q ∈ zz_pl ad 0 L, q ∈ lv_args 0 avr) (g : zz_Go sh d cc y.cls nL ret post 0 [] L h) (l : Launch) (D : va_G) (cI cR : ClassId) (ad : Nat → Nat) (sz : Nat) :
    Met l y (zz_w y cc nL ret) (zz_rm d) (va_Pc avr (fun U => U.heap.size = sz ∧ va_P D vwCl (zz_ws ad cI cR sh h) U.heap ∧ va_K D vwCl (zz_tys cI cR) U ∧ va_D (fun _ => True) (zz_ws ad cI cR sh h) ∧ zz_Ne U ∧ zz_Out ad (va_A (zz_ws ad cI cR sh h) sz) U U.heap))
      (zz_Q ret post (zz_B D cI cR ad sh (va_A (zz_ws ad cI cR sh h) sz)) (va_A (zz_ws ad cI cR sh h) sz)) 0 0 (va_A (zz_ws ad cI cR sh h) sz) := by
  refine Met.ofW (cc := cc) (maxL := nL) (ret := ret) hy rfl ?_
  intro p e s m args below meth c s₁ B hml hv
  obtain ⟨rfl, hsz, hP, hK, hD0, hN, hO⟩ := hv
  subst hsz
  have hts : ∀ w ∈ zz_w y cc nL ret, w.before (avr.toArray) s = true := atoms_spec (ws := zz_w y cc nL ret) B.pre
  have hown : s.vm.findClass y.cls = some m.cls := findClass_of_methodNamed B.named
  have hl := lv_entry avr (n := nL) hn
  rw [lg_entry_eq]
  generalize (lg_sl avr ++ List.replicate (nL - (lg_sl avr).length) Slot.unset).toArray = ls at hl ⊢
  exact g p l e _ s m _ below meth c s.heap [] D cI cR ad _ ls ⟨B.exec, B.bytes, B.returns, hml, hown, B.notSynchronized, fun w hw => hts w (List.mem_cons_of_mem _ hw), Nat.le_refl _, Nat.le_refl _, fun q hq => Or.inr hq, hK, hN, hO⟩ hP hD0.self va_S.rf ⟨hl.1, hl.2.1, fun q hq => hl.2.2 q (hL ad q hq)⟩
theorem goJ3 (i n : Int32) (h0 : ¬ i < 0) (h1 : i < n) : zz_Go sh 0 cJ3_checkIndex_8e157 RJ3 3 (some .int) (zz_pv h (fun r => r = i)) 0 [] [.int i, .int n, .null] h := by
  refine zr_iload_n dJ3_checkIndex_8e157_0 rfl rfl ?_
  refine zr_if_lt 9 dJ3_checkIndex_8e157_1 (by decide) (fun q => absurd q h0) (fun _ => ?_)
  refine zr_iload_n dJ3_checkIndex_8e157_4 rfl rfl ?_
  refine zr_iload_n dJ3_checkIndex_8e157_5 rfl rfl ?_
  refine zr_icmp_lt 16 dJ3_checkIndex_8e157_6 (by decide) (fun _ => ?_) (fun q => absurd h1 q)
  refine zr_iload_n dJ3_checkIndex_8e157_16 rfl rfl ?_
  exact zr_ret rfl rfl dJ3_checkIndex_8e157_17 ⟨rfl, rfl⟩
/-- the check of an index, with the JDK's own maker of messages, whatever that is -/
theorem zr_pre {i1 i2 : Nat} {i n : Int32} (h0 : ¬ i < 0) (h1 : i < n) (hw : Cond.fieldLink own i1 RJ3 "SIOOBE_FORMATTER" "Ljava/util/function/BiFunction;" ∈ zz_TB) (hl : Cond.methodLink own i2 yJ3_checkIndex_8e157 ∈ zz_TB) (hd1 : 1 ≤ d) (hst : (st.map fun v => v.category).sum ≤ 8) (da : decode cc pc = .ok (.getstatic i1, 3)) (db : decode cc (pc + 3) = .ok (.invokestatic i2, 3)) (kk : zz_Go sh d cc own nL ret post (pc + 3 + 3) (.int i :: st) L h) : zz_Go sh d cc own nL ret post pc (.int n :: .int i :: st) L h := by
  intro p l e R s m args below meth c H locs D cI cR ad A ls X hP hD hS hL
  obtain ⟨hx, hb, hr, hml, hown, hlk, hts, hfr, hlo, hA, hK, hN, hO⟩ := id X
  have hF : ∀ q, va_A (zz_ws ad cI cR sh h) H.size q → A q := fun q hq => hq.elim (fun ⟨k9, e9, h9⟩ => hD.2 k9 (q, e9) h9) (fun h9 => hA q (Nat.le_trans hS.1 h9))
  have key : ∀ v : Value, (lg_sl [.int i, .int n, v]).length = 3 → va_Z "jdk/internal/util/Preconditions" "SIOOBE_FORMATTER" "Ljava/util/function/BiFunction;" v A s s.heap → W p l e R s m args below meth c H locs 0 0 (MQ below (zz_Q ret post (zz_B D cI cR ad sh A) A) args s 0 0 A) (F0 m pc ls ((.int n :: .int i :: st).map (zz_v ad))) := by
    intro v hv3 hZ
    refine va_gets hx hb hZ hS hown (hts _ hw) (fun _ h9 => h9) da ?_
    have hy := zy_J3_checkIndex_8e157
    refine va_calli (va_runS (As := [.int i, .int n, v]) (rest := st.map (zz_v ad)) ⟨hx, hb, hml, hown, hts⟩ (zz_ctR (y := yJ3_checkIndex_8e157) (sh := sh) (d := 0) (cc := cJ3_checkIndex_8e157) (nL := 3) (ret := some .int) (h := h) (L := [.int i, .int n, .null]) (avr := [.int i, .int n, v]) (by decide +kernel) (Nat.le_of_eq hv3) (fun ad q hq => by
      rcases List.mem_cons.mp hq with rfl | hq
      · exact List.mem_cons_self
      · rcases List.mem_cons.mp hq with rfl | hq
        · exact List.mem_cons_of_mem _ List.mem_cons_self
        · cases hq) (goJ3 i n h0 h1) l D cI cR ad H.size) (va_cwS 3 hts (zz_goodIn _ (zz_memS hy.1 hl hy.2.1 hy.2.2.1)) rfl rfl rfl hy.2.2.2.2 ⟨Nat.le_trans hd1 hfr, zz_loc (d' := 0) hd1 hy.2.2.2.1 hlo⟩) ⟨fun a U g mk q => by obtain ⟨q0, q1, qP, qK, qD, qN, qO⟩ := q; exact ⟨q0, q1, qP, va_K.moved (u := U) (U := U.calling g mk a) (Vm.Alike.refl U.vm) qK, qD, qN.same rfl, qO.to (Vm.Alike.refl U.vm) (fun _ _ _ _ hz => hz.same rfl) (fun _ _ _ => rfl) (fun _ hz => hz)⟩, fun U hU hW => ⟨rfl, by rw [hU], by rw [hU]; exact hP, va_K.moved hW.alike hK, hD.weaken (fun _ _ _ _ => trivial), hN.warm hW, hO.to hW.alike (fun _ _ _ _ hz => hz.warm hW) (fun a h1 h2 => by rw [hU]; exact hS.2.1 a h1 h2) hF⟩⟩ rfl rfl hL.1 rfl (lv_room (by rw [zz_catS]; exact hst)) db ⟨Nat.zero_le _, Nat.zero_le _⟩) hS (fun q _ hq => hF q hq) hF (fun r u t H1 locs1 ht hvm hw hB hz hk hS1 => ?_)
    obtain ⟨hP1, hD1⟩ := hB
    rw [ht] at hP1
    obtain ⟨rfl, rfl⟩ := hw
    exact kk p l e R s m args below meth c H1 locs1 D cI cR ad A ls X hP1 (hD1.weaken (fun _ q _ hq => hF q.1 hq)) hS1 hL
  rcases hO.2.2.2.2.2 with hZ | ⟨t, hZ⟩
  · exact key .null rfl hZ
  · exact key (.ref t) rfl hZ
theorem ctJ0_checkIndex (i n : Int32) (h0 : ¬ i < 0) (h1 : i < n) : zz_Ct sh 1 yJ0_checkIndex_df160 cJ0_checkIndex_df160 2 none [.int i, .int n] h (zz_pv h (fun _ => True)) := by
  refine zz_ct (L := [.int i, .int n]) (by decide +kernel) (Nat.le_of_ble_eq_true rfl) (fun ad q hq => hq) ?_
  show zz_Go sh 1 cJ0_checkIndex_df160 RJ0 2 none _ 0 [] [.int i, .int n] h
  refine zr_iload_n dJ0_checkIndex_df160_0 rfl rfl ?_
  refine zr_iload_n dJ0_checkIndex_df160_1 rfl rfl ?_
  refine zr_pre h0 h1 zf_J0_1053 zm_J0_1059 (by decide) (Nat.le_of_ble_eq_true rfl) dJ0_checkIndex_df160_2 dJ0_checkIndex_df160_5 ?_
  refine zr_pop dJ0_checkIndex_df160_8 rfl ?_
  exact zr_vret rfl dJ0_checkIndex_df160_9 ⟨rfl, trivial⟩
theorem ctJ0_coder (j : Nat) (hj : j < 12) : zz_Ct sh 0 yJ0_coder_7d493 cJ0_coder_7d493 1 (some .byte) [.ref (1000 + j)] h (zz_pv h (fun r => r = 0)) := by
  refine zz_ct (L := [.ref (1000 + j)]) (by decide +kernel) (Nat.le_of_ble_eq_true rfl) (fun ad q hq => hq) ?_
  show zz_Go sh 0 cJ0_coder_7d493 RJ0 1 (some .byte) _ 0 [] [.ref (1000 + j)] h
  refine zr_compact zf_J0_38 dJ0_coder_7d493_0 ?_
  refine zr_if_eq 13 dJ0_coder_7d493_3 (by decide) (fun q => absurd q (by decide)) (fun _ => ?_)
  refine zr_aload_n dJ0_coder_7d493_6 rfl rfl ?_
  refine zr_scoder j hj zf_J0_15 dJ0_coder_7d493_7 ?_
  refine zr_goto 14 dJ0_coder_7d493_10 (by decide) ?_
  exact zr_ret rfl rfl dJ0_coder_7d493_14 ⟨rfl, rfl⟩
theorem ctJ0_isLatin1 (j : Nat) (hj : j < 12) : zz_Ct sh 0 yJ0_isLatin1_aae02 cJ0_isLatin1_aae02 1 (some .boolean) [.ref (1000 + j)] h (zz_pv h (fun r => r = 1)) := by
  refine zz_ct (L := [.ref (1000 + j)]) (by decide +kernel) (Nat.le_of_ble_eq_true rfl) (fun ad q hq => hq) ?_
  show zz_Go sh 0 cJ0_isLatin1_aae02 RJ0 1 (some .boolean) _ 0 [] [.ref (1000 + j)] h
  refine zr_compact zf_J0_38 dJ0_isLatin1_aae02_0 ?_
  refine zr_if_eq 17 dJ0_isLatin1_aae02_3 (by decide) (fun q => absurd q (by decide)) (fun _ => ?_)
  refine zr_aload_n dJ0_isLatin1_aae02_6 rfl rfl ?_
  refine zr_scoder j hj zf_J0_15 dJ0_isLatin1_aae02_7 ?_
  refine zr_if_ne 17 dJ0_isLatin1_aae02_10 (by decide) (fun q => absurd rfl q) (fun _ => ?_)
  refine zr_iconst (v := 1) dJ0_isLatin1_aae02_13 (by decide) ?_
  refine zr_goto 18 dJ0_isLatin1_aae02_14 (by decide) ?_
  exact zr_ret rfl rfl dJ0_isLatin1_aae02_18 ⟨rfl, rfl⟩
theorem zs_shr : ∀ j : Fin 12, nI (zz_len.getD j.val 0) >>> ((0 : Int32) &&& 31) = nI (zz_len.getD j.val 0) := by decide
theorem zs_byt : ∀ j : Fin 12, ∀ k : Fin 9, ((((zz_byt.getD j.val []).getD k.val 0) &&& 255).toUInt32 % 65536).toInt32 = (zz_byt.getD j.val []).getD k.val 0 ∧ narrow .char (.int ((zz_byt.getD j.val []).getD k.val 0)) = .int ((zz_byt.getD j.val []).getD k.val 0) := by decide
theorem zs_len : ∀ j : Fin 12, zz_len.getD j.val 0 ≤ 9 := by decide
theorem ctJ0_length (j : Nat) (hj : j < 12) : zz_Ct sh 1 yJ0_length_8abf5 cJ0_length_8abf5 1 (some .int) [.ref (1000 + j)] h (zz_pv h (fun r => r = nI (zz_len.getD j 0))) := by
  refine zz_ct (L := [.ref (1000 + j)]) (by decide +kernel) (Nat.le_of_ble_eq_true rfl) (fun ad q hq => hq) ?_
  show zz_Go sh 1 cJ0_length_8abf5 RJ0 1 (some .int) _ 0 [] [.ref (1000 + j)] h
  refine zr_aload_n dJ0_length_8abf5_0 rfl rfl ?_
  refine zr_svalue j hj zf_J0_9 dJ0_length_8abf5_1 ?_
  refine zr_tlen j hj dJ0_length_8abf5_4 ?_
  refine zr_aload_n dJ0_length_8abf5_5 rfl rfl ?_
  refine zr_callJ j hj (ctJ0_coder j hj) zy_J0_coder_7d493 zm_J0_335 (by decide) rfl rfl (Nat.le_of_ble_eq_true rfl) dJ0_length_8abf5_6 (fun r hr => ?_)
  subst hr
  refine zr_ishr dJ0_length_8abf5_9 ?_
  rw [zs_shr ⟨j, hj⟩]
  exact zr_ret rfl rfl dJ0_length_8abf5_10 ⟨rfl, rfl⟩
theorem ctJ1_charAt (j : Nat) (hj : j < 12) {i : Int32} (hi : vp_in i (zz_len.getD j 0)) : zz_Ct sh 2 yJ1_charAt_3b067 cJ1_charAt_3b067 2 (some .char) [.ref (1100 + j), .int i] h (zz_pv h (fun r => r = (zz_byt.getD j []).getD i.toNatClampNeg 0)) := by
  have hl : zz_len.getD j 0 ≤ 9 := zs_len ⟨j, hj⟩
  have i0 : ¬ i < 0 := fun q => hi (Or.inl q)
  have i1 : i.toNatClampNeg < zz_len.getD j 0 := Nat.not_le.mp fun q => hi (Or.inr q)
  have i2 : i < nI (zz_len.getD j 0) := by
    obtain ⟨k, hk, rfl⟩ := nI_of i0
    rw [nI_clamp hk] at i1
    exact nI_lt i1 (by omega)
  obtain ⟨b1, b2⟩ := zs_byt ⟨j, hj⟩ ⟨i.toNatClampNeg, by omega⟩
  refine zz_ct (L := [.ref (1100 + j), .int i]) (by decide +kernel) (Nat.le_of_ble_eq_true rfl) (fun ad q hq => hq) ?_
  show zz_Go sh 2 cJ1_charAt_3b067 RJ1 2 (some .char) _ 0 [] [.ref (1100 + j), .int i] h
  refine zr_iload_n dJ1_charAt_3b067_0 rfl rfl ?_
  refine zr_aload_n dJ1_charAt_3b067_1 rfl rfl ?_
  refine zr_tlen j hj dJ1_charAt_3b067_2 ?_
  refine zr_callSv (ctJ0_checkIndex i _ i0 i2) zy_J0_checkIndex_df160 zm_J1_9 (by decide) rfl rfl (Nat.le_of_ble_eq_true rfl) dJ1_charAt_3b067_3 (fun h' hq => ?_)
  obtain ⟨rfl, -⟩ := hq
  refine zr_aload_n dJ1_charAt_3b067_6 rfl rfl ?_
  refine zr_iload_n dJ1_charAt_3b067_7 rfl rfl ?_
  refine zr_tbyte j hj hi dJ1_charAt_3b067_8 ?_
  refine zr_sipush (v := 255) dJ1_charAt_3b067_9 (by decide) ?_
  refine zr_iand dJ1_charAt_3b067_12 ?_
  refine zr_i2c dJ1_charAt_3b067_13 ?_
  rw [b1]
  exact zr_ret rfl b2 dJ1_charAt_3b067_14 ⟨rfl, rfl⟩
theorem ctJ0_charAt (j : Nat) (hj : j < 12) {i : Int32} (hi : vp_in i (zz_len.getD j 0)) : zz_Ct sh 3 yJ0_charAt_5068e cJ0_charAt_5068e 2 (some .char) [.ref (1000 + j), .int i] h (zz_pv h (fun r => r = (zz_byt.getD j []).getD i.toNatClampNeg 0)) := by
  have hl : zz_len.getD j 0 ≤ 9 := zs_len ⟨j, hj⟩
  have i1 : i.toNatClampNeg < zz_len.getD j 0 := Nat.not_le.mp fun q => hi (Or.inr q)
  obtain ⟨b1, b2⟩ := zs_byt ⟨j, hj⟩ ⟨i.toNatClampNeg, by omega⟩
  refine zz_ct (L := [.ref (1000 + j), .int i]) (by decide +kernel) (Nat.le_of_ble_eq_true rfl) (fun ad q hq => hq) ?_
  show zz_Go sh 3 cJ0_charAt_5068e RJ0 2 (some .char) _ 0 [] [.ref (1000 + j), .int i] h
  refine zr_aload_n dJ0_charAt_5068e_0 rfl rfl ?_
  refine zr_callJ j hj (ctJ0_isLatin1 j hj) zy_J0_isLatin1_aae02 zm_J0_492 (by decide) rfl rfl (Nat.le_of_ble_eq_true rfl) dJ0_charAt_5068e_1 (fun r hr => ?_)
  subst hr
  refine zr_if_eq 16 dJ0_charAt_5068e_4 (by decide) (fun q => absurd q (by decide)) (fun _ => ?_)
  refine zr_aload_n dJ0_charAt_5068e_7 rfl rfl ?_
  refine zr_svalue j hj zf_J0_9 dJ0_charAt_5068e_8 ?_
  refine zr_iload_n dJ0_charAt_5068e_11 rfl rfl ?_
  refine zr_callSi (ctJ1_charAt j hj hi) zy_J1_charAt_3b067 zm_J0_495 (by decide) rfl rfl (Nat.le_of_ble_eq_true rfl) dJ0_charAt_5068e_12 (fun r h' hq => ?_)
  obtain ⟨rfl, rfl⟩ := hq
  exact zr_ret rfl b2 dJ0_charAt_5068e_15 ⟨rfl, rfl⟩
theorem zr_slen (j : Nat) (hj : j < 12) {q : Nat} (hl : Cond.methodLink own q yJ0_length_8abf5 ∈ zz_TB) (hd1 : 5 ≤ d) (hst : (st.map fun v => v.category).sum ≤ 8) (hd : decode cc pc = .ok (.invokevirtual q, 3)) (kk : zz_Go sh d cc own nL ret post (pc + 3) (.int (nI (zz_len.getD j 0)) :: st) L h) : zz_Go sh d cc own nL ret post pc (.ref (1000 + j) :: st) L h :=
  zr_callJ j hj (ctJ0_length j hj) zy_J0_length_8abf5 hl (by omega) rfl rfl hst hd (fun r hr => by subst hr; exact kk)
theorem zr_schar (j : Nat) (hj : j < 12) {i : Int32} (hi : vp_in i (zz_len.getD j 0)) {q : Nat} (hl : Cond.methodLink own q yJ0_charAt_5068e ∈ zz_TB) (hd1 : 5 ≤ d) (hst : (st.map fun v => v.category).sum ≤ 8) (hd : decode cc pc = .ok (.invokevirtual q, 3)) (kk : zz_Go sh d cc own nL ret post (pc + 3) (.int ((zz_byt.getD j []).getD i.toNatClampNeg 0) :: st) L h) : zz_Go sh d cc own nL ret post pc (.int i :: .ref (1000 + j) :: st) L h :=
  zr_callJ j hj (ctJ0_charAt j hj hi) zy_J0_charAt_5068e hl (by omega) rfl rfl hst hd (fun r hr => by subst hr; exact kk)
end ZS
