/-! the law: its rows, its calls -/
def lw_A (s : State) : Nat → Prop := fun q => s.heap.size ≤ q
/-- what doesn't change while the law runs -/
def lw_S (p : Program) (s : State) (m : MethodId) (c : Code) (b L : Nat) (xs : Nat → Int32) (D : va_G) (cI cR : ClassId) (ad1 ad2 : Nat → Nat) : Prop :=
  p.tables.exec = Jvm.exec ∧ c.code = code ∧ c.maxLocals = 4 ∧ s.vm.findClass RL = some m.cls ∧ (∀ w ∈ zz_TB, w.before #[Value.ref b] s = true) ∧ va_X b L xs s s.heap ∧ b < s.heap.size ∧ va_K D vwCl (zz_tys cI cR) s ∧ zz_Ne s ∧ zz_Out ad1 (lw_A s) s s.heap ∧ zz_Out ad2 (lw_A s) s s.heap ∧ ∀ i j, i < 43 → j < 11 → ad1 i ≠ ad2 j
/-- the two worlds -/
def lw_I (s : State) (D : va_G) (cI cR : ClassId) (ad1 ad2 : Nat → Nat) (hc hm : zz_H) (H : Heap) (locs : List Loc) : Prop :=
  va_P D vwCl (zz_ws ad1 cI cR zz_C hc) H ∧ va_D (lw_A s) (zz_ws ad1 cI cR zz_C hc) ∧ va_P D vwCl (zz_ws ad2 cI cR zz_M hm) H ∧ va_D (lw_A s) (zz_ws ad2 cI cR zz_M hm) ∧ va_S (lw_A s) s.heap H locs
theorem zz_ws_in {ad : Nat → Nat} {cI cR : ClassId} {sh : List zz_SC} {h : zz_H} {k : Nat} {q : Nat × va_E} (hq : (zz_ws ad cI cR sh h)[k]? = some q) : k < sh.length ∧ q.1 = ad k := by
  unfold zz_ws at hq
  rw [List.getElem?_mapIdx] at hq
  cases hs : sh[k]? with
  | none => rw [hs] at hq; cases hq
  | some c =>
    rw [hs] at hq
    have hh : (ad k, zz_cell ad cI cR h k c) = q := Option.some.inj hq
    exact ⟨(List.getElem?_eq_some_iff.mp hs).1, by rw [← hh]⟩
theorem zz_ws_kept {D : va_G} {cI cR : ClassId} {adx ady : Nat → Nat} {shx shy : List zz_SC} {hx hy : zz_H} {H H1 : Heap} (hP : va_P D vwCl (zz_ws ady cI cR shy hy) H) (hk : ∀ q : Nat, q < H.size → ¬ va_A (zz_ws adx cI cR shx hx) H.size q → H1[q]? = H[q]?) (hap : ∀ i j, i < shx.length → j < shy.length → adx i ≠ ady j) : va_P D vwCl (zz_ws ady cI cR shy hy) H1 := by
  refine hP.kept (fun k q hq => hk q.1 (hP k q hq).lt (fun h => ?_))
  obtain ⟨a1, a2⟩ := zz_ws_in hq
  rcases h with ⟨k2, e2, h2⟩ | h2
  · obtain ⟨b1, b2⟩ := zz_ws_in h2
    exact hap k2 k b1 a1 (b2.symm.trans a2)
  · have := (hP k q hq).lt
    omega
theorem lw_free {s : State} {cI cR : ClassId} {ad : Nat → Nat} {sh : List zz_SC} {h : zz_H} {H : Heap} (hD : va_D (lw_A s) (zz_ws ad cI cR sh h)) (hz : s.heap.size ≤ H.size) : ∀ q, va_A (zz_ws ad cI cR sh h) H.size q → lw_A s q := fun q hq => hq.elim (fun ⟨k9, e9, h9⟩ => hD.2 k9 (q, e9) h9) (fun h9 => Nat.le_trans hz h9)
section ZL
variable {p : Program} {l : Launch} {e : Env} {s : State} {m : MethodId} {below : List Frame} {meth : Method} {c : Code} {H : Heap} {locs : List Loc} {cells slots : Nat} {Q : State → Prop} {b L : Nat} {xs : Nat → Int32}
variable {pc : Nat} {ls : Array Slot} {rest : List Value} {D : va_G} {cI cR : ClassId} {ad1 ad2 : Nat → Nat} {lv : List (Nat × Value)} {hc hm : zz_H}
theorem zL_arg (S : lw_S p s m c b L xs D cI cR ad1 ad2) (hS : va_S (lw_A s) s.heap H locs) {x1 x2 i : Nat} (hl : lv_has ls 4 [(0, .ref b), (1, .ref x1), (2, .ref x2), (3, .int (nI i))]) (hL : L ≤ 3072) (k : Nat) (hk : k ≤ 5) (hi : i + k < L) (d0 : decode code pc = .ok (.aload_n 0, 1)) (d1 : decode code (pc + 1) = .ok (.iload_n 3, 1)) (d2 : decode code (pc + 2) = .ok (.iconst (k : Int), 1)) (d3 : decode code (pc + 3) = .ok (.iadd, 1)) (d4 : decode code (pc + 4) = .ok (.iaload, 1))
    (kk : W p l e room_1 s m #[Value.ref b] below meth c H locs cells slots Q (F0 m (pc + 5) ls (.int (xs (i + k)) :: rest))) : W p l e room_1 s m #[Value.ref b] below meth c H locs cells slots Q (F0 m pc ls rest) := by
  obtain ⟨hx, hb, hml, hown, htb, hX, hbl, hK, hNe, hO1, hO2, hap⟩ := S
  refine lv_aload_n hx hb d0 rfl (lv_at hl 0 rfl) ?_
  refine lv_iload_n hx hb d1 rfl (lv_at hl 3 rfl) ?_
  refine lv_iconst (v := nI k) hx hb d2 rfl ?_
  refine lv_iadd hx hb d3 ?_
  rw [nI_add]
  refine va_sld hx hb hX hbl (Nat.not_le.mpr hbl) hS (vp_in_nI hi (by omega)) d4 ?_
  rw [nI_clamp (by omega)]
  exact kk
theorem zL_arg0 (S : lw_S p s m c b L xs D cI cR ad1 ad2) (hS : va_S (lw_A s) s.heap H locs) {x1 x2 i : Nat} (hl : lv_has ls 4 [(0, .ref b), (1, .ref x1), (2, .ref x2), (3, .int (nI i))]) (hL : L ≤ 3072) (hi : i < L) (d0 : decode code pc = .ok (.aload_n 0, 1)) (d1 : decode code (pc + 1) = .ok (.iload_n 3, 1)) (d4 : decode code (pc + 2) = .ok (.iaload, 1))
    (kk : W p l e room_1 s m #[Value.ref b] below meth c H locs cells slots Q (F0 m (pc + 3) ls (.int (xs i) :: rest))) : W p l e room_1 s m #[Value.ref b] below meth c H locs cells slots Q (F0 m pc ls rest) := by
  obtain ⟨hx, hb, hml, hown, htb, hX, hbl, hK, hNe, hO1, hO2, hap⟩ := S
  refine lv_aload_n hx hb d0 rfl (lv_at hl 0 rfl) ?_
  refine lv_iload_n hx hb d1 rfl (lv_at hl 3 rfl) ?_
  refine va_sld hx hb hX hbl (Nat.not_le.mpr hbl) hS (vp_in_nI hi (by omega)) d4 ?_
  rw [nI_clamp (by omega)]
  exact kk
/-- a call on the class's object -/
theorem zL_callC (S : lw_S p s m c b L xs D cI cR ad1 ad2) (I : lw_I s D cI cR ad1 ad2 hc hm H locs) (hl : lv_has ls 4 lv) {ty : FieldType} {d' nL' n : Nat} {y : MethodName} {cc' : ByteArray} {P : Int32 → zz_H → Prop} {As : List Value} (hct : zz_Ct zz_C d' y cc' nL' (some ty) (.ref 0 :: As) hc P) (hy : zz_yV y cc' nL' (some ty) RX4 n) {i : Nat} (hlk : Cond.methodLink RL i y ∈ zz_TB) (hd' : d' + 1 ≤ 12) (hn : As.length = n) {st' : List Value} (hstk : st' = (As.map (zz_v ad1)).reverse ++ .ref (ad1 0) :: rest) (hst : (rest.map fun v => v.category).sum ≤ 8) (hcl : cells ≤ 600000) (hsl : slots ≤ 7302250) (hd : decode code pc = .ok (.invokevirtual i, 3))
    (kk : ∀ (r : Int32) (hc' : zz_H) (H1 : Heap) (locs1 : List Loc), P r hc' → lw_I s D cI cR ad1 ad2 hc' hm H1 locs1 → W p l e room_1 s m #[Value.ref b] below meth c H1 locs1 cells slots Q (F0 m (pc + 3) ls (.int r :: rest))) : W p l e room_1 s m #[Value.ref b] below meth c H locs cells slots Q (F0 m pc ls st') := by
  obtain ⟨hx, hb, hml, hown, htb, hX, hbl, hK, hNe, hO1, hO2, hap⟩ := S
  obtain ⟨hP, hD, hPm, hDm, hS⟩ := I
  have hF := lw_free hD hS.1
  refine va_calli (va_runV (As := As.map (zz_v ad1)) (rest := rest) ⟨hx, hb, hml, hown, htb⟩ (hct l D cI cR ad1 H.size) (cwV n htb (zz_goodIn _ (zz_memV hy.1 hlk hy.2.1 hy.2.2.1 hy.2.2.2.1)) rfl rfl rfl hy.2.2.2.2.2 ⟨hd', zz_loc hd' hy.2.2.2.2.1 (by decide)⟩) ⟨fun a U g mk q => by obtain ⟨q0, q1, qP, qK, qD, qN, qO⟩ := q; exact ⟨q0, q1, qP, va_K.moved (u := U) (U := U.calling g mk a) (Vm.Alike.refl U.vm) qK, qD, qN.same rfl, qO.to (Vm.Alike.refl U.vm) (fun _ _ _ _ hz => hz.same rfl) (fun _ _ _ => rfl) (fun _ hz => hz)⟩, va_recv hK hP zz_cX4.1 (zz_ws_at zz_C0), fun U hU hW => ⟨rfl, by rw [hU], by rw [hU]; exact hP, va_K.moved hW.alike hK, hD.weaken (fun _ _ _ _ => trivial), hNe.warm hW, hO1.to hW.alike (fun _ _ _ _ hz => hz.warm hW) (fun a h1 h2 => by rw [hU]; exact hS.2.1 a h1 h2) hF⟩⟩ rfl (by rw [List.length_map]; exact hn) hl.1 hstk (lv_room hst) hd ⟨hcl, hsl⟩) hS (fun q _ hq => hF q hq) hF (fun r u t H1 locs1 ht hvm hw hB hz hk hS1 => ?_)
  obtain ⟨hP1, hD1⟩ := hB
  rw [ht] at hP1
  exact kk r u H1 locs1 hw ⟨hP1, hD1.weaken (fun _ q _ hq => hF q.1 hq), zz_ws_kept hPm hk (fun i j h1 h2 => hap i j h1 h2), hDm, hS1⟩
/-- a call on the reference's object -/
theorem zL_callM (S : lw_S p s m c b L xs D cI cR ad1 ad2) (I : lw_I s D cI cR ad1 ad2 hc hm H locs) (hl : lv_has ls 4 lv) {ty : FieldType} {d' nL' n : Nat} {y : MethodName} {cc' : ByteArray} {P : Int32 → zz_H → Prop} {As : List Value} (hct : zz_Ct zz_M d' y cc' nL' (some ty) (.ref 0 :: As) hm P) (hy : zz_yV y cc' nL' (some ty) RX5 n) {i : Nat} (hlk : Cond.methodLink RL i y ∈ zz_TB) (hd' : d' + 1 ≤ 12) (hn : As.length = n) {st' : List Value} (hstk : st' = (As.map (zz_v ad2)).reverse ++ .ref (ad2 0) :: rest) (hst : (rest.map fun v => v.category).sum ≤ 8) (hcl : cells ≤ 600000) (hsl : slots ≤ 7302250) (hd : decode code pc = .ok (.invokevirtual i, 3))
    (kk : ∀ (r : Int32) (hm' : zz_H) (H1 : Heap) (locs1 : List Loc), P r hm' → lw_I s D cI cR ad1 ad2 hc hm' H1 locs1 → W p l e room_1 s m #[Value.ref b] below meth c H1 locs1 cells slots Q (F0 m (pc + 3) ls (.int r :: rest))) : W p l e room_1 s m #[Value.ref b] below meth c H locs cells slots Q (F0 m pc ls st') := by
  obtain ⟨hx, hb, hml, hown, htb, hX, hbl, hK, hNe, hO1, hO2, hap⟩ := S
  obtain ⟨hPc, hDc, hP, hD, hS⟩ := I
  have hF := lw_free hD hS.1
  refine va_calli (va_runV (As := As.map (zz_v ad2)) (rest := rest) ⟨hx, hb, hml, hown, htb⟩ (hct l D cI cR ad2 H.size) (cwV n htb (zz_goodIn _ (zz_memV hy.1 hlk hy.2.1 hy.2.2.1 hy.2.2.2.1)) rfl rfl rfl hy.2.2.2.2.2 ⟨hd', zz_loc hd' hy.2.2.2.2.1 (by decide)⟩) ⟨fun a U g mk q => by obtain ⟨q0, q1, qP, qK, qD, qN, qO⟩ := q; exact ⟨q0, q1, qP, va_K.moved (u := U) (U := U.calling g mk a) (Vm.Alike.refl U.vm) qK, qD, qN.same rfl, qO.to (Vm.Alike.refl U.vm) (fun _ _ _ _ hz => hz.same rfl) (fun _ _ _ => rfl) (fun _ hz => hz)⟩, va_recv hK hP zz_cX5.1 (zz_ws_at zz_M0), fun U hU hW => ⟨rfl, by rw [hU], by rw [hU]; exact hP, va_K.moved hW.alike hK, hD.weaken (fun _ _ _ _ => trivial), hNe.warm hW, hO2.to hW.alike (fun _ _ _ _ hz => hz.warm hW) (fun a h1 h2 => by rw [hU]; exact hS.2.1 a h1 h2) hF⟩⟩ rfl (by rw [List.length_map]; exact hn) hl.1 hstk (lv_room hst) hd ⟨hcl, hsl⟩) hS (fun q _ hq => hF q hq) hF (fun r u t H1 locs1 ht hvm hw hB hz hk hS1 => ?_)
  obtain ⟨hP1, hD1⟩ := hB
  rw [ht] at hP1
  exact kk r u H1 locs1 hw ⟨zz_ws_kept hPc hk (fun i j h1 h2 => fun q => hap j i h2 h1 q.symm), hDc, hP1, hD1.weaken (fun _ q _ hq => hF q.1 hq), hS1⟩
end ZL
theorem lw_sub6 : ∀ L : Fin 6, nI L.val - 6 < 0 := by decide
/-- there is a whole call left -/
theorem lw_left {L i : Nat} (hL : L ≤ 3072) (hi : i ≤ 4000) : nI L - 6 < nI i ↔ L < i + 6 := by
  rcases Nat.lt_or_ge L 6 with h | h
  · have h1 := lw_sub6 ⟨L, h⟩
    have h1 : nI L - 6 < 0 := h1
    refine ⟨fun _ => by omega, fun _ => ?_⟩
    have h2 : (0 : Int32) ≤ nI i := nI_pos' (by omega)
    rw [Int32.lt_iff_toInt_lt] at h1 ⊢
    rw [Int32.le_iff_toInt_le] at h2
    omega
  · have e : nI L - 6 = nI (L - 6) := by
      obtain ⟨d, rfl⟩ : ∃ d, L = d + 6 := ⟨L - 6, by omega⟩
      rw [show d + 6 - 6 = d by omega, ← nI_add]
      show nI d + 6 - 6 = nI d
      grind
    rw [e, nI_ltI (by omega) (by omega)]
    omega
