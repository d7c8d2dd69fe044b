/-! the small constructors -/
def zz_wsR (ad : Nat → Nat) (cI cR : ClassId) (h : zz_H) : Nat → List zz_SC → va_W
  | _, [] => []
  | k, c :: t => (ad k, zz_cell ad cI cR h k c) :: zz_wsR ad cI cR h (k + 1) t
theorem zz_ws_R (ad : Nat → Nat) (cI cR : ClassId) (sh : List zz_SC) (h : zz_H) : zz_ws ad cI cR sh h = zz_wsR ad cI cR h 0 sh := by
  have key : ∀ (sh : List zz_SC) (b : Nat), sh.mapIdx (fun k c => (ad (k + b), zz_cell ad cI cR h (k + b) c)) = zz_wsR ad cI cR h b sh := by
    intro sh
    induction sh with
    | nil => intro b; rfl
    | cons c t ih =>
      intro b
      rw [List.mapIdx_cons, Nat.zero_add]
      show _ = _ :: zz_wsR ad cI cR h (b + 1) t
      rw [← ih (b + 1)]
      congr 1
      congr 1
      funext k c
      rw [show k + 1 + b = k + (b + 1) by omega]
  exact key sh 0
def kshP : List zz_SC := [.inr (.inr (0, [some 1, some 2, some 3, some 4, some 5, some 6, some 7, none, none, none])), .inl 8, .inl 8, .inl 12, .inl 192, .inl 6, .inl 6, .inl 10]
def kshS : List zz_SC := [.inr (.inr (1, [some 1, some 2, some 3, none, none, none, none, none])), .inl 8, .inl 96, .inl 12]
def kshE : List zz_SC := [.inr (.inr (2, [some 1, none, none])), .inl 40]
def kshT : List zz_SC := [.inr (.inr (3, [some 1, none, none, none, none, none])), .inl 120]
def pkP (u : (Nat → Nat) × zz_H) : Prop := u.2 0 7 = 0 ∧ u.2 0 8 = 0 ∧ u.2 0 9 = 1 ∧ (∀ i, i < 8 → u.2 1 i = 10) ∧ (∀ i, i < 8 → u.2 2 i = -1) ∧ ∀ i, i < 10 → u.2 7 i = -1
def pkS (_ : (Nat → Nat) × zz_H) : Prop := True
def pkT (u : (Nat → Nat) × zz_H) : Prop := u.2 0 1 = 0
def pkE (u : (Nat → Nat) × zz_H) : Prop := u.2 0 1 = 0 ∧ u.2 0 2 = 0 ∧ ∀ i, u.2 1 i = 0
set_option maxHeartbeats 4000000 in
set_option maxRecDepth 100000 in
theorem ctK_X2 : zk_Ct kshE 1 1 40 yX2_init cX2_init 1 2 [.null, .int 0, .int 0] pkE := by
  intro l D cI cR ad sz h0
  refine Met.ofW (cc := cX2_init) (maxL := 1) (ret := none) (by decide +kernel) rfl ?_
  intro p e s m args below meth c s₁ B hml hv
  obtain ⟨rfl, hsz, hP, hK, hD0, hNe, hO, hN2⟩ := hv
  have hx := B.exec
  have hb := B.bytes
  have hr := B.returns
  have hts : ∀ w ∈ zz_w yX2_init cX2_init 1 none, w.before (([.ref h0] : List Value).toArray) s = true := atoms_spec (ws := zz_w yX2_init cX2_init 1 none) B.pre
  have htb : ∀ w ∈ zz_TB, w.before (([.ref h0] : List Value).toArray) s = true := fun w hw => hts w (List.mem_cons_of_mem _ hw)
  have hown : s.vm.findClass RX2 = some m.cls := findClass_of_methodNamed B.named
  have hlocks := B.notSynchronized
  have hin : meth.name = "<init>" := (name_of_methodNamed B.named B.method).1
  subst hsz
  have hD := hD0.self (sz := s.heap.size)
  generalize hAe : va_A [(h0, (.inr (2, [.null, .int 0, .int 0]) : va_E))] s.heap.size = A at hD hO ⊢
  have hA : ∀ q : Nat, s.heap.size ≤ q → A q := fun q h => by rw [← hAe]; exact Or.inr h
  have hS : va_S A s.heap s.heap [] := va_S.rf
  have hl := lv_entry ([.ref h0]) (n := 1) (Nat.le_of_ble_eq_true rfl)
  rw [lg_entry_eq]
  generalize (lg_sl ([.ref h0]) ++ List.replicate (1 - (lg_sl ([.ref h0])).length) Slot.unset).toArray = ls at hl ⊢
  have hl : lv_has ls 1 [(0, .ref h0)] := hl
  refine lv_aload_n hx hb dX2_init_0 rfl (lv_at hl 0 rfl) ?_
  refine zk_objInit hx hb htb hown hml hl zm_X2_1 (Nat.le_of_ble_eq_true rfl) (Nat.le_of_ble_eq_true rfl) dX2_init_1 ?_
  refine lv_aload_n hx hb dX2_init_4 rfl (lv_at hl 0 rfl) ?_
  refine lv_bipush (v := 40) hx hb dX2_init_5 (by decide) ?_
  refine zk_newa hx hb htb hK hA 40 (by decide) (by decide) (by decide) (Nat.le_of_ble_eq_true rfl) (Nat.le_of_ble_eq_true rfl) dX2_init_7 hP hD hS (fun q7 H hP hD hS => ?_)
  have hP : va_P D vwCl [(h0, .inr (2, [.null, .int 0, .int 0])), (q7, .inl (cI, 40, .inl (fun _ => 0)))] H := hP
  have hD : va_D A [(h0, .inr (2, [.null, .int 0, .int 0])), (q7, .inl (cI, 40, .inl (fun _ => 0)))] := hD
  refine zk_putF hx hb htb hown hin hK zz_cX2 0 rfl 0 (by decide) zf_X2_9 rfl rfl (ty := .array .int) (by decide +kernel) rfl rfl (Nat.le_of_ble_eq_true rfl) dX2_init_9 hP hD hS (fun H locs hP hD hS => ?_)
  have hP : va_P D vwCl [(h0, .inr (2, [.ref q7, .int 0, .int 0])), (q7, .inl (cI, 40, .inl (fun _ => 0)))] H := hP
  have hD : va_D A [(h0, .inr (2, [.ref q7, .int 0, .int 0])), (q7, .inl (cI, 40, .inl (fun _ => 0)))] := hD
  refine lv_aload_n hx hb dX2_init_12 rfl (lv_at hl 0 rfl) ?_
  refine lv_iconst (v := 0) hx hb dX2_init_13 (by decide) ?_
  refine zk_put hx hb htb hown hK zz_cX2 0 rfl 1 (by decide) zf_X2_13 rfl (ty := .int) (by decide +kernel) rfl rfl (Nat.le_of_ble_eq_true rfl) dX2_init_14 hP hD hS (fun H locs hP hD hS => ?_)
  have hP : va_P D vwCl [(h0, .inr (2, [.ref q7, .int 0, .int 0])), (q7, .inl (cI, 40, .inl (fun _ => 0)))] H := hP
  have hD : va_D A [(h0, .inr (2, [.ref q7, .int 0, .int 0])), (q7, .inl (cI, 40, .inl (fun _ => 0)))] := hD
  refine lv_aload_n hx hb dX2_init_17 rfl (lv_at hl 0 rfl) ?_
  refine lv_iconst (v := 0) hx hb dX2_init_18 (by decide) ?_
  refine zk_put hx hb htb hown hK zz_cX2 0 rfl 2 (by decide) zf_X2_17 rfl (ty := .int) (by decide +kernel) rfl rfl (Nat.le_of_ble_eq_true rfl) dX2_init_19 hP hD hS (fun H locs hP hD hS => ?_)
  have hP : va_P D vwCl [(h0, .inr (2, [.ref q7, .int 0, .int 0])), (q7, .inl (cI, 40, .inl (fun _ => 0)))] H := hP
  have hD : va_D A [(h0, .inr (2, [.ref q7, .int 0, .int 0])), (q7, .inl (cI, 40, .inl (fun _ => 0)))] := hD
  have hP9 := hP.sub (ws' := [(h0, .inr (2, [.ref q7, .int 0, .int 0])), (q7, .inl (cI, 40, .inl (fun _ => 0)))]) [0, 1] rfl
  have hD9 := hD.sub (ws' := [(h0, .inr (2, [.ref q7, .int 0, .int 0])), (q7, .inl (cI, 40, .inl (fun _ => 0)))]) [0, 1] (by decide +kernel) rfl
  have hP8 : va_P D vwCl (zz_ws (fun k => [h0, q7].getD k 0) cI cR kshE (fun k => [(fun _ => 0), (fun _ => 0)].getD k (fun _ => 0))) H := by rw [zz_ws_R]; exact hP9
  have hD8 : va_D A (zz_ws (fun k => [h0, q7].getD k 0) cI cR kshE (fun k => [(fun _ => 0), (fun _ => 0)].getD k (fun _ => 0))) := by rw [zz_ws_R]; exact hD9
  refine W.widen (k := 1) (n := 40) (Nat.le_of_ble_eq_true rfl) (Nat.le_of_ble_eq_true rfl) ?_
  have hpost : pkE ((fun k => [h0, q7].getD k 0), (fun k => [(fun _ => 0), (fun _ => 0)].getD k (fun _ => 0))) := ⟨rfl, rfl, fun _ => rfl⟩
  exact W.vret hx hb hr (fun t ht hW => ⟨⟨((fun k => [h0, q7].getD k 0), (fun k => [(fun _ => 0), (fun _ => 0)].getD k (fun _ => 0))), rfl, hpost, rfl, by rw [ht]; exact hP8, hD8⟩, hS.F ht⟩) hS.2.2 dX2_init_22
set_option maxHeartbeats 4000000 in
set_option maxRecDepth 100000 in
theorem ctK_X3 : zk_Ct kshT 1 1 120 yX3_init cX3_init 1 3 [.null, .int 0, .int 0, .int 0, .int 0, .int 0] pkT := by
  intro l D cI cR ad sz h0
  refine Met.ofW (cc := cX3_init) (maxL := 1) (ret := none) (by decide +kernel) rfl ?_
  intro p e s m args below meth c s₁ B hml hv
  obtain ⟨rfl, hsz, hP, hK, hD0, hNe, hO, hN2⟩ := hv
  have hx := B.exec
  have hb := B.bytes
  have hr := B.returns
  have hts : ∀ w ∈ zz_w yX3_init cX3_init 1 none, w.before (([.ref h0] : List Value).toArray) s = true := atoms_spec (ws := zz_w yX3_init cX3_init 1 none) B.pre
  have htb : ∀ w ∈ zz_TB, w.before (([.ref h0] : List Value).toArray) s = true := fun w hw => hts w (List.mem_cons_of_mem _ hw)
  have hown : s.vm.findClass RX3 = some m.cls := findClass_of_methodNamed B.named
  have hlocks := B.notSynchronized
  have hin : meth.name = "<init>" := (name_of_methodNamed B.named B.method).1
  subst hsz
  have hD := hD0.self (sz := s.heap.size)
  generalize hAe : va_A [(h0, (.inr (3, [.null, .int 0, .int 0, .int 0, .int 0, .int 0]) : va_E))] s.heap.size = A at hD hO ⊢
  have hA : ∀ q : Nat, s.heap.size ≤ q → A q := fun q h => by rw [← hAe]; exact Or.inr h
  have hS : va_S A s.heap s.heap [] := va_S.rf
  have hl := lv_entry ([.ref h0]) (n := 1) (Nat.le_of_ble_eq_true rfl)
  rw [lg_entry_eq]
  generalize (lg_sl ([.ref h0]) ++ List.replicate (1 - (lg_sl ([.ref h0])).length) Slot.unset).toArray = ls at hl ⊢
  have hl : lv_has ls 1 [(0, .ref h0)] := hl
  refine lv_aload_n hx hb dX3_init_0 rfl (lv_at hl 0 rfl) ?_
  refine zk_objInit hx hb htb hown hml hl zm_X3_3 (Nat.le_of_ble_eq_true rfl) (Nat.le_of_ble_eq_true rfl) dX3_init_1 ?_
  refine lv_aload_n hx hb dX3_init_4 rfl (lv_at hl 0 rfl) ?_
  refine lv_bipush (v := 120) hx hb dX3_init_5 (by decide) ?_
  refine zk_newa hx hb htb hK hA 120 (by decide) (by decide) (by decide) (Nat.le_of_ble_eq_true rfl) (Nat.le_of_ble_eq_true rfl) dX3_init_7 hP hD hS (fun q7 H hP hD hS => ?_)
  have hP : va_P D vwCl [(h0, .inr (3, [.null, .int 0, .int 0, .int 0, .int 0, .int 0])), (q7, .inl (cI, 120, .inl (fun _ => 0)))] H := hP
  have hD : va_D A [(h0, .inr (3, [.null, .int 0, .int 0, .int 0, .int 0, .int 0])), (q7, .inl (cI, 120, .inl (fun _ => 0)))] := hD
  refine zk_putF hx hb htb hown hin hK zz_cX3 0 rfl 0 (by decide) zf_X3_11 rfl rfl (ty := .array .int) (by decide +kernel) rfl rfl (Nat.le_of_ble_eq_true rfl) dX3_init_9 hP hD hS (fun H locs hP hD hS => ?_)
  have hP : va_P D vwCl [(h0, .inr (3, [.ref q7, .int 0, .int 0, .int 0, .int 0, .int 0])), (q7, .inl (cI, 120, .inl (fun _ => 0)))] H := hP
  have hD : va_D A [(h0, .inr (3, [.ref q7, .int 0, .int 0, .int 0, .int 0, .int 0])), (q7, .inl (cI, 120, .inl (fun _ => 0)))] := hD
  refine lv_aload_n hx hb dX3_init_12 rfl (lv_at hl 0 rfl) ?_
  refine lv_iconst (v := 0) hx hb dX3_init_13 (by decide) ?_
  refine zk_put hx hb htb hown hK zz_cX3 0 rfl 1 (by decide) zf_X3_15 rfl (ty := .int) (by decide +kernel) rfl rfl (Nat.le_of_ble_eq_true rfl) dX3_init_14 hP hD hS (fun H locs hP hD hS => ?_)
  have hP : va_P D vwCl [(h0, .inr (3, [.ref q7, .int 0, .int 0, .int 0, .int 0, .int 0])), (q7, .inl (cI, 120, .inl (fun _ => 0)))] H := hP
  have hD : va_D A [(h0, .inr (3, [.ref q7, .int 0, .int 0, .int 0, .int 0, .int 0])), (q7, .inl (cI, 120, .inl (fun _ => 0)))] := hD
  refine lv_aload_n hx hb dX3_init_17 rfl (lv_at hl 0 rfl) ?_
  refine lv_iconst (v := 0) hx hb dX3_init_18 (by decide) ?_
  refine zk_put hx hb htb hown hK zz_cX3 0 rfl 2 (by decide) zf_X3_19 rfl (ty := .int) (by decide +kernel) rfl rfl (Nat.le_of_ble_eq_true rfl) dX3_init_19 hP hD hS (fun H locs hP hD hS => ?_)
  have hP : va_P D vwCl [(h0, .inr (3, [.ref q7, .int 0, .int 0, .int 0, .int 0, .int 0])), (q7, .inl (cI, 120, .inl (fun _ => 0)))] H := hP
  have hD : va_D A [(h0, .inr (3, [.ref q7, .int 0, .int 0, .int 0, .int 0, .int 0])), (q7, .inl (cI, 120, .inl (fun _ => 0)))] := hD
  refine lv_aload_n hx hb dX3_init_22 rfl (lv_at hl 0 rfl) ?_
  refine lv_iconst (v := 0) hx hb dX3_init_23 (by decide) ?_
  refine zk_put hx hb htb hown hK zz_cX3 0 rfl 3 (by decide) zf_X3_22 rfl (ty := .int) (by decide +kernel) rfl rfl (Nat.le_of_ble_eq_true rfl) dX3_init_24 hP hD hS (fun H locs hP hD hS => ?_)
  have hP : va_P D vwCl [(h0, .inr (3, [.ref q7, .int 0, .int 0, .int 0, .int 0, .int 0])), (q7, .inl (cI, 120, .inl (fun _ => 0)))] H := hP
  have hD : va_D A [(h0, .inr (3, [.ref q7, .int 0, .int 0, .int 0, .int 0, .int 0])), (q7, .inl (cI, 120, .inl (fun _ => 0)))] := hD
  refine lv_aload_n hx hb dX3_init_27 rfl (lv_at hl 0 rfl) ?_
  refine lv_iconst (v := 0) hx hb dX3_init_28 (by decide) ?_
  refine zk_put hx hb htb hown hK zz_cX3 0 rfl 4 (by decide) zf_X3_25 rfl (ty := .int) (by decide +kernel) rfl rfl (Nat.le_of_ble_eq_true rfl) dX3_init_29 hP hD hS (fun H locs hP hD hS => ?_)
  have hP : va_P D vwCl [(h0, .inr (3, [.ref q7, .int 0, .int 0, .int 0, .int 0, .int 0])), (q7, .inl (cI, 120, .inl (fun _ => 0)))] H := hP
  have hD : va_D A [(h0, .inr (3, [.ref q7, .int 0, .int 0, .int 0, .int 0, .int 0])), (q7, .inl (cI, 120, .inl (fun _ => 0)))] := hD
  refine lv_aload_n hx hb dX3_init_32 rfl (lv_at hl 0 rfl) ?_
  refine lv_iconst (v := 0) hx hb dX3_init_33 (by decide) ?_
  refine zk_put hx hb htb hown hK zz_cX3 0 rfl 5 (by decide) zf_X3_28 rfl (ty := .int) (by decide +kernel) rfl rfl (Nat.le_of_ble_eq_true rfl) dX3_init_34 hP hD hS (fun H locs hP hD hS => ?_)
  have hP : va_P D vwCl [(h0, .inr (3, [.ref q7, .int 0, .int 0, .int 0, .int 0, .int 0])), (q7, .inl (cI, 120, .inl (fun _ => 0)))] H := hP
  have hD : va_D A [(h0, .inr (3, [.ref q7, .int 0, .int 0, .int 0, .int 0, .int 0])), (q7, .inl (cI, 120, .inl (fun _ => 0)))] := hD
  have hP9 := hP.sub (ws' := [(h0, .inr (3, [.ref q7, .int 0, .int 0, .int 0, .int 0, .int 0])), (q7, .inl (cI, 120, .inl (fun _ => 0)))]) [0, 1] rfl
  have hD9 := hD.sub (ws' := [(h0, .inr (3, [.ref q7, .int 0, .int 0, .int 0, .int 0, .int 0])), (q7, .inl (cI, 120, .inl (fun _ => 0)))]) [0, 1] (by decide +kernel) rfl
  have hP8 : va_P D vwCl (zz_ws (fun k => [h0, q7].getD k 0) cI cR kshT (fun k => [(fun _ => 0), (fun _ => 0)].getD k (fun _ => 0))) H := by rw [zz_ws_R]; exact hP9
  have hD8 : va_D A (zz_ws (fun k => [h0, q7].getD k 0) cI cR kshT (fun k => [(fun _ => 0), (fun _ => 0)].getD k (fun _ => 0))) := by rw [zz_ws_R]; exact hD9
  refine W.widen (k := 1) (n := 120) (Nat.le_of_ble_eq_true rfl) (Nat.le_of_ble_eq_true rfl) ?_
  have hpost : pkT ((fun k => [h0, q7].getD k 0), (fun k => [(fun _ => 0), (fun _ => 0)].getD k (fun _ => 0))) := rfl
  exact W.vret hx hb hr (fun t ht hW => ⟨⟨((fun k => [h0, q7].getD k 0), (fun k => [(fun _ => 0), (fun _ => 0)].getD k (fun _ => 0))), rfl, hpost, rfl, by rw [ht]; exact hP8, hD8⟩, hS.F ht⟩) hS.2.2 dX3_init_37
set_option maxHeartbeats 4000000 in
set_option maxRecDepth 100000 in
theorem ctK_X1 : zk_Ct kshS 1 3 116 yX1_init cX1_init 1 1 [.null, .null, .null, .int 0, .int 0, .int 0, .int 0, .int 0] pkS := by
  intro l D cI cR ad sz h0
  refine Met.ofW (cc := cX1_init) (maxL := 1) (ret := none) (by decide +kernel) rfl ?_
  intro p e s m args below meth c s₁ B hml hv
  obtain ⟨rfl, hsz, hP, hK, hD0, hNe, hO, hN2⟩ := hv
  have hx := B.exec
  have hb := B.bytes
  have hr := B.returns
  have hts : ∀ w ∈ zz_w yX1_init cX1_init 1 none, w.before (([.ref h0] : List Value).toArray) s = true := atoms_spec (ws := zz_w yX1_init cX1_init 1 none) B.pre
  have htb : ∀ w ∈ zz_TB, w.before (([.ref h0] : List Value).toArray) s = true := fun w hw => hts w (List.mem_cons_of_mem _ hw)
  have hown : s.vm.findClass RX1 = some m.cls := findClass_of_methodNamed B.named
  have hlocks := B.notSynchronized
  have hin : meth.name = "<init>" := (name_of_methodNamed B.named B.method).1
  subst hsz
  have hD := hD0.self (sz := s.heap.size)
  generalize hAe : va_A [(h0, (.inr (1, [.null, .null, .null, .int 0, .int 0, .int 0, .int 0, .int 0]) : va_E))] s.heap.size = A at hD hO ⊢
  have hA : ∀ q : Nat, s.heap.size ≤ q → A q := fun q h => by rw [← hAe]; exact Or.inr h
  have hS : va_S A s.heap s.heap [] := va_S.rf
  have hl := lv_entry ([.ref h0]) (n := 1) (Nat.le_of_ble_eq_true rfl)
  rw [lg_entry_eq]
  generalize (lg_sl ([.ref h0]) ++ List.replicate (1 - (lg_sl ([.ref h0])).length) Slot.unset).toArray = ls at hl ⊢
  have hl : lv_has ls 1 [(0, .ref h0)] := hl
  refine lv_aload_n hx hb dX1_init_0 rfl (lv_at hl 0 rfl) ?_
  refine zk_objInit hx hb htb hown hml hl zm_X1_3 (Nat.le_of_ble_eq_true rfl) (Nat.le_of_ble_eq_true rfl) dX1_init_1 ?_
  refine lv_aload_n hx hb dX1_init_4 rfl (lv_at hl 0 rfl) ?_
  refine lv_bipush (v := 8) hx hb dX1_init_5 (by decide) ?_
  refine zk_newa hx hb htb hK hA 8 (by decide) (by decide) (by decide) (Nat.le_of_ble_eq_true rfl) (Nat.le_of_ble_eq_true rfl) dX1_init_7 hP hD hS (fun q7 H hP hD hS => ?_)
  have hP : va_P D vwCl [(h0, .inr (1, [.null, .null, .null, .int 0, .int 0, .int 0, .int 0, .int 0])), (q7, .inl (cI, 8, .inl (fun _ => 0)))] H := hP
  have hD : va_D A [(h0, .inr (1, [.null, .null, .null, .int 0, .int 0, .int 0, .int 0, .int 0])), (q7, .inl (cI, 8, .inl (fun _ => 0)))] := hD
  refine zk_putF hx hb htb hown hin hK zz_cX1 0 rfl 0 (by decide) zf_X1_9 rfl rfl (ty := .array .int) (by decide +kernel) rfl rfl (Nat.le_of_ble_eq_true rfl) dX1_init_9 hP hD hS (fun H locs hP hD hS => ?_)
  have hP : va_P D vwCl [(h0, .inr (1, [.ref q7, .null, .null, .int 0, .int 0, .int 0, .int 0, .int 0])), (q7, .inl (cI, 8, .inl (fun _ => 0)))] H := hP
  have hD : va_D A [(h0, .inr (1, [.ref q7, .null, .null, .int 0, .int 0, .int 0, .int 0, .int 0])), (q7, .inl (cI, 8, .inl (fun _ => 0)))] := hD
  refine lv_aload_n hx hb dX1_init_12 rfl (lv_at hl 0 rfl) ?_
  refine lv_bipush (v := 96) hx hb dX1_init_13 (by decide) ?_
  refine zk_newa hx hb htb hK hA 96 (by decide) (by decide) (by decide) (Nat.le_of_ble_eq_true rfl) (Nat.le_of_ble_eq_true rfl) dX1_init_15 hP hD hS (fun q15 H hP hD hS => ?_)
  have hP : va_P D vwCl [(h0, .inr (1, [.ref q7, .null, .null, .int 0, .int 0, .int 0, .int 0, .int 0])), (q7, .inl (cI, 8, .inl (fun _ => 0))), (q15, .inl (cI, 96, .inl (fun _ => 0)))] H := hP
  have hD : va_D A [(h0, .inr (1, [.ref q7, .null, .null, .int 0, .int 0, .int 0, .int 0, .int 0])), (q7, .inl (cI, 8, .inl (fun _ => 0))), (q15, .inl (cI, 96, .inl (fun _ => 0)))] := hD
  refine zk_putF hx hb htb hown hin hK zz_cX1 0 rfl 1 (by decide) zf_X1_15 rfl rfl (ty := .array .int) (by decide +kernel) rfl rfl (Nat.le_of_ble_eq_true rfl) dX1_init_17 hP hD hS (fun H locs hP hD hS => ?_)
  have hP : va_P D vwCl [(h0, .inr (1, [.ref q7, .ref q15, .null, .int 0, .int 0, .int 0, .int 0, .int 0])), (q7, .inl (cI, 8, .inl (fun _ => 0))), (q15, .inl (cI, 96, .inl (fun _ => 0)))] H := hP
  have hD : va_D A [(h0, .inr (1, [.ref q7, .ref q15, .null, .int 0, .int 0, .int 0, .int 0, .int 0])), (q7, .inl (cI, 8, .inl (fun _ => 0))), (q15, .inl (cI, 96, .inl (fun _ => 0)))] := hD
  refine lv_aload_n hx hb dX1_init_20 rfl (lv_at hl 0 rfl) ?_
  refine lv_bipush (v := 12) hx hb dX1_init_21 (by decide) ?_
  refine zk_newa hx hb htb hK hA 12 (by decide) (by decide) (by decide) (Nat.le_of_ble_eq_true rfl) (Nat.le_of_ble_eq_true rfl) dX1_init_23 hP hD hS (fun q23 H hP hD hS => ?_)
  have hP : va_P D vwCl [(h0, .inr (1, [.ref q7, .ref q15, .null, .int 0, .int 0, .int 0, .int 0, .int 0])), (q7, .inl (cI, 8, .inl (fun _ => 0))), (q15, .inl (cI, 96, .inl (fun _ => 0))), (q23, .inl (cI, 12, .inl (fun _ => 0)))] H := hP
  have hD : va_D A [(h0, .inr (1, [.ref q7, .ref q15, .null, .int 0, .int 0, .int 0, .int 0, .int 0])), (q7, .inl (cI, 8, .inl (fun _ => 0))), (q15, .inl (cI, 96, .inl (fun _ => 0))), (q23, .inl (cI, 12, .inl (fun _ => 0)))] := hD
  refine zk_putF hx hb htb hown hin hK zz_cX1 0 rfl 2 (by decide) zf_X1_18 rfl rfl (ty := .array .int) (by decide +kernel) rfl rfl (Nat.le_of_ble_eq_true rfl) dX1_init_25 hP hD hS (fun H locs hP hD hS => ?_)
  have hP : va_P D vwCl [(h0, .inr (1, [.ref q7, .ref q15, .ref q23, .int 0, .int 0, .int 0, .int 0, .int 0])), (q7, .inl (cI, 8, .inl (fun _ => 0))), (q15, .inl (cI, 96, .inl (fun _ => 0))), (q23, .inl (cI, 12, .inl (fun _ => 0)))] H := hP
  have hD : va_D A [(h0, .inr (1, [.ref q7, .ref q15, .ref q23, .int 0, .int 0, .int 0, .int 0, .int 0])), (q7, .inl (cI, 8, .inl (fun _ => 0))), (q15, .inl (cI, 96, .inl (fun _ => 0))), (q23, .inl (cI, 12, .inl (fun _ => 0)))] := hD
  refine lv_aload_n hx hb dX1_init_28 rfl (lv_at hl 0 rfl) ?_
  refine lv_iconst (v := 0) hx hb dX1_init_29 (by decide) ?_
  refine zk_put hx hb htb hown hK zz_cX1 0 rfl 3 (by decide) zf_X1_21 rfl (ty := .int) (by decide +kernel) rfl rfl (Nat.le_of_ble_eq_true rfl) dX1_init_30 hP hD hS (fun H locs hP hD hS => ?_)
  have hP : va_P D vwCl [(h0, .inr (1, [.ref q7, .ref q15, .ref q23, .int 0, .int 0, .int 0, .int 0, .int 0])), (q7, .inl (cI, 8, .inl (fun _ => 0))), (q15, .inl (cI, 96, .inl (fun _ => 0))), (q23, .inl (cI, 12, .inl (fun _ => 0)))] H := hP
  have hD : va_D A [(h0, .inr (1, [.ref q7, .ref q15, .ref q23, .int 0, .int 0, .int 0, .int 0, .int 0])), (q7, .inl (cI, 8, .inl (fun _ => 0))), (q15, .inl (cI, 96, .inl (fun _ => 0))), (q23, .inl (cI, 12, .inl (fun _ => 0)))] := hD
  refine lv_aload_n hx hb dX1_init_33 rfl (lv_at hl 0 rfl) ?_
  refine lv_iconst (v := 0) hx hb dX1_init_34 (by decide) ?_
  refine zk_put hx hb htb hown hK zz_cX1 0 rfl 4 (by decide) zf_X1_25 rfl (ty := .int) (by decide +kernel) rfl rfl (Nat.le_of_ble_eq_true rfl) dX1_init_35 hP hD hS (fun H locs hP hD hS => ?_)
  have hP : va_P D vwCl [(h0, .inr (1, [.ref q7, .ref q15, .ref q23, .int 0, .int 0, .int 0, .int 0, .int 0])), (q7, .inl (cI, 8, .inl (fun _ => 0))), (q15, .inl (cI, 96, .inl (fun _ => 0))), (q23, .inl (cI, 12, .inl (fun _ => 0)))] H := hP
  have hD : va_D A [(h0, .inr (1, [.ref q7, .ref q15, .ref q23, .int 0, .int 0, .int 0, .int 0, .int 0])), (q7, .inl (cI, 8, .inl (fun _ => 0))), (q15, .inl (cI, 96, .inl (fun _ => 0))), (q23, .inl (cI, 12, .inl (fun _ => 0)))] := hD
  refine lv_aload_n hx hb dX1_init_38 rfl (lv_at hl 0 rfl) ?_
  refine lv_iconst (v := 0) hx hb dX1_init_39 (by decide) ?_
  refine zk_put hx hb htb hown hK zz_cX1 0 rfl 5 (by decide) zf_X1_28 rfl (ty := .int) (by decide +kernel) rfl rfl (Nat.le_of_ble_eq_true rfl) dX1_init_40 hP hD hS (fun H locs hP hD hS => ?_)
  have hP : va_P D vwCl [(h0, .inr (1, [.ref q7, .ref q15, .ref q23, .int 0, .int 0, .int 0, .int 0, .int 0])), (q7, .inl (cI, 8, .inl (fun _ => 0))), (q15, .inl (cI, 96, .inl (fun _ => 0))), (q23, .inl (cI, 12, .inl (fun _ => 0)))] H := hP
  have hD : va_D A [(h0, .inr (1, [.ref q7, .ref q15, .ref q23, .int 0, .int 0, .int 0, .int 0, .int 0])), (q7, .inl (cI, 8, .inl (fun _ => 0))), (q15, .inl (cI, 96, .inl (fun _ => 0))), (q23, .inl (cI, 12, .inl (fun _ => 0)))] := hD
  refine lv_aload_n hx hb dX1_init_43 rfl (lv_at hl 0 rfl) ?_
  refine lv_iconst (v := 0) hx hb dX1_init_44 (by decide) ?_
  refine zk_put hx hb htb hown hK zz_cX1 0 rfl 6 (by decide) zf_X1_31 rfl (ty := .int) (by decide +kernel) rfl rfl (Nat.le_of_ble_eq_true rfl) dX1_init_45 hP hD hS (fun H locs hP hD hS => ?_)
  have hP : va_P D vwCl [(h0, .inr (1, [.ref q7, .ref q15, .ref q23, .int 0, .int 0, .int 0, .int 0, .int 0])), (q7, .inl (cI, 8, .inl (fun _ => 0))), (q15, .inl (cI, 96, .inl (fun _ => 0))), (q23, .inl (cI, 12, .inl (fun _ => 0)))] H := hP
  have hD : va_D A [(h0, .inr (1, [.ref q7, .ref q15, .ref q23, .int 0, .int 0, .int 0, .int 0, .int 0])), (q7, .inl (cI, 8, .inl (fun _ => 0))), (q15, .inl (cI, 96, .inl (fun _ => 0))), (q23, .inl (cI, 12, .inl (fun _ => 0)))] := hD
  refine lv_aload_n hx hb dX1_init_48 rfl (lv_at hl 0 rfl) ?_
  refine lv_iconst (v := 0) hx hb dX1_init_49 (by decide) ?_
  refine zk_put hx hb htb hown hK zz_cX1 0 rfl 7 (by decide) zf_X1_34 rfl (ty := .int) (by decide +kernel) rfl rfl (Nat.le_of_ble_eq_true rfl) dX1_init_50 hP hD hS (fun H locs hP hD hS => ?_)
  have hP : va_P D vwCl [(h0, .inr (1, [.ref q7, .ref q15, .ref q23, .int 0, .int 0, .int 0, .int 0, .int 0])), (q7, .inl (cI, 8, .inl (fun _ => 0))), (q15, .inl (cI, 96, .inl (fun _ => 0))), (q23, .inl (cI, 12, .inl (fun _ => 0)))] H := hP
  have hD : va_D A [(h0, .inr (1, [.ref q7, .ref q15, .ref q23, .int 0, .int 0, .int 0, .int 0, .int 0])), (q7, .inl (cI, 8, .inl (fun _ => 0))), (q15, .inl (cI, 96, .inl (fun _ => 0))), (q23, .inl (cI, 12, .inl (fun _ => 0)))] := hD
  have hP9 := hP.sub (ws' := [(h0, .inr (1, [.ref q7, .ref q15, .ref q23, .int 0, .int 0, .int 0, .int 0, .int 0])), (q7, .inl (cI, 8, .inl (fun _ => 0))), (q15, .inl (cI, 96, .inl (fun _ => 0))), (q23, .inl (cI, 12, .inl (fun _ => 0)))]) [0, 1, 2, 3] rfl
  have hD9 := hD.sub (ws' := [(h0, .inr (1, [.ref q7, .ref q15, .ref q23, .int 0, .int 0, .int 0, .int 0, .int 0])), (q7, .inl (cI, 8, .inl (fun _ => 0))), (q15, .inl (cI, 96, .inl (fun _ => 0))), (q23, .inl (cI, 12, .inl (fun _ => 0)))]) [0, 1, 2, 3] (by decide +kernel) rfl
  have hP8 : va_P D vwCl (zz_ws (fun k => [h0, q7, q15, q23].getD k 0) cI cR kshS (fun k => [(fun _ => 0), (fun _ => 0), (fun _ => 0), (fun _ => 0)].getD k (fun _ => 0))) H := by rw [zz_ws_R]; exact hP9
  have hD8 : va_D A (zz_ws (fun k => [h0, q7, q15, q23].getD k 0) cI cR kshS (fun k => [(fun _ => 0), (fun _ => 0), (fun _ => 0), (fun _ => 0)].getD k (fun _ => 0))) := by rw [zz_ws_R]; exact hD9
  refine W.widen (k := 3) (n := 116) (Nat.le_of_ble_eq_true rfl) (Nat.le_of_ble_eq_true rfl) ?_
  have hpost : pkS ((fun k => [h0, q7, q15, q23].getD k 0), (fun k => [(fun _ => 0), (fun _ => 0), (fun _ => 0), (fun _ => 0)].getD k (fun _ => 0))) := trivial
  exact W.vret hx hb hr (fun t ht hW => ⟨⟨((fun k => [h0, q7, q15, q23].getD k 0), (fun k => [(fun _ => 0), (fun _ => 0), (fun _ => 0), (fun _ => 0)].getD k (fun _ => 0))), rfl, hpost, rfl, by rw [ht]; exact hP8, hD8⟩, hS.F ht⟩) hS.2.2 dX1_init_53
set_option maxHeartbeats 4000000 in
set_option maxRecDepth 100000 in
theorem ctK_X0 : zk_Ct kshP 1 7 242 yX0_init cX0_init 1 0 [.null, .null, .null, .null, .null, .null, .null, .int 0, .int 0, .int 0] pkP := by
  intro l D cI cR ad sz h0
  refine Met.ofW (cc := cX0_init) (maxL := 1) (ret := none) (by decide +kernel) rfl ?_
  intro p e s m args below meth c s₁ B hml hv
  obtain ⟨rfl, hsz, hP, hK, hD0, hNe, hO, hN2⟩ := hv
  have hx := B.exec
  have hb := B.bytes
  have hr := B.returns
  have hts : ∀ w ∈ zz_w yX0_init cX0_init 1 none, w.before (([.ref h0] : List Value).toArray) s = true := atoms_spec (ws := zz_w yX0_init cX0_init 1 none) B.pre
  have htb : ∀ w ∈ zz_TB, w.before (([.ref h0] : List Value).toArray) s = true := fun w hw => hts w (List.mem_cons_of_mem _ hw)
  have hown : s.vm.findClass RX0 = some m.cls := findClass_of_methodNamed B.named
  have hlocks := B.notSynchronized
  have hin : meth.name = "<init>" := (name_of_methodNamed B.named B.method).1
  subst hsz
  have hD := hD0.self (sz := s.heap.size)
  generalize hAe : va_A [(h0, (.inr (0, [.null, .null, .null, .null, .null, .null, .null, .int 0, .int 0, .int 0]) : va_E))] s.heap.size = A at hD hO ⊢
  have hA : ∀ q : Nat, s.heap.size ≤ q → A q := fun q h => by rw [← hAe]; exact Or.inr h
  have hS : va_S A s.heap s.heap [] := va_S.rf
  have hl := lv_entry ([.ref h0]) (n := 1) (Nat.le_of_ble_eq_true rfl)
  rw [lg_entry_eq]
  generalize (lg_sl ([.ref h0]) ++ List.replicate (1 - (lg_sl ([.ref h0])).length) Slot.unset).toArray = ls at hl ⊢
  have hl : lv_has ls 1 [(0, .ref h0)] := hl
  refine lv_aload_n hx hb dX0_init_0 rfl (lv_at hl 0 rfl) ?_
  refine zk_objInit hx hb htb hown hml hl zm_X0_3 (Nat.le_of_ble_eq_true rfl) (Nat.le_of_ble_eq_true rfl) dX0_init_1 ?_
  refine lv_aload_n hx hb dX0_init_4 rfl (lv_at hl 0 rfl) ?_
  refine lv_bipush (v := 8) hx hb dX0_init_5 (by decide) ?_
  refine zk_newa hx hb htb hK hA 8 (by decide) (by decide) (by decide) (Nat.le_of_ble_eq_true rfl) (Nat.le_of_ble_eq_true rfl) dX0_init_7 hP hD hS (fun q7 H hP hD hS => ?_)
  have hP : va_P D vwCl [(h0, .inr (0, [.null, .null, .null, .null, .null, .null, .null, .int 0, .int 0, .int 0])), (q7, .inl (cI, 8, .inl (fun _ => 0)))] H := hP
  have hD : va_D A [(h0, .inr (0, [.null, .null, .null, .null, .null, .null, .null, .int 0, .int 0, .int 0])), (q7, .inl (cI, 8, .inl (fun _ => 0)))] := hD
  refine zk_putF hx hb htb hown hin hK zz_cX0 0 rfl 0 (by decide) zf_X0_9 rfl rfl (ty := .array .int) (by decide +kernel) rfl rfl (Nat.le_of_ble_eq_true rfl) dX0_init_9 hP hD hS (fun H locs hP hD hS => ?_)
  have hP : va_P D vwCl [(h0, .inr (0, [.ref q7, .null, .null, .null, .null, .null, .null, .int 0, .int 0, .int 0])), (q7, .inl (cI, 8, .inl (fun _ => 0)))] H := hP
  have hD : va_D A [(h0, .inr (0, [.ref q7, .null, .null, .null, .null, .null, .null, .int 0, .int 0, .int 0])), (q7, .inl (cI, 8, .inl (fun _ => 0)))] := hD
  refine lv_aload_n hx hb dX0_init_12 rfl (lv_at hl 0 rfl) ?_
  refine lv_bipush (v := 8) hx hb dX0_init_13 (by decide) ?_
  refine zk_newa hx hb htb hK hA 8 (by decide) (by decide) (by decide) (Nat.le_of_ble_eq_true rfl) (Nat.le_of_ble_eq_true rfl) dX0_init_15 hP hD hS (fun q15 H hP hD hS => ?_)
  have hP : va_P D vwCl [(h0, .inr (0, [.ref q7, .null, .null, .null, .null, .null, .null, .int 0, .int 0, .int 0])), (q7, .inl (cI, 8, .inl (fun _ => 0))), (q15, .inl (cI, 8, .inl (fun _ => 0)))] H := hP
  have hD : va_D A [(h0, .inr (0, [.ref q7, .null, .null, .null, .null, .null, .null, .int 0, .int 0, .int 0])), (q7, .inl (cI, 8, .inl (fun _ => 0))), (q15, .inl (cI, 8, .inl (fun _ => 0)))] := hD
  refine zk_putF hx hb htb hown hin hK zz_cX0 0 rfl 1 (by decide) zf_X0_15 rfl rfl (ty := .array .int) (by decide +kernel) rfl rfl (Nat.le_of_ble_eq_true rfl) dX0_init_17 hP hD hS (fun H locs hP hD hS => ?_)
  have hP : va_P D vwCl [(h0, .inr (0, [.ref q7, .ref q15, .null, .null, .null, .null, .null, .int 0, .int 0, .int 0])), (q7, .inl (cI, 8, .inl (fun _ => 0))), (q15, .inl (cI, 8, .inl (fun _ => 0)))] H := hP
  have hD : va_D A [(h0, .inr (0, [.ref q7, .ref q15, .null, .null, .null, .null, .null, .int 0, .int 0, .int 0])), (q7, .inl (cI, 8, .inl (fun _ => 0))), (q15, .inl (cI, 8, .inl (fun _ => 0)))] := hD
  refine lv_aload_n hx hb dX0_init_20 rfl (lv_at hl 0 rfl) ?_
  refine lv_bipush (v := 12) hx hb dX0_init_21 (by decide) ?_
  refine zk_newa hx hb htb hK hA 12 (by decide) (by decide) (by decide) (Nat.le_of_ble_eq_true rfl) (Nat.le_of_ble_eq_true rfl) dX0_init_23 hP hD hS (fun q23 H hP hD hS => ?_)
  have hP : va_P D vwCl [(h0, .inr (0, [.ref q7, .ref q15, .null, .null, .null, .null, .null, .int 0, .int 0, .int 0])), (q7, .inl (cI, 8, .inl (fun _ => 0))), (q15, .inl (cI, 8, .inl (fun _ => 0))), (q23, .inl (cI, 12, .inl (fun _ => 0)))] H := hP
  have hD : va_D A [(h0, .inr (0, [.ref q7, .ref q15, .null, .null, .null, .null, .null, .int 0, .int 0, .int 0])), (q7, .inl (cI, 8, .inl (fun _ => 0))), (q15, .inl (cI, 8, .inl (fun _ => 0))), (q23, .inl (cI, 12, .inl (fun _ => 0)))] := hD
  refine zk_putF hx hb htb hown hin hK zz_cX0 0 rfl 2 (by decide) zf_X0_18 rfl rfl (ty := .array .int) (by decide +kernel) rfl rfl (Nat.le_of_ble_eq_true rfl) dX0_init_25 hP hD hS (fun H locs hP hD hS => ?_)
  have hP : va_P D vwCl [(h0, .inr (0, [.ref q7, .ref q15, .ref q23, .null, .null, .null, .null, .int 0, .int 0, .int 0])), (q7, .inl (cI, 8, .inl (fun _ => 0))), (q15, .inl (cI, 8, .inl (fun _ => 0))), (q23, .inl (cI, 12, .inl (fun _ => 0)))] H := hP
  have hD : va_D A [(h0, .inr (0, [.ref q7, .ref q15, .ref q23, .null, .null, .null, .null, .int 0, .int 0, .int 0])), (q7, .inl (cI, 8, .inl (fun _ => 0))), (q15, .inl (cI, 8, .inl (fun _ => 0))), (q23, .inl (cI, 12, .inl (fun _ => 0)))] := hD
  refine lv_aload_n hx hb dX0_init_28 rfl (lv_at hl 0 rfl) ?_
  refine lv_sipush (v := 192) hx hb dX0_init_29 (by decide) ?_
  refine zk_newa hx hb htb hK hA 192 (by decide) (by decide) (by decide) (Nat.le_of_ble_eq_true rfl) (Nat.le_of_ble_eq_true rfl) dX0_init_32 hP hD hS (fun q32 H hP hD hS => ?_)
  have hP : va_P D vwCl [(h0, .inr (0, [.ref q7, .ref q15, .ref q23, .null, .null, .null, .null, .int 0, .int 0, .int 0])), (q7, .inl (cI, 8, .inl (fun _ => 0))), (q15, .inl (cI, 8, .inl (fun _ => 0))), (q23, .inl (cI, 12, .inl (fun _ => 0))), (q32, .inl (cI, 192, .inl (fun _ => 0)))] H := hP
  have hD : va_D A [(h0, .inr (0, [.ref q7, .ref q15, .ref q23, .null, .null, .null, .null, .int 0, .int 0, .int 0])), (q7, .inl (cI, 8, .inl (fun _ => 0))), (q15, .inl (cI, 8, .inl (fun _ => 0))), (q23, .inl (cI, 12, .inl (fun _ => 0))), (q32, .inl (cI, 192, .inl (fun _ => 0)))] := hD
  refine zk_putF hx hb htb hown hin hK zz_cX0 0 rfl 3 (by decide) zf_X0_21 rfl rfl (ty := .array .int) (by decide +kernel) rfl rfl (Nat.le_of_ble_eq_true rfl) dX0_init_34 hP hD hS (fun H locs hP hD hS => ?_)
  have hP : va_P D vwCl [(h0, .inr (0, [.ref q7, .ref q15, .ref q23, .ref q32, .null, .null, .null, .int 0, .int 0, .int 0])), (q7, .inl (cI, 8, .inl (fun _ => 0))), (q15, .inl (cI, 8, .inl (fun _ => 0))), (q23, .inl (cI, 12, .inl (fun _ => 0))), (q32, .inl (cI, 192, .inl (fun _ => 0)))] H := hP
  have hD : va_D A [(h0, .inr (0, [.ref q7, .ref q15, .ref q23, .ref q32, .null, .null, .null, .int 0, .int 0, .int 0])), (q7, .inl (cI, 8, .inl (fun _ => 0))), (q15, .inl (cI, 8, .inl (fun _ => 0))), (q23, .inl (cI, 12, .inl (fun _ => 0))), (q32, .inl (cI, 192, .inl (fun _ => 0)))] := hD
  refine lv_aload_n hx hb dX0_init_37 rfl (lv_at hl 0 rfl) ?_
  refine lv_bipush (v := 6) hx hb dX0_init_38 (by decide) ?_
  refine zk_newa hx hb htb hK hA 6 (by decide) (by decide) (by decide) (Nat.le_of_ble_eq_true rfl) (Nat.le_of_ble_eq_true rfl) dX0_init_40 hP hD hS (fun q40 H hP hD hS => ?_)
  have hP : va_P D vwCl [(h0, .inr (0, [.ref q7, .ref q15, .ref q23, .ref q32, .null, .null, .null, .int 0, .int 0, .int 0])), (q7, .inl (cI, 8, .inl (fun _ => 0))), (q15, .inl (cI, 8, .inl (fun _ => 0))), (q23, .inl (cI, 12, .inl (fun _ => 0))), (q32, .inl (cI, 192, .inl (fun _ => 0))), (q40, .inl (cI, 6, .inl (fun _ => 0)))] H := hP
  have hD : va_D A [(h0, .inr (0, [.ref q7, .ref q15, .ref q23, .ref q32, .null, .null, .null, .int 0, .int 0, .int 0])), (q7, .inl (cI, 8, .inl (fun _ => 0))), (q15, .inl (cI, 8, .inl (fun _ => 0))), (q23, .inl (cI, 12, .inl (fun _ => 0))), (q32, .inl (cI, 192, .inl (fun _ => 0))), (q40, .inl (cI, 6, .inl (fun _ => 0)))] := hD
  refine zk_putF hx hb htb hown hin hK zz_cX0 0 rfl 4 (by decide) zf_X0_24 rfl rfl (ty := .array .int) (by decide +kernel) rfl rfl (Nat.le_of_ble_eq_true rfl) dX0_init_42 hP hD hS (fun H locs hP hD hS => ?_)
  have hP : va_P D vwCl [(h0, .inr (0, [.ref q7, .ref q15, .ref q23, .ref q32, .ref q40, .null, .null, .int 0, .int 0, .int 0])), (q7, .inl (cI, 8, .inl (fun _ => 0))), (q15, .inl (cI, 8, .inl (fun _ => 0))), (q23, .inl (cI, 12, .inl (fun _ => 0))), (q32, .inl (cI, 192, .inl (fun _ => 0))), (q40, .inl (cI, 6, .inl (fun _ => 0)))] H := hP
  have hD : va_D A [(h0, .inr (0, [.ref q7, .ref q15, .ref q23, .ref q32, .ref q40, .null, .null, .int 0, .int 0, .int 0])), (q7, .inl (cI, 8, .inl (fun _ => 0))), (q15, .inl (cI, 8, .inl (fun _ => 0))), (q23, .inl (cI, 12, .inl (fun _ => 0))), (q32, .inl (cI, 192, .inl (fun _ => 0))), (q40, .inl (cI, 6, .inl (fun _ => 0)))] := hD
  refine lv_aload_n hx hb dX0_init_45 rfl (lv_at hl 0 rfl) ?_
  refine lv_bipush (v := 6) hx hb dX0_init_46 (by decide) ?_
  refine zk_newa hx hb htb hK hA 6 (by decide) (by decide) (by decide) (Nat.le_of_ble_eq_true rfl) (Nat.le_of_ble_eq_true rfl) dX0_init_48 hP hD hS (fun q48 H hP hD hS => ?_)
  have hP : va_P D vwCl [(h0, .inr (0, [.ref q7, .ref q15, .ref q23, .ref q32, .ref q40, .null, .null, .int 0, .int 0, .int 0])), (q7, .inl (cI, 8, .inl (fun _ => 0))), (q15, .inl (cI, 8, .inl (fun _ => 0))), (q23, .inl (cI, 12, .inl (fun _ => 0))), (q32, .inl (cI, 192, .inl (fun _ => 0))), (q40, .inl (cI, 6, .inl (fun _ => 0))), (q48, .inl (cI, 6, .inl (fun _ => 0)))] H := hP
  have hD : va_D A [(h0, .inr (0, [.ref q7, .ref q15, .ref q23, .ref q32, .ref q40, .null, .null, .int 0, .int 0, .int 0])), (q7, .inl (cI, 8, .inl (fun _ => 0))), (q15, .inl (cI, 8, .inl (fun _ => 0))), (q23, .inl (cI, 12, .inl (fun _ => 0))), (q32, .inl (cI, 192, .inl (fun _ => 0))), (q40, .inl (cI, 6, .inl (fun _ => 0))), (q48, .inl (cI, 6, .inl (fun _ => 0)))] := hD
  refine zk_putF hx hb htb hown hin hK zz_cX0 0 rfl 5 (by decide) zf_X0_27 rfl rfl (ty := .array .int) (by decide +kernel) rfl rfl (Nat.le_of_ble_eq_true rfl) dX0_init_50 hP hD hS (fun H locs hP hD hS => ?_)
  have hP : va_P D vwCl [(h0, .inr (0, [.ref q7, .ref q15, .ref q23, .ref q32, .ref q40, .ref q48, .null, .int 0, .int 0, .int 0])), (q7, .inl (cI, 8, .inl (fun _ => 0))), (q15, .inl (cI, 8, .inl (fun _ => 0))), (q23, .inl (cI, 12, .inl (fun _ => 0))), (q32, .inl (cI, 192, .inl (fun _ => 0))), (q40, .inl (cI, 6, .inl (fun _ => 0))), (q48, .inl (cI, 6, .inl (fun _ => 0)))] H := hP
  have hD : va_D A [(h0, .inr (0, [.ref q7, .ref q15, .ref q23, .ref q32, .ref q40, .ref q48, .null, .int 0, .int 0, .int 0])), (q7, .inl (cI, 8, .inl (fun _ => 0))), (q15, .inl (cI, 8, .inl (fun _ => 0))), (q23, .inl (cI, 12, .inl (fun _ => 0))), (q32, .inl (cI, 192, .inl (fun _ => 0))), (q40, .inl (cI, 6, .inl (fun _ => 0))), (q48, .inl (cI, 6, .inl (fun _ => 0)))] := hD
  refine lv_aload_n hx hb dX0_init_53 rfl (lv_at hl 0 rfl) ?_
  refine lv_bipush (v := 10) hx hb dX0_init_54 (by decide) ?_
  refine zk_newa hx hb htb hK hA 10 (by decide) (by decide) (by decide) (Nat.le_of_ble_eq_true rfl) (Nat.le_of_ble_eq_true rfl) dX0_init_56 hP hD hS (fun q56 H hP hD hS => ?_)
  have hP : va_P D vwCl [(h0, .inr (0, [.ref q7, .ref q15, .ref q23, .ref q32, .ref q40, .ref q48, .null, .int 0, .int 0, .int 0])), (q7, .inl (cI, 8, .inl (fun _ => 0))), (q15, .inl (cI, 8, .inl (fun _ => 0))), (q23, .inl (cI, 12, .inl (fun _ => 0))), (q32, .inl (cI, 192, .inl (fun _ => 0))), (q40, .inl (cI, 6, .inl (fun _ => 0))), (q48, .inl (cI, 6, .inl (fun _ => 0))), (q56, .inl (cI, 10, .inl (fun _ => 0)))] H := hP
  have hD : va_D A [(h0, .inr (0, [.ref q7, .ref q15, .ref q23, .ref q32, .ref q40, .ref q48, .null, .int 0, .int 0, .int 0])), (q7, .inl (cI, 8, .inl (fun _ => 0))), (q15, .inl (cI, 8, .inl (fun _ => 0))), (q23, .inl (cI, 12, .inl (fun _ => 0))), (q32, .inl (cI, 192, .inl (fun _ => 0))), (q40, .inl (cI, 6, .inl (fun _ => 0))), (q48, .inl (cI, 6, .inl (fun _ => 0))), (q56, .inl (cI, 10, .inl (fun _ => 0)))] := hD
  refine zk_putF hx hb htb hown hin hK zz_cX0 0 rfl 6 (by decide) zf_X0_30 rfl rfl (ty := .array .int) (by decide +kernel) rfl rfl (Nat.le_of_ble_eq_true rfl) dX0_init_58 hP hD hS (fun H locs hP hD hS => ?_)
  have hP : va_P D vwCl [(h0, .inr (0, [.ref q7, .ref q15, .ref q23, .ref q32, .ref q40, .ref q48, .ref q56, .int 0, .int 0, .int 0])), (q7, .inl (cI, 8, .inl (fun _ => 0))), (q15, .inl (cI, 8, .inl (fun _ => 0))), (q23, .inl (cI, 12, .inl (fun _ => 0))), (q32, .inl (cI, 192, .inl (fun _ => 0))), (q40, .inl (cI, 6, .inl (fun _ => 0))), (q48, .inl (cI, 6, .inl (fun _ => 0))), (q56, .inl (cI, 10, .inl (fun _ => 0)))] H := hP
  have hD : va_D A [(h0, .inr (0, [.ref q7, .ref q15, .ref q23, .ref q32, .ref q40, .ref q48, .ref q56, .int 0, .int 0, .int 0])), (q7, .inl (cI, 8, .inl (fun _ => 0))), (q15, .inl (cI, 8, .inl (fun _ => 0))), (q23, .inl (cI, 12, .inl (fun _ => 0))), (q32, .inl (cI, 192, .inl (fun _ => 0))), (q40, .inl (cI, 6, .inl (fun _ => 0))), (q48, .inl (cI, 6, .inl (fun _ => 0))), (q56, .inl (cI, 10, .inl (fun _ => 0)))] := hD
  refine lv_aload_n hx hb dX0_init_61 rfl (lv_at hl 0 rfl) ?_
  refine lv_iconst (v := 0) hx hb dX0_init_62 (by decide) ?_
  refine zk_put hx hb htb hown hK zz_cX0 0 rfl 7 (by decide) zf_X0_33 rfl (ty := .int) (by decide +kernel) rfl rfl (Nat.le_of_ble_eq_true rfl) dX0_init_63 hP hD hS (fun H locs hP hD hS => ?_)
  have hP : va_P D vwCl [(h0, .inr (0, [.ref q7, .ref q15, .ref q23, .ref q32, .ref q40, .ref q48, .ref q56, .int 0, .int 0, .int 0])), (q7, .inl (cI, 8, .inl (fun _ => 0))), (q15, .inl (cI, 8, .inl (fun _ => 0))), (q23, .inl (cI, 12, .inl (fun _ => 0))), (q32, .inl (cI, 192, .inl (fun _ => 0))), (q40, .inl (cI, 6, .inl (fun _ => 0))), (q48, .inl (cI, 6, .inl (fun _ => 0))), (q56, .inl (cI, 10, .inl (fun _ => 0)))] H := hP
  have hD : va_D A [(h0, .inr (0, [.ref q7, .ref q15, .ref q23, .ref q32, .ref q40, .ref q48, .ref q56, .int 0, .int 0, .int 0])), (q7, .inl (cI, 8, .inl (fun _ => 0))), (q15, .inl (cI, 8, .inl (fun _ => 0))), (q23, .inl (cI, 12, .inl (fun _ => 0))), (q32, .inl (cI, 192, .inl (fun _ => 0))), (q40, .inl (cI, 6, .inl (fun _ => 0))), (q48, .inl (cI, 6, .inl (fun _ => 0))), (q56, .inl (cI, 10, .inl (fun _ => 0)))] := hD
  refine lv_aload_n hx hb dX0_init_66 rfl (lv_at hl 0 rfl) ?_
  refine lv_iconst (v := 0) hx hb dX0_init_67 (by decide) ?_
  refine zk_put hx hb htb hown hK zz_cX0 0 rfl 8 (by decide) zf_X0_37 rfl (ty := .int) (by decide +kernel) rfl rfl (Nat.le_of_ble_eq_true rfl) dX0_init_68 hP hD hS (fun H locs hP hD hS => ?_)
  have hP : va_P D vwCl [(h0, .inr (0, [.ref q7, .ref q15, .ref q23, .ref q32, .ref q40, .ref q48, .ref q56, .int 0, .int 0, .int 0])), (q7, .inl (cI, 8, .inl (fun _ => 0))), (q15, .inl (cI, 8, .inl (fun _ => 0))), (q23, .inl (cI, 12, .inl (fun _ => 0))), (q32, .inl (cI, 192, .inl (fun _ => 0))), (q40, .inl (cI, 6, .inl (fun _ => 0))), (q48, .inl (cI, 6, .inl (fun _ => 0))), (q56, .inl (cI, 10, .inl (fun _ => 0)))] H := hP
  have hD : va_D A [(h0, .inr (0, [.ref q7, .ref q15, .ref q23, .ref q32, .ref q40, .ref q48, .ref q56, .int 0, .int 0, .int 0])), (q7, .inl (cI, 8, .inl (fun _ => 0))), (q15, .inl (cI, 8, .inl (fun _ => 0))), (q23, .inl (cI, 12, .inl (fun _ => 0))), (q32, .inl (cI, 192, .inl (fun _ => 0))), (q40, .inl (cI, 6, .inl (fun _ => 0))), (q48, .inl (cI, 6, .inl (fun _ => 0))), (q56, .inl (cI, 10, .inl (fun _ => 0)))] := hD
  refine lv_aload_n hx hb dX0_init_71 rfl (lv_at hl 0 rfl) ?_
  refine lv_iconst (v := 1) hx hb dX0_init_72 (by decide) ?_
  refine zk_put hx hb htb hown hK zz_cX0 0 rfl 9 (by decide) zf_X0_40 rfl (ty := .int) (by decide +kernel) rfl rfl (Nat.le_of_ble_eq_true rfl) dX0_init_73 hP hD hS (fun H locs hP hD hS => ?_)
  have hP : va_P D vwCl [(h0, .inr (0, [.ref q7, .ref q15, .ref q23, .ref q32, .ref q40, .ref q48, .ref q56, .int 0, .int 0, .int 1])), (q7, .inl (cI, 8, .inl (fun _ => 0))), (q15, .inl (cI, 8, .inl (fun _ => 0))), (q23, .inl (cI, 12, .inl (fun _ => 0))), (q32, .inl (cI, 192, .inl (fun _ => 0))), (q40, .inl (cI, 6, .inl (fun _ => 0))), (q48, .inl (cI, 6, .inl (fun _ => 0))), (q56, .inl (cI, 10, .inl (fun _ => 0)))] H := hP
  have hD : va_D A [(h0, .inr (0, [.ref q7, .ref q15, .ref q23, .ref q32, .ref q40, .ref q48, .ref q56, .int 0, .int 0, .int 1])), (q7, .inl (cI, 8, .inl (fun _ => 0))), (q15, .inl (cI, 8, .inl (fun _ => 0))), (q23, .inl (cI, 12, .inl (fun _ => 0))), (q32, .inl (cI, 192, .inl (fun _ => 0))), (q40, .inl (cI, 6, .inl (fun _ => 0))), (q48, .inl (cI, 6, .inl (fun _ => 0))), (q56, .inl (cI, 10, .inl (fun _ => 0)))] := hD
  refine lv_aload_n hx hb dX0_init_76 rfl (lv_at hl 0 rfl) ?_
  refine va_get (D := D) (ci := 0) (v := .ref q7) (C := RX0) (T := TX0) (N := 10) hx hb htb zz_inX0 hown hK hP 0 rfl rfl 0 (by decide) (htb _ zf_X0_9) (fun _ h9 => h9) rfl dX0_init_77 ?_
  refine lv_bipush (v := 10) hx hb dX0_init_80 (by decide) ?_
  refine zk_fill hx hb hml htb hown hK hA hNe hO hl zm_X0_43 10 1 rfl (by decide) (Nat.le_of_ble_eq_true rfl) (Nat.le_of_ble_eq_true rfl) (Nat.le_of_ble_eq_true rfl) (Nat.le_of_ble_eq_true rfl) dX0_init_82 hP hD hS (fun g82 H locs wg82 hP hD hS => ?_)
  have hP : va_P D vwCl [(h0, .inr (0, [.ref q7, .ref q15, .ref q23, .ref q32, .ref q40, .ref q48, .ref q56, .int 0, .int 0, .int 1])), (q7, .inl (cI, 8, .inl g82)), (q15, .inl (cI, 8, .inl (fun _ => 0))), (q23, .inl (cI, 12, .inl (fun _ => 0))), (q32, .inl (cI, 192, .inl (fun _ => 0))), (q40, .inl (cI, 6, .inl (fun _ => 0))), (q48, .inl (cI, 6, .inl (fun _ => 0))), (q56, .inl (cI, 10, .inl (fun _ => 0)))] H := hP
  have hD : va_D A [(h0, .inr (0, [.ref q7, .ref q15, .ref q23, .ref q32, .ref q40, .ref q48, .ref q56, .int 0, .int 0, .int 1])), (q7, .inl (cI, 8, .inl g82)), (q15, .inl (cI, 8, .inl (fun _ => 0))), (q23, .inl (cI, 12, .inl (fun _ => 0))), (q32, .inl (cI, 192, .inl (fun _ => 0))), (q40, .inl (cI, 6, .inl (fun _ => 0))), (q48, .inl (cI, 6, .inl (fun _ => 0))), (q56, .inl (cI, 10, .inl (fun _ => 0)))] := hD
  refine lv_aload_n hx hb dX0_init_85 rfl (lv_at hl 0 rfl) ?_
  refine va_get (D := D) (ci := 0) (v := .ref q15) (C := RX0) (T := TX0) (N := 10) hx hb htb zz_inX0 hown hK hP 0 rfl rfl 1 (by decide) (htb _ zf_X0_15) (fun _ h9 => h9) rfl dX0_init_86 ?_
  refine lv_iconst (v := (-1)) hx hb dX0_init_89 (by decide) ?_
  refine zk_fill hx hb hml htb hown hK hA hNe hO hl zm_X0_43 (-1) 2 rfl (by decide) (Nat.le_of_ble_eq_true rfl) (Nat.le_of_ble_eq_true rfl) (Nat.le_of_ble_eq_true rfl) (Nat.le_of_ble_eq_true rfl) dX0_init_90 hP hD hS (fun g90 H locs wg90 hP hD hS => ?_)
  have hP : va_P D vwCl [(h0, .inr (0, [.ref q7, .ref q15, .ref q23, .ref q32, .ref q40, .ref q48, .ref q56, .int 0, .int 0, .int 1])), (q7, .inl (cI, 8, .inl g82)), (q15, .inl (cI, 8, .inl g90)), (q23, .inl (cI, 12, .inl (fun _ => 0))), (q32, .inl (cI, 192, .inl (fun _ => 0))), (q40, .inl (cI, 6, .inl (fun _ => 0))), (q48, .inl (cI, 6, .inl (fun _ => 0))), (q56, .inl (cI, 10, .inl (fun _ => 0)))] H := hP
  have hD : va_D A [(h0, .inr (0, [.ref q7, .ref q15, .ref q23, .ref q32, .ref q40, .ref q48, .ref q56, .int 0, .int 0, .int 1])), (q7, .inl (cI, 8, .inl g82)), (q15, .inl (cI, 8, .inl g90)), (q23, .inl (cI, 12, .inl (fun _ => 0))), (q32, .inl (cI, 192, .inl (fun _ => 0))), (q40, .inl (cI, 6, .inl (fun _ => 0))), (q48, .inl (cI, 6, .inl (fun _ => 0))), (q56, .inl (cI, 10, .inl (fun _ => 0)))] := hD
  refine lv_aload_n hx hb dX0_init_93 rfl (lv_at hl 0 rfl) ?_
  refine va_get (D := D) (ci := 0) (v := .ref q56) (C := RX0) (T := TX0) (N := 10) hx hb htb zz_inX0 hown hK hP 0 rfl rfl 6 (by decide) (htb _ zf_X0_30) (fun _ h9 => h9) rfl dX0_init_94 ?_
  refine lv_iconst (v := (-1)) hx hb dX0_init_97 (by decide) ?_
  refine zk_fill hx hb hml htb hown hK hA hNe hO hl zm_X0_43 (-1) 7 rfl (by decide) (Nat.le_of_ble_eq_true rfl) (Nat.le_of_ble_eq_true rfl) (Nat.le_of_ble_eq_true rfl) (Nat.le_of_ble_eq_true rfl) dX0_init_98 hP hD hS (fun g98 H locs wg98 hP hD hS => ?_)
  have hP : va_P D vwCl [(h0, .inr (0, [.ref q7, .ref q15, .ref q23, .ref q32, .ref q40, .ref q48, .ref q56, .int 0, .int 0, .int 1])), (q7, .inl (cI, 8, .inl g82)), (q15, .inl (cI, 8, .inl g90)), (q23, .inl (cI, 12, .inl (fun _ => 0))), (q32, .inl (cI, 192, .inl (fun _ => 0))), (q40, .inl (cI, 6, .inl (fun _ => 0))), (q48, .inl (cI, 6, .inl (fun _ => 0))), (q56, .inl (cI, 10, .inl g98))] H := hP
  have hD : va_D A [(h0, .inr (0, [.ref q7, .ref q15, .ref q23, .ref q32, .ref q40, .ref q48, .ref q56, .int 0, .int 0, .int 1])), (q7, .inl (cI, 8, .inl g82)), (q15, .inl (cI, 8, .inl g90)), (q23, .inl (cI, 12, .inl (fun _ => 0))), (q32, .inl (cI, 192, .inl (fun _ => 0))), (q40, .inl (cI, 6, .inl (fun _ => 0))), (q48, .inl (cI, 6, .inl (fun _ => 0))), (q56, .inl (cI, 10, .inl g98))] := hD
  have hP9 := hP.sub (ws' := [(h0, .inr (0, [.ref q7, .ref q15, .ref q23, .ref q32, .ref q40, .ref q48, .ref q56, .int 0, .int 0, .int 1])), (q7, .inl (cI, 8, .inl g82)), (q15, .inl (cI, 8, .inl g90)), (q23, .inl (cI, 12, .inl (fun _ => 0))), (q32, .inl (cI, 192, .inl (fun _ => 0))), (q40, .inl (cI, 6, .inl (fun _ => 0))), (q48, .inl (cI, 6, .inl (fun _ => 0))), (q56, .inl (cI, 10, .inl g98))]) [0, 1, 2, 3, 4, 5, 6, 7] rfl
  have hD9 := hD.sub (ws' := [(h0, .inr (0, [.ref q7, .ref q15, .ref q23, .ref q32, .ref q40, .ref q48, .ref q56, .int 0, .int 0, .int 1])), (q7, .inl (cI, 8, .inl g82)), (q15, .inl (cI, 8, .inl g90)), (q23, .inl (cI, 12, .inl (fun _ => 0))), (q32, .inl (cI, 192, .inl (fun _ => 0))), (q40, .inl (cI, 6, .inl (fun _ => 0))), (q48, .inl (cI, 6, .inl (fun _ => 0))), (q56, .inl (cI, 10, .inl g98))]) [0, 1, 2, 3, 4, 5, 6, 7] (by decide +kernel) rfl
  have hP8 : va_P D vwCl (zz_ws (fun k => [h0, q7, q15, q23, q32, q40, q48, q56].getD k 0) cI cR kshP (fun k => [(fun (j : Nat) => if j = 9 then 1 else 0), g82, g90, (fun _ => 0), (fun _ => 0), (fun _ => 0), (fun _ => 0), g98].getD k (fun _ => 0))) H := by rw [zz_ws_R]; exact hP9
  have hD8 : va_D A (zz_ws (fun k => [h0, q7, q15, q23, q32, q40, q48, q56].getD k 0) cI cR kshP (fun k => [(fun (j : Nat) => if j = 9 then 1 else 0), g82, g90, (fun _ => 0), (fun _ => 0), (fun _ => 0), (fun _ => 0), g98].getD k (fun _ => 0))) := by rw [zz_ws_R]; exact hD9
  refine W.widen (k := 7) (n := 242) (Nat.le_of_ble_eq_true rfl) (Nat.le_of_ble_eq_true rfl) ?_
  have hpost : pkP ((fun k => [h0, q7, q15, q23, q32, q40, q48, q56].getD k 0), (fun k => [(fun (j : Nat) => if j = 9 then 1 else 0), g82, g90, (fun _ => 0), (fun _ => 0), (fun _ => 0), (fun _ => 0), g98].getD k (fun _ => 0))) := ⟨rfl, rfl, rfl, wg82, wg90, wg98⟩
  exact W.vret hx hb hr (fun t ht hW => ⟨⟨((fun k => [h0, q7, q15, q23, q32, q40, q48, q56].getD k 0), (fun k => [(fun (j : Nat) => if j = 9 then 1 else 0), g82, g90, (fun _ => 0), (fun _ => 0), (fun _ => 0), (fun _ => 0), g98].getD k (fun _ => 0))), rfl, hpost, rfl, by rw [ht]; exact hP8, hD8⟩, hS.F ht⟩) hS.2.2 dX0_init_101
