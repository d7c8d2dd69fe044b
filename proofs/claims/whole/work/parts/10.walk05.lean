def wX5_byFor_j99 (p1 : Int32) (h0 : zz_H) (post : Int32 → zz_H → Prop) (x5 : Int32) (h7 : zz_H) : Prop :=
  vp_in (((223 : Int32) + ((2 : Int32) * p1)) + (1 : Int32)) 245 ∧ zz_sto h7 1 (upd (h7 1) (((223 : Int32) + ((2 : Int32) * p1)) + (1 : Int32)).toNatClampNeg (h0 1 (((223 : Int32) + ((2 : Int32) * p1)) + (1 : Int32)).toNatClampNeg)) (fun h9 => ((0 ≤ x5) → (post x5 h9)) ∧ ((¬ 0 ≤ x5) → (wX5_finds ((-1000004) : Int32) h9 (fun r11 h10 => post r11 h10))))
def wX5_byFor_b44 (p1 : Int32) (p2 : Int32) (h0 : zz_H) (post : Int32 → zz_H → Prop) (K8 : Int32 × Int32 × zz_H → Prop) (x5 : Int32) (x6 : Int32) (h7 : zz_H) : Prop :=
  ((x6 < 0) → (wX5_byFor_j99 p1 h0 post x5 h7)) ∧ ((¬ x6 < 0) → (vp_in (((223 : Int32) + ((2 : Int32) * p1)) + (1 : Int32)) 245 ∧ zz_sto h7 1 (upd (h7 1) (((223 : Int32) + ((2 : Int32) * p1)) + (1 : Int32)).toNatClampNeg x6) (fun h12 => wX5_passing p1 p2 h12 (fun r14 h13 => wX5_ones r14 h13 (fun r15 => ((¬ r15 = (h13 1 17)) → (K8 (x5, (x6 + (-1)), h13))) ∧ ((r15 = (h13 1 17)) → (K8 (x6, (x6 + (-1)), h13))))))))
def wX5_byFor (p1 : Int32) (p2 : Int32) (h0 : zz_H) (post : Int32 → zz_H → Prop) : Prop :=
  wX5_isCurve p1 h0 (fun r1 => ((r1 = 0) → (wX5_finds ((-1000001) : Int32) h0 (fun r3 h2 => post r3 h2))) ∧ ((¬ r1 = 0) → (wX5_isLine p2 h0 (fun r4 => ((¬ r4 = 0) → (vp_in (((223 : Int32) + ((2 : Int32) * p1)) + (1 : Int32)) 245 ∧ (∃ t9, zz_lp (fun K (s : Int32 × Int32 × zz_H) => wX5_byFor_b44 p1 p2 h0 post K s.1 s.2.1 s.2.2) t9 (((-1) : Int32), (100 : Int32), h0)))) ∧ ((r4 = 0) → (wX5_finds ((-1000001) : Int32) h0 (fun r17 h16 => post r17 h16)))))))
set_option maxRecDepth 20000 in
set_option maxHeartbeats 4000000 in
theorem ctX5_byFor (p1 : Int32) (p2 : Int32) (h0 : zz_H) (post : Int32 → zz_H → Prop) (hw : wX5_byFor p1 p2 h0 post) : zz_Ct zz_M 8 yX5_byFor cX5_byFor 6 (some .int) [.ref 0, .int p1, .int p2] h0 post := by
  refine zz_ct (L := [.ref 0, .int p1, .int p2, .null, .null, .null]) (by decide +kernel) (Nat.le_of_ble_eq_true rfl) (fun ad q hq => hq) ?_
  show zz_Go zz_M 8 cX5_byFor RX5 6 (some .int) post 0 [] [.ref 0, .int p1, .int p2, .null, .null, .null] h0
  unfold wX5_byFor at hw
  refine zr_aload_n dX5_byFor_0 rfl rfl ?_
  refine zr_iload_n dX5_byFor_1 rfl rfl ?_
  refine zr_pVi zz_cX5 zz_M0 (ctX5_isCurve p1 h0 _ hw) zy_X5_isCurve zm_X5_114 (by decide) rfl rfl (Nat.le_of_ble_eq_true rfl) dX5_byFor_2 (fun r1 hw => ?_)
  refine zr_if_eq 15 dX5_byFor_5 (by decide) (fun q => ?_) (fun q => ?_)
  · have hw := hw.1 q
    refine zr_aload_n dX5_byFor_15 rfl rfl ?_
    refine zr_ldc zk_X5_40 dX5_byFor_16 ?_
    refine zr_callVi zz_cX5 zz_M0 (ctX5_finds ((-1000001) : Int32) h0 _ hw) zy_X5_finds zm_X5_59 (by decide) rfl rfl (Nat.le_of_ble_eq_true rfl) dX5_byFor_18 (fun r3 h2 hw => ?_)
    exact zr_ret rfl rfl dX5_byFor_21 hw
  · have hw := hw.2 q
    refine zr_iload_n dX5_byFor_8 rfl rfl ?_
    refine zr_pSi (ctX5_isLine p2 h0 _ hw) zy_X5_isLine zm_X5_152 (by decide) rfl rfl (Nat.le_of_ble_eq_true rfl) dX5_byFor_9 (fun r4 hw => ?_)
    refine zr_if_ne 22 dX5_byFor_12 (by decide) (fun q => ?_) (fun q => ?_)
    · have hw := hw.1 q
      refine zr_aload_n dX5_byFor_22 rfl rfl ?_
      refine zr_getR zz_cX5 zz_M0 0 (by decide) rfl zf_X5_7 dX5_byFor_23 ?_
      refine zr_sipush dX5_byFor_26 zhk_223 ?_
      refine zr_iconst dX5_byFor_29 zqk_2 ?_
      refine zr_iload_n dX5_byFor_30 rfl rfl ?_
      refine zr_imul dX5_byFor_31 ?_
      refine zr_iadd dX5_byFor_32 ?_
      refine zr_iconst dX5_byFor_33 zqk_1 ?_
      refine zr_iadd dX5_byFor_34 ?_
      obtain ⟨hi, hw⟩ := hw
      refine zr_iald zz_M1 hi rfl dX5_byFor_35 ?_
      refine zr_istore_n [.ref 0, .int p1, .int p2, .int (h0 1 (((223 : Int32) + ((2 : Int32) * p1)) + (1 : Int32)).toNatClampNeg), .null, .null] dX5_byFor_36 rfl (by decide) rfl rfl ?_
      refine zr_iconst dX5_byFor_37 zqk_m1 ?_
      refine zr_istore [.ref 0, .int p1, .int p2, .int (h0 1 (((223 : Int32) + ((2 : Int32) * p1)) + (1 : Int32)).toNatClampNeg), .int ((-1) : Int32), .null] dX5_byFor_38 (by decide) rfl rfl ?_
      refine zr_bipush dX5_byFor_40 zbk_100 ?_
      refine zr_istore [.ref 0, .int p1, .int p2, .int (h0 1 (((223 : Int32) + ((2 : Int32) * p1)) + (1 : Int32)).toNatClampNeg), .int ((-1) : Int32), .int (100 : Int32)] dX5_byFor_42 (by decide) rfl rfl ?_
      obtain ⟨t9, hw⟩ := hw
      have step44 : ∀ (K8 : Int32 × Int32 × zz_H → Prop), (∀ (x5 : Int32) (x6 : Int32) (h7 : zz_H), K8 (x5, x6, h7) → zz_Go zz_M 8 cX5_byFor RX5 6 (some .int) post 44 [] [.ref 0, .int p1, .int p2, .int (h0 1 (((223 : Int32) + ((2 : Int32) * p1)) + (1 : Int32)).toNatClampNeg), .int x5, .int x6] h7) → ∀ (x5 : Int32) (x6 : Int32) (h7 : zz_H), wX5_byFor_b44 p1 p2 h0 post K8 x5 x6 h7 → zz_Go zz_M 8 cX5_byFor RX5 6 (some .int) post 44 [] [.ref 0, .int p1, .int p2, .int (h0 1 (((223 : Int32) + ((2 : Int32) * p1)) + (1 : Int32)).toNatClampNeg), .int x5, .int x6] h7 := by
        intro K8 ih44 x5 x6 h7 hw
        unfold wX5_byFor_b44 at hw
        refine zr_iload dX5_byFor_44 rfl ?_
        have j99 : wX5_byFor_j99 p1 h0 post x5 h7 → zz_Go zz_M 8 cX5_byFor RX5 6 (some .int) post 99 [] [.ref 0, .int p1, .null, .int (h0 1 (((223 : Int32) + ((2 : Int32) * p1)) + (1 : Int32)).toNatClampNeg), .int x5, .null] h7 := by
          intro hw
          unfold wX5_byFor_j99 at hw
          refine zr_aload_n dX5_byFor_99 rfl rfl ?_
          refine zr_getR zz_cX5 zz_M0 0 (by decide) rfl zf_X5_7 dX5_byFor_100 ?_
          refine zr_sipush dX5_byFor_103 zhk_223 ?_
          refine zr_iconst dX5_byFor_106 zqk_2 ?_
          refine zr_iload_n dX5_byFor_107 rfl rfl ?_
          refine zr_imul dX5_byFor_108 ?_
          refine zr_iadd dX5_byFor_109 ?_
          refine zr_iconst dX5_byFor_110 zqk_1 ?_
          refine zr_iadd dX5_byFor_111 ?_
          refine zr_iload_n dX5_byFor_112 rfl rfl ?_
          obtain ⟨hi, hw⟩ := hw
          refine zr_iast zz_M1 hi rfl dX5_byFor_113 hw (fun h9 hw => ?_)
          refine zr_iload dX5_byFor_114 rfl ?_
          refine zr_if_ge 128 dX5_byFor_116 (by decide) (fun q => ?_) (fun q => ?_)
          · have hw := hw.1 q
            refine zr_iload dX5_byFor_128 rfl ?_
            exact zr_ret rfl rfl dX5_byFor_130 hw
          · have hw := hw.2 q
            refine zr_aload_n dX5_byFor_119 rfl rfl ?_
            refine zr_ldc zk_X5_89 dX5_byFor_120 ?_
            refine zr_callVi zz_cX5 zz_M0 (ctX5_finds ((-1000004) : Int32) h9 _ hw) zy_X5_finds zm_X5_59 (by decide) rfl rfl (Nat.le_of_ble_eq_true rfl) dX5_byFor_122 (fun r11 h10 hw => ?_)
            refine zr_goto 130 dX5_byFor_125 (by decide) ?_
            exact zr_ret rfl rfl dX5_byFor_130 hw
        refine zr_if_lt 99 dX5_byFor_46 (by decide) (fun q => ?_) (fun q => ?_)
        · have hw := hw.1 q
          refine zr_sub [.ref 0, .int p1, .null, .int (h0 1 (((223 : Int32) + ((2 : Int32) * p1)) + (1 : Int32)).toNatClampNeg), .int x5, .null] ⟨Or.inr rfl, ⟨Or.inr rfl, ⟨Or.inl rfl, ⟨Or.inr rfl, ⟨Or.inr rfl, ⟨Or.inl rfl, trivial⟩⟩⟩⟩⟩⟩ ?_
          exact j99 hw
        · have hw := hw.2 q
          refine zr_aload_n dX5_byFor_49 rfl rfl ?_
          refine zr_getR zz_cX5 zz_M0 0 (by decide) rfl zf_X5_7 dX5_byFor_50 ?_
          refine zr_sipush dX5_byFor_53 zhk_223 ?_
          refine zr_iconst dX5_byFor_56 zqk_2 ?_
          refine zr_iload_n dX5_byFor_57 rfl rfl ?_
          refine zr_imul dX5_byFor_58 ?_
          refine zr_iadd dX5_byFor_59 ?_
          refine zr_iconst dX5_byFor_60 zqk_1 ?_
          refine zr_iadd dX5_byFor_61 ?_
          refine zr_iload dX5_byFor_62 rfl ?_
          obtain ⟨hi, hw⟩ := hw
          refine zr_iast zz_M1 hi rfl dX5_byFor_64 hw (fun h12 hw => ?_)
          refine zr_aload_n dX5_byFor_65 rfl rfl ?_
          refine zr_iload_n dX5_byFor_66 rfl rfl ?_
          refine zr_iload_n dX5_byFor_67 rfl rfl ?_
          refine zr_callVi zz_cX5 zz_M0 (ctX5_passing p1 p2 h12 _ hw) zy_X5_passing zm_X5_155 (by decide) rfl rfl (Nat.le_of_ble_eq_true rfl) dX5_byFor_68 (fun r14 h13 hw => ?_)
          refine zr_pSi (ctX5_ones r14 h13 _ hw) zy_X5_ones zm_X5_160 (by decide) rfl rfl (Nat.le_of_ble_eq_true rfl) dX5_byFor_71 (fun r15 hw => ?_)
          refine zr_aload_n dX5_byFor_74 rfl rfl ?_
          refine zr_getR zz_cX5 zz_M0 0 (by decide) rfl zf_X5_7 dX5_byFor_75 ?_
          refine zr_bipush dX5_byFor_78 zbk_17 ?_
          refine zr_iald zz_M1 (zz_vin (by decide)) (j := 17) (by decide) dX5_byFor_80 ?_
          refine zr_icmp_ne 89 dX5_byFor_81 (by decide) (fun q => ?_) (fun q => ?_)
          · have hw := hw.1 q
            refine zr_iload dX5_byFor_89 rfl ?_
            refine zr_istore [.ref 0, .int p1, .int p2, .int (h0 1 (((223 : Int32) + ((2 : Int32) * p1)) + (1 : Int32)).toNatClampNeg), .int x5, .int x6] dX5_byFor_91 (by decide) rfl rfl ?_
            refine zr_iinc (x6 + (-1)) [.ref 0, .int p1, .int p2, .int (h0 1 (((223 : Int32) + ((2 : Int32) * p1)) + (1 : Int32)).toNatClampNeg), .int x5, .int (x6 + (-1))] dX5_byFor_93 rfl (zok_m1 _) (by decide) rfl rfl ?_
            refine zr_goto 44 dX5_byFor_96 (by decide) ?_
            exact ih44 _ _ _ hw
          · have hw := hw.2 q
            refine zr_iload dX5_byFor_84 rfl ?_
            refine zr_goto 91 dX5_byFor_86 (by decide) ?_
            refine zr_istore [.ref 0, .int p1, .int p2, .int (h0 1 (((223 : Int32) + ((2 : Int32) * p1)) + (1 : Int32)).toNatClampNeg), .int x6, .int x6] dX5_byFor_91 (by decide) rfl rfl ?_
            refine zr_iinc (x6 + (-1)) [.ref 0, .int p1, .int p2, .int (h0 1 (((223 : Int32) + ((2 : Int32) * p1)) + (1 : Int32)).toNatClampNeg), .int x6, .int (x6 + (-1))] dX5_byFor_93 rfl (zok_m1 _) (by decide) rfl rfl ?_
            refine zr_goto 44 dX5_byFor_96 (by decide) ?_
            exact ih44 _ _ _ hw
      have key44 : ∀ (t9 : Nat) (x5 : Int32) (x6 : Int32) (h7 : zz_H), zz_lp (fun K (s : Int32 × Int32 × zz_H) => wX5_byFor_b44 p1 p2 h0 post K s.1 s.2.1 s.2.2) t9 (x5, x6, h7) → zz_Go zz_M 8 cX5_byFor RX5 6 (some .int) post 44 [] [.ref 0, .int p1, .int p2, .int (h0 1 (((223 : Int32) + ((2 : Int32) * p1)) + (1 : Int32)).toNatClampNeg), .int x5, .int x6] h7 := by
        intro t9
        induction t9 with
        | zero => intro x5 x6 h7 hw; exact hw.elim
        | succ t9 ih => intro x5 x6 h7 hw; exact step44 _ ih _ _ _ hw
      exact key44 t9 _ _ _ hw
    · have hw := hw.2 q
      refine zr_aload_n dX5_byFor_15 rfl rfl ?_
      refine zr_ldc zk_X5_40 dX5_byFor_16 ?_
      refine zr_callVi zz_cX5 zz_M0 (ctX5_finds ((-1000001) : Int32) h0 _ hw) zy_X5_finds zm_X5_59 (by decide) rfl rfl (Nat.le_of_ble_eq_true rfl) dX5_byFor_18 (fun r17 h16 hw => ?_)
      exact zr_ret rfl rfl dX5_byFor_21 hw
def wX5_letters (p1 : Int32) (p2 : Int32) (p3 : Int32) (h0 : zz_H) (post : Int32 → zz_H → Prop) : Prop :=
  wX5_isCurve p1 h0 (fun r1 => ((r1 = 0) → (wX5_finds ((-1000001) : Int32) h0 (fun r3 h2 => post r3 h2))) ∧ ((¬ r1 = 0) → (wX5_isLine p2 h0 (fun r4 => ((r4 = 0) → (wX5_finds ((-1000001) : Int32) h0 (fun r6 h5 => post r6 h5))) ∧ ((¬ r4 = 0) → (wX5_isLine p3 h0 (fun r7 => ((r7 = 0) → (wX5_finds ((-1000001) : Int32) h0 (fun r9 h8 => post r9 h8))) ∧ ((¬ r7 = 0) → (((p3 < p2) → (wX5_finds ((-1000001) : Int32) h0 (fun r11 h10 => post r11 h10))) ∧ ((¬ p3 < p2) → (wX5_between p1 p2 p3 h0 (fun r13 h12 => post r13 h12))))))))))))
set_option maxRecDepth 20000 in
set_option maxHeartbeats 4000000 in
theorem ctX5_letters (p1 : Int32) (p2 : Int32) (p3 : Int32) (h0 : zz_H) (post : Int32 → zz_H → Prop) (hw : wX5_letters p1 p2 p3 h0 post) : zz_Ct zz_M 8 yX5_letters cX5_letters 4 (some .int) [.ref 0, .int p1, .int p2, .int p3] h0 post := by
  refine zz_ct (L := [.ref 0, .int p1, .int p2, .int p3]) (by decide +kernel) (Nat.le_of_ble_eq_true rfl) (fun ad q hq => hq) ?_
  show zz_Go zz_M 8 cX5_letters RX5 4 (some .int) post 0 [] [.ref 0, .int p1, .int p2, .int p3] h0
  unfold wX5_letters at hw
  refine zr_aload_n dX5_letters_0 rfl rfl ?_
  refine zr_iload_n dX5_letters_1 rfl rfl ?_
  refine zr_pVi zz_cX5 zz_M0 (ctX5_isCurve p1 h0 _ hw) zy_X5_isCurve zm_X5_114 (by decide) rfl rfl (Nat.le_of_ble_eq_true rfl) dX5_letters_2 (fun r1 hw => ?_)
  refine zr_if_eq 37 dX5_letters_5 (by decide) (fun q => ?_) (fun q => ?_)
  · have hw := hw.1 q
    refine zr_aload_n dX5_letters_37 rfl rfl ?_
    refine zr_ldc zk_X5_40 dX5_letters_38 ?_
    refine zr_callVi zz_cX5 zz_M0 (ctX5_finds ((-1000001) : Int32) h0 _ hw) zy_X5_finds zm_X5_59 (by decide) rfl rfl (Nat.le_of_ble_eq_true rfl) dX5_letters_40 (fun r3 h2 hw => ?_)
    exact zr_ret rfl rfl dX5_letters_43 hw
  · have hw := hw.2 q
    refine zr_iload_n dX5_letters_8 rfl rfl ?_
    refine zr_pSi (ctX5_isLine p2 h0 _ hw) zy_X5_isLine zm_X5_152 (by decide) rfl rfl (Nat.le_of_ble_eq_true rfl) dX5_letters_9 (fun r4 hw => ?_)
    refine zr_if_eq 37 dX5_letters_12 (by decide) (fun q => ?_) (fun q => ?_)
    · have hw := hw.1 q
      refine zr_aload_n dX5_letters_37 rfl rfl ?_
      refine zr_ldc zk_X5_40 dX5_letters_38 ?_
      refine zr_callVi zz_cX5 zz_M0 (ctX5_finds ((-1000001) : Int32) h0 _ hw) zy_X5_finds zm_X5_59 (by decide) rfl rfl (Nat.le_of_ble_eq_true rfl) dX5_letters_40 (fun r6 h5 hw => ?_)
      exact zr_ret rfl rfl dX5_letters_43 hw
    · have hw := hw.2 q
      refine zr_iload_n dX5_letters_15 rfl rfl ?_
      refine zr_pSi (ctX5_isLine p3 h0 _ hw) zy_X5_isLine zm_X5_152 (by decide) rfl rfl (Nat.le_of_ble_eq_true rfl) dX5_letters_16 (fun r7 hw => ?_)
      refine zr_if_eq 37 dX5_letters_19 (by decide) (fun q => ?_) (fun q => ?_)
      · have hw := hw.1 q
        refine zr_aload_n dX5_letters_37 rfl rfl ?_
        refine zr_ldc zk_X5_40 dX5_letters_38 ?_
        refine zr_callVi zz_cX5 zz_M0 (ctX5_finds ((-1000001) : Int32) h0 _ hw) zy_X5_finds zm_X5_59 (by decide) rfl rfl (Nat.le_of_ble_eq_true rfl) dX5_letters_40 (fun r9 h8 hw => ?_)
        exact zr_ret rfl rfl dX5_letters_43 hw
      · have hw := hw.2 q
        refine zr_iload_n dX5_letters_22 rfl rfl ?_
        refine zr_iload_n dX5_letters_23 rfl rfl ?_
        refine zr_icmp_gt 37 dX5_letters_24 (by decide) (fun q => ?_) (fun q => ?_)
        · have hw := hw.1 q
          refine zr_aload_n dX5_letters_37 rfl rfl ?_
          refine zr_ldc zk_X5_40 dX5_letters_38 ?_
          refine zr_callVi zz_cX5 zz_M0 (ctX5_finds ((-1000001) : Int32) h0 _ hw) zy_X5_finds zm_X5_59 (by decide) rfl rfl (Nat.le_of_ble_eq_true rfl) dX5_letters_40 (fun r11 h10 hw => ?_)
          exact zr_ret rfl rfl dX5_letters_43 hw
        · have hw := hw.2 q
          refine zr_aload_n dX5_letters_27 rfl rfl ?_
          refine zr_iload_n dX5_letters_28 rfl rfl ?_
          refine zr_iload_n dX5_letters_29 rfl rfl ?_
          refine zr_iload_n dX5_letters_30 rfl rfl ?_
          refine zr_callVi zz_cX5 zz_M0 (ctX5_between p1 p2 p3 h0 _ hw) zy_X5_between zm_X5_163 (by decide) rfl rfl (Nat.le_of_ble_eq_true rfl) dX5_letters_31 (fun r13 h12 hw => ?_)
          refine zr_goto 43 dX5_letters_34 (by decide) ?_
          exact zr_ret rfl rfl dX5_letters_43 hw
def wX5_apart (p1 : Int32) (p2 : Int32) (h0 : zz_H) (post : Int32 → Prop) : Prop :=
  wX5_at p1 (1 : Int32) p2 h0 (fun r1 => vp_in r1 245 ∧ (wX5_at p1 (0 : Int32) p2 h0 (fun r2 => vp_in r2 245 ∧ (post ((h0 1 r1.toNatClampNeg) - (h0 1 r2.toNatClampNeg))))))
set_option maxRecDepth 20000 in
set_option maxHeartbeats 4000000 in
theorem ctX5_apart (p1 : Int32) (p2 : Int32) (h0 : zz_H) (post : Int32 → Prop) (hw : wX5_apart p1 p2 h0 post) : zz_Ct zz_M 1 yX5_apart cX5_apart 3 (some .int) [.ref 0, .int p1, .int p2] h0 (zz_pu h0 post) := by
  refine zz_ct (L := [.ref 0, .int p1, .int p2]) (by decide +kernel) (Nat.le_of_ble_eq_true rfl) (fun ad q hq => hq) ?_
  show zz_Go zz_M 1 cX5_apart RX5 3 (some .int) (zz_pu h0 post) 0 [] [.ref 0, .int p1, .int p2] h0
  unfold wX5_apart at hw
  refine zr_aload_n dX5_apart_0 rfl rfl ?_
  refine zr_getR zz_cX5 zz_M0 0 (by decide) rfl zf_X5_7 dX5_apart_1 ?_
  refine zr_iload_n dX5_apart_4 rfl rfl ?_
  refine zr_iconst dX5_apart_5 zqk_1 ?_
  refine zr_iload_n dX5_apart_6 rfl rfl ?_
  refine zr_pSi (ctX5_at p1 (1 : Int32) p2 h0 _ hw) zy_X5_at zm_X5_49 (by decide) rfl rfl (Nat.le_of_ble_eq_true rfl) dX5_apart_7 (fun r1 hw => ?_)
  obtain ⟨hi, hw⟩ := hw
  refine zr_iald zz_M1 hi rfl dX5_apart_10 ?_
  refine zr_aload_n dX5_apart_11 rfl rfl ?_
  refine zr_getR zz_cX5 zz_M0 0 (by decide) rfl zf_X5_7 dX5_apart_12 ?_
  refine zr_iload_n dX5_apart_15 rfl rfl ?_
  refine zr_iconst dX5_apart_16 zqk_0 ?_
  refine zr_iload_n dX5_apart_17 rfl rfl ?_
  refine zr_pSi (ctX5_at p1 (0 : Int32) p2 h0 _ hw) zy_X5_at zm_X5_49 (by decide) rfl rfl (Nat.le_of_ble_eq_true rfl) dX5_apart_18 (fun r2 hw => ?_)
  obtain ⟨hi, hw⟩ := hw
  refine zr_iald zz_M1 hi rfl dX5_apart_21 ?_
  refine zr_isub dX5_apart_22 ?_
  exact zr_ret rfl rfl dX5_apart_23 ⟨rfl, hw⟩
def wX5_size (p1 : Int32) (h0 : zz_H) (post : Int32 → Prop) : Prop :=
  ((0 ≤ p1) → (post p1)) ∧ ((¬ 0 ≤ p1) → (post ((0 : Int32) - p1)))
set_option maxRecDepth 20000 in
set_option maxHeartbeats 4000000 in
theorem ctX5_size (p1 : Int32) (h0 : zz_H) (post : Int32 → Prop) (hw : wX5_size p1 h0 post) : zz_Ct zz_M 0 yX5_size cX5_size 1 (some .int) [.int p1] h0 (zz_pu h0 post) := by
  refine zz_ct (L := [.int p1]) (by decide +kernel) (Nat.le_of_ble_eq_true rfl) (fun ad q hq => hq) ?_
  show zz_Go zz_M 0 cX5_size RX5 1 (some .int) (zz_pu h0 post) 0 [] [.int p1] h0
  unfold wX5_size at hw
  refine zr_iload_n dX5_size_0 rfl rfl ?_
  refine zr_if_ge 10 dX5_size_1 (by decide) (fun q => ?_) (fun q => ?_)
  · have hw := hw.1 q
    refine zr_iload_n dX5_size_10 rfl rfl ?_
    exact zr_ret rfl rfl dX5_size_11 ⟨rfl, hw⟩
  · have hw := hw.2 q
    refine zr_iconst dX5_size_4 zqk_0 ?_
    refine zr_iload_n dX5_size_5 rfl rfl ?_
    refine zr_isub dX5_size_6 ?_
    refine zr_goto 11 dX5_size_7 (by decide) ?_
    exact zr_ret rfl rfl dX5_size_11 ⟨rfl, hw⟩
def wX5_lean_j44 (h0 : zz_H) (post : Int32 → Prop) (x1 : Int32) : Prop :=
  ((¬ (h0 1 17) = 0) → (¬ (h0 1 17) = 0 ∧ (post (((100 : Int32) * x1) / (h0 1 17))))) ∧ (((h0 1 17) = 0) → (post (0 : Int32)))
def wX5_lean_b17 (h0 : zz_H) (x2 : Int32) (K3 : Int32 × Int32 → Prop) (K6 : Int32 × Int32 → Prop) (x4 : Int32) (x5 : Int32) : Prop :=
  (((8 : Int32) ≤ x5) → (K3 (x4, (x2 + 1)))) ∧ ((¬ (8 : Int32) ≤ x5) → (wX5_apart x2 x5 h0 (fun r7 => K6 ((x4 + r7), (x5 + 1)))))
def wX5_lean_b4 (h0 : zz_H) (post : Int32 → Prop) (K3 : Int32 × Int32 → Prop) (x1 : Int32) (x2 : Int32) : Prop :=
  (((h0 1 17) ≤ x2) → (wX5_lean_j44 h0 post x1)) ∧ ((¬ (h0 1 17) ≤ x2) → (∃ t9, zz_lp (fun K (s : Int32 × Int32) => wX5_lean_b17 h0 x2 K3 K s.1 s.2) t9 (x1, (0 : Int32))))
def wX5_lean (h0 : zz_H) (post : Int32 → Prop) : Prop :=
  ∃ t9, zz_lp (fun K (s : Int32 × Int32) => wX5_lean_b4 h0 post K s.1 s.2) t9 ((0 : Int32), (0 : Int32))
set_option maxRecDepth 20000 in
set_option maxHeartbeats 4000000 in
theorem ctX5_lean (h0 : zz_H) (post : Int32 → Prop) (hw : wX5_lean h0 post) : zz_Ct zz_M 2 yX5_lean cX5_lean 4 (some .int) [.ref 0] h0 (zz_pu h0 post) := by
  refine zz_ct (L := [.ref 0, .null, .null, .null]) (by decide +kernel) (Nat.le_of_ble_eq_true rfl) (fun ad q hq => hq) ?_
  show zz_Go zz_M 2 cX5_lean RX5 4 (some .int) (zz_pu h0 post) 0 [] [.ref 0, .null, .null, .null] h0
  unfold wX5_lean at hw
  refine zr_iconst dX5_lean_0 zqk_0 ?_
  refine zr_istore_n [.ref 0, .int (0 : Int32), .null, .null] dX5_lean_1 rfl (by decide) rfl rfl ?_
  refine zr_iconst dX5_lean_2 zqk_0 ?_
  refine zr_istore_n [.ref 0, .int (0 : Int32), .int (0 : Int32), .null] dX5_lean_3 rfl (by decide) rfl rfl ?_
  obtain ⟨t9, hw⟩ := hw
  have step4 : ∀ (K3 : Int32 × Int32 → Prop), (∀ (x1 : Int32) (x2 : Int32), K3 (x1, x2) → zz_Go zz_M 2 cX5_lean RX5 4 (some .int) (zz_pu h0 post) 4 [] [.ref 0, .int x1, .int x2, .null] h0) → ∀ (x1 : Int32) (x2 : Int32), wX5_lean_b4 h0 post K3 x1 x2 → zz_Go zz_M 2 cX5_lean RX5 4 (some .int) (zz_pu h0 post) 4 [] [.ref 0, .int x1, .int x2, .null] h0 := by
    intro K3 ih4 x1 x2 hw
    unfold wX5_lean_b4 at hw
    refine zr_iload_n dX5_lean_4 rfl rfl ?_
    refine zr_aload_n dX5_lean_5 rfl rfl ?_
    refine zr_getR zz_cX5 zz_M0 0 (by decide) rfl zf_X5_7 dX5_lean_6 ?_
    refine zr_bipush dX5_lean_9 zbk_17 ?_
    refine zr_iald zz_M1 (zz_vin (by decide)) (j := 17) (by decide) dX5_lean_11 ?_
    have j44 : wX5_lean_j44 h0 post x1 → zz_Go zz_M 2 cX5_lean RX5 4 (some .int) (zz_pu h0 post) 44 [] [.ref 0, .int x1, .null, .null] h0 := by
      intro hw
      unfold wX5_lean_j44 at hw
      refine zr_aload_n dX5_lean_44 rfl rfl ?_
      refine zr_getR zz_cX5 zz_M0 0 (by decide) rfl zf_X5_7 dX5_lean_45 ?_
      refine zr_bipush dX5_lean_48 zbk_17 ?_
      refine zr_iald zz_M1 (zz_vin (by decide)) (j := 17) (by decide) dX5_lean_50 ?_
      refine zr_if_ne 58 dX5_lean_51 (by decide) (fun q => ?_) (fun q => ?_)
      · have hw := hw.1 q
        refine zr_bipush dX5_lean_58 zbk_100 ?_
        refine zr_iload_n dX5_lean_60 rfl rfl ?_
        refine zr_imul dX5_lean_61 ?_
        refine zr_aload_n dX5_lean_62 rfl rfl ?_
        refine zr_getR zz_cX5 zz_M0 0 (by decide) rfl zf_X5_7 dX5_lean_63 ?_
        refine zr_bipush dX5_lean_66 zbk_17 ?_
        refine zr_iald zz_M1 (zz_vin (by decide)) (j := 17) (by decide) dX5_lean_68 ?_
        obtain ⟨hne, hw⟩ := hw
        refine zr_idiv dX5_lean_69 hne ?_
        exact zr_ret rfl rfl dX5_lean_70 ⟨rfl, hw⟩
      · have hw := hw.2 q
        refine zr_iconst dX5_lean_54 zqk_0 ?_
        refine zr_goto 70 dX5_lean_55 (by decide) ?_
        exact zr_ret rfl rfl dX5_lean_70 ⟨rfl, hw⟩
    refine zr_icmp_ge 44 dX5_lean_12 (by decide) (fun q => ?_) (fun q => ?_)
    · have hw := hw.1 q
      refine zr_sub [.ref 0, .int x1, .null, .null] ⟨Or.inr rfl, ⟨Or.inr rfl, ⟨Or.inl rfl, ⟨Or.inl rfl, trivial⟩⟩⟩⟩ ?_
      exact j44 hw
    · have hw := hw.2 q
      refine zr_iconst dX5_lean_15 zqk_0 ?_
      refine zr_istore_n [.ref 0, .int x1, .int x2, .int (0 : Int32)] dX5_lean_16 rfl (by decide) rfl rfl ?_
      obtain ⟨t9, hw⟩ := hw
      have step17 : ∀ (K6 : Int32 × Int32 → Prop), (∀ (x4 : Int32) (x5 : Int32), K6 (x4, x5) → zz_Go zz_M 2 cX5_lean RX5 4 (some .int) (zz_pu h0 post) 17 [] [.ref 0, .int x4, .int x2, .int x5] h0) → ∀ (x4 : Int32) (x5 : Int32), wX5_lean_b17 h0 x2 K3 K6 x4 x5 → zz_Go zz_M 2 cX5_lean RX5 4 (some .int) (zz_pu h0 post) 17 [] [.ref 0, .int x4, .int x2, .int x5] h0 := by
        intro K6 ih17 x4 x5 hw
        unfold wX5_lean_b17 at hw
        refine zr_iload_n dX5_lean_17 rfl rfl ?_
        refine zr_bipush dX5_lean_18 zbk_8 ?_
        refine zr_icmp_ge 38 dX5_lean_20 (by decide) (fun q => ?_) (fun q => ?_)
        · have hw := hw.1 q
          refine zr_iinc (x2 + 1) [.ref 0, .int x4, .int (x2 + 1), .int x5] dX5_lean_38 rfl (zok_1 _) (by decide) rfl rfl ?_
          refine zr_goto 4 dX5_lean_41 (by decide) ?_
          refine zr_sub [.ref 0, .int x4, .int (x2 + 1), .null] ⟨Or.inr rfl, ⟨Or.inr rfl, ⟨Or.inr rfl, ⟨Or.inl rfl, trivial⟩⟩⟩⟩ ?_
          exact ih4 _ _ hw
        · have hw := hw.2 q
          refine zr_iload_n dX5_lean_23 rfl rfl ?_
          refine zr_aload_n dX5_lean_24 rfl rfl ?_
          refine zr_iload_n dX5_lean_25 rfl rfl ?_
          refine zr_iload_n dX5_lean_26 rfl rfl ?_
          refine zr_pVi zz_cX5 zz_M0 (ctX5_apart x2 x5 h0 _ hw) zy_X5_apart zm_X5_166 (by decide) rfl rfl (Nat.le_of_ble_eq_true rfl) dX5_lean_27 (fun r7 hw => ?_)
          refine zr_iadd dX5_lean_30 ?_
          refine zr_istore_n [.ref 0, .int (x4 + r7), .int x2, .int x5] dX5_lean_31 rfl (by decide) rfl rfl ?_
          refine zr_iinc (x5 + 1) [.ref 0, .int (x4 + r7), .int x2, .int (x5 + 1)] dX5_lean_32 rfl (zok_1 _) (by decide) rfl rfl ?_
          refine zr_goto 17 dX5_lean_35 (by decide) ?_
          exact ih17 _ _ hw
      have key17 : ∀ (t9 : Nat) (x4 : Int32) (x5 : Int32), zz_lp (fun K (s : Int32 × Int32) => wX5_lean_b17 h0 x2 K3 K s.1 s.2) t9 (x4, x5) → zz_Go zz_M 2 cX5_lean RX5 4 (some .int) (zz_pu h0 post) 17 [] [.ref 0, .int x4, .int x2, .int x5] h0 := by
        intro t9
        induction t9 with
        | zero => intro x4 x5 hw; exact hw.elim
        | succ t9 ih => intro x4 x5 hw; exact step17 _ ih _ _ hw
      exact key17 t9 _ _ hw
  have key4 : ∀ (t9 : Nat) (x1 : Int32) (x2 : Int32), zz_lp (fun K (s : Int32 × Int32) => wX5_lean_b4 h0 post K s.1 s.2) t9 (x1, x2) → zz_Go zz_M 2 cX5_lean RX5 4 (some .int) (zz_pu h0 post) 4 [] [.ref 0, .int x1, .int x2, .null] h0 := by
    intro t9
    induction t9 with
    | zero => intro x1 x2 hw; exact hw.elim
    | succ t9 ih => intro x1 x2 hw; exact step4 _ ih _ _ hw
  exact key4 t9 _ _ hw
def wX5_right_b37 (p1 : Int32) (x3 : Int32) (K5 : Int32 × Int32 × zz_H → Prop) (K9 : Int32 × Int32 × zz_H → Prop) (x6 : Int32) (x7 : Int32) (h8 : zz_H) : Prop :=
  (((8 : Int32) ≤ x7) → (K5 (x6, (x3 + 1), h8))) ∧ ((¬ (8 : Int32) ≤ x7) → (wX5_apart x3 x7 h8 (fun r10 => wX5_size r10 h8 (fun r11 => ((r11 < p1) → (K9 (x6, (x7 + 1), h8))) ∧ ((¬ r11 < p1) → (wX5_at x3 (1 : Int32) x7 h8 (fun r12 => wX5_at x3 (0 : Int32) x7 h8 (fun r13 => vp_in r13 245 ∧ (vp_in r12 245 ∧ zz_sto h8 1 (upd (h8 1) r12.toNatClampNeg (h8 1 r13.toNatClampNeg)) (fun h14 => K9 ((x6 + 1), (x7 + 1), h14)))))))))))
def wX5_right_b23 (p1 : Int32) (post : Int32 → zz_H → Prop) (K5 : Int32 × Int32 × zz_H → Prop) (x2 : Int32) (x3 : Int32) (h4 : zz_H) : Prop :=
  (((h4 1 17) ≤ x3) → (post x2 h4)) ∧ ((¬ (h4 1 17) ≤ x3) → (∃ t9, zz_lp (fun K (s : Int32 × Int32 × zz_H) => wX5_right_b37 p1 x3 K5 K s.1 s.2.1 s.2.2) t9 (x2, (0 : Int32), h4)))
def wX5_right (p1 : Int32) (h0 : zz_H) (post : Int32 → zz_H → Prop) : Prop :=
  wX5_in (p1.toInt64) (1 : Int64) (40 : Int64) h0 (fun r1 => ((¬ r1 = 0) → (∃ t9, zz_lp (fun K (s : Int32 × Int32 × zz_H) => wX5_right_b23 p1 post K s.1 s.2.1 s.2.2) t9 ((0 : Int32), (0 : Int32), h0))) ∧ ((r1 = 0) → (wX5_finds ((-1000001) : Int32) h0 (fun r16 h15 => post r16 h15))))
set_option maxRecDepth 20000 in
set_option maxHeartbeats 4000000 in
theorem ctX5_right (p1 : Int32) (h0 : zz_H) (post : Int32 → zz_H → Prop) (hw : wX5_right p1 h0 post) : zz_Ct zz_M 2 yX5_right cX5_right 5 (some .int) [.ref 0, .int p1] h0 post := by
  refine zz_ct (L := [.ref 0, .int p1, .null, .null, .null]) (by decide +kernel) (Nat.le_of_ble_eq_true rfl) (fun ad q hq => hq) ?_
  show zz_Go zz_M 2 cX5_right RX5 5 (some .int) post 0 [] [.ref 0, .int p1, .null, .null, .null] h0
  unfold wX5_right at hw
  refine zr_iload_n dX5_right_0 rfl rfl ?_
  refine zr_i2l dX5_right_1 ?_
  refine zr_lconst (v := 1) dX5_right_2 (by decide) ?_
  refine zr_ldc2 zl_X5_57 dX5_right_3 ?_
  refine zr_pSi (ctX5_in (p1.toInt64) (1 : Int64) (40 : Int64) h0 _ hw) zy_X5_in zm_X5_43 (by decide) rfl rfl (Nat.le_of_ble_eq_true rfl) dX5_right_6 (fun r1 hw => ?_)
  refine zr_if_ne 19 dX5_right_9 (by decide) (fun q => ?_) (fun q => ?_)
  · have hw := hw.1 q
    refine zr_iconst dX5_right_19 zqk_0 ?_
    refine zr_istore_n [.ref 0, .int p1, .int (0 : Int32), .null, .null] dX5_right_20 rfl (by decide) rfl rfl ?_
    refine zr_iconst dX5_right_21 zqk_0 ?_
    refine zr_istore_n [.ref 0, .int p1, .int (0 : Int32), .int (0 : Int32), .null] dX5_right_22 rfl (by decide) rfl rfl ?_
    obtain ⟨t9, hw⟩ := hw
    have step23 : ∀ (K5 : Int32 × Int32 × zz_H → Prop), (∀ (x2 : Int32) (x3 : Int32) (h4 : zz_H), K5 (x2, x3, h4) → zz_Go zz_M 2 cX5_right RX5 5 (some .int) post 23 [] [.ref 0, .int p1, .int x2, .int x3, .null] h4) → ∀ (x2 : Int32) (x3 : Int32) (h4 : zz_H), wX5_right_b23 p1 post K5 x2 x3 h4 → zz_Go zz_M 2 cX5_right RX5 5 (some .int) post 23 [] [.ref 0, .int p1, .int x2, .int x3, .null] h4 := by
      intro K5 ih23 x2 x3 h4 hw
      unfold wX5_right_b23 at hw
      refine zr_iload_n dX5_right_23 rfl rfl ?_
      refine zr_aload_n dX5_right_24 rfl rfl ?_
      refine zr_getR zz_cX5 zz_M0 0 (by decide) rfl zf_X5_7 dX5_right_25 ?_
      refine zr_bipush dX5_right_28 zbk_17 ?_
      refine zr_iald zz_M1 (zz_vin (by decide)) (j := 17) (by decide) dX5_right_30 ?_
      refine zr_icmp_ge 97 dX5_right_31 (by decide) (fun q => ?_) (fun q => ?_)
      · have hw := hw.1 q
        refine zr_iload_n dX5_right_97 rfl rfl ?_
        exact zr_ret rfl rfl dX5_right_98 hw
      · have hw := hw.2 q
        refine zr_iconst dX5_right_34 zqk_0 ?_
        refine zr_istore [.ref 0, .int p1, .int x2, .int x3, .int (0 : Int32)] dX5_right_35 (by decide) rfl rfl ?_
        obtain ⟨t9, hw⟩ := hw
        have step37 : ∀ (K9 : Int32 × Int32 × zz_H → Prop), (∀ (x6 : Int32) (x7 : Int32) (h8 : zz_H), K9 (x6, x7, h8) → zz_Go zz_M 2 cX5_right RX5 5 (some .int) post 37 [] [.ref 0, .int p1, .int x6, .int x3, .int x7] h8) → ∀ (x6 : Int32) (x7 : Int32) (h8 : zz_H), wX5_right_b37 p1 x3 K5 K9 x6 x7 h8 → zz_Go zz_M 2 cX5_right RX5 5 (some .int) post 37 [] [.ref 0, .int p1, .int x6, .int x3, .int x7] h8 := by
          intro K9 ih37 x6 x7 h8 hw
          unfold wX5_right_b37 at hw
          refine zr_iload dX5_right_37 rfl ?_
          refine zr_bipush dX5_right_39 zbk_8 ?_
          refine zr_icmp_ge 91 dX5_right_41 (by decide) (fun q => ?_) (fun q => ?_)
          · have hw := hw.1 q
            refine zr_iinc (x3 + 1) [.ref 0, .int p1, .int x6, .int (x3 + 1), .int x7] dX5_right_91 rfl (zok_1 _) (by decide) rfl rfl ?_
            refine zr_goto 23 dX5_right_94 (by decide) ?_
            refine zr_sub [.ref 0, .int p1, .int x6, .int (x3 + 1), .null] ⟨Or.inr rfl, ⟨Or.inr rfl, ⟨Or.inr rfl, ⟨Or.inr rfl, ⟨Or.inl rfl, trivial⟩⟩⟩⟩⟩ ?_
            exact ih23 _ _ _ hw
          · have hw := hw.2 q
            refine zr_aload_n dX5_right_44 rfl rfl ?_
            refine zr_iload_n dX5_right_45 rfl rfl ?_
            refine zr_iload dX5_right_46 rfl ?_
            refine zr_pVi zz_cX5 zz_M0 (ctX5_apart x3 x7 h8 _ hw) zy_X5_apart zm_X5_166 (by decide) rfl rfl (Nat.le_of_ble_eq_true rfl) dX5_right_48 (fun r10 hw => ?_)
            refine zr_pSi (ctX5_size r10 h8 _ hw) zy_X5_size zm_X5_169 (by decide) rfl rfl (Nat.le_of_ble_eq_true rfl) dX5_right_51 (fun r11 hw => ?_)
            refine zr_iload_n dX5_right_54 rfl rfl ?_
            refine zr_icmp_lt 85 dX5_right_55 (by decide) (fun q => ?_) (fun q => ?_)
            · have hw := hw.1 q
              refine zr_iinc (x7 + 1) [.ref 0, .int p1, .int x6, .int x3, .int (x7 + 1)] dX5_right_85 rfl (zok_1 _) (by decide) rfl rfl ?_
              refine zr_goto 37 dX5_right_88 (by decide) ?_
              exact ih37 _ _ _ hw
            · have hw := hw.2 q
              refine zr_aload_n dX5_right_58 rfl rfl ?_
              refine zr_getR zz_cX5 zz_M0 0 (by decide) rfl zf_X5_7 dX5_right_59 ?_
              refine zr_iload_n dX5_right_62 rfl rfl ?_
              refine zr_iconst dX5_right_63 zqk_1 ?_
              refine zr_iload dX5_right_64 rfl ?_
              refine zr_pSi (ctX5_at x3 (1 : Int32) x7 h8 _ hw) zy_X5_at zm_X5_49 (by decide) rfl rfl (Nat.le_of_ble_eq_true rfl) dX5_right_66 (fun r12 hw => ?_)
              refine zr_aload_n dX5_right_69 rfl rfl ?_
              refine zr_getR zz_cX5 zz_M0 0 (by decide) rfl zf_X5_7 dX5_right_70 ?_
              refine zr_iload_n dX5_right_73 rfl rfl ?_
              refine zr_iconst dX5_right_74 zqk_0 ?_
              refine zr_iload dX5_right_75 rfl ?_
              refine zr_pSi (ctX5_at x3 (0 : Int32) x7 h8 _ hw) zy_X5_at zm_X5_49 (by decide) rfl rfl (Nat.le_of_ble_eq_true rfl) dX5_right_77 (fun r13 hw => ?_)
              obtain ⟨hi, hw⟩ := hw
              refine zr_iald zz_M1 hi rfl dX5_right_80 ?_
              obtain ⟨hi, hw⟩ := hw
              refine zr_iast zz_M1 hi rfl dX5_right_81 hw (fun h14 hw => ?_)
              refine zr_iinc (x6 + 1) [.ref 0, .int p1, .int (x6 + 1), .int x3, .int x7] dX5_right_82 rfl (zok_1 _) (by decide) rfl rfl ?_
              refine zr_iinc (x7 + 1) [.ref 0, .int p1, .int (x6 + 1), .int x3, .int (x7 + 1)] dX5_right_85 rfl (zok_1 _) (by decide) rfl rfl ?_
              refine zr_goto 37 dX5_right_88 (by decide) ?_
              exact ih37 _ _ _ hw
        have key37 : ∀ (t9 : Nat) (x6 : Int32) (x7 : Int32) (h8 : zz_H), zz_lp (fun K (s : Int32 × Int32 × zz_H) => wX5_right_b37 p1 x3 K5 K s.1 s.2.1 s.2.2) t9 (x6, x7, h8) → zz_Go zz_M 2 cX5_right RX5 5 (some .int) post 37 [] [.ref 0, .int p1, .int x6, .int x3, .int x7] h8 := by
          intro t9
          induction t9 with
          | zero => intro x6 x7 h8 hw; exact hw.elim
          | succ t9 ih => intro x6 x7 h8 hw; exact step37 _ ih _ _ _ hw
        exact key37 t9 _ _ _ hw
    have key23 : ∀ (t9 : Nat) (x2 : Int32) (x3 : Int32) (h4 : zz_H), zz_lp (fun K (s : Int32 × Int32 × zz_H) => wX5_right_b23 p1 post K s.1 s.2.1 s.2.2) t9 (x2, x3, h4) → zz_Go zz_M 2 cX5_right RX5 5 (some .int) post 23 [] [.ref 0, .int p1, .int x2, .int x3, .null] h4 := by
      intro t9
      induction t9 with
      | zero => intro x2 x3 h4 hw; exact hw.elim
      | succ t9 ih => intro x2 x3 h4 hw; exact step23 _ ih _ _ _ hw
    exact key23 t9 _ _ _ hw
  · have hw := hw.2 q
    refine zr_aload_n dX5_right_12 rfl rfl ?_
    refine zr_ldc zk_X5_40 dX5_right_13 ?_
    refine zr_callVi zz_cX5 zz_M0 (ctX5_finds ((-1000001) : Int32) h0 _ hw) zy_X5_finds zm_X5_59 (by decide) rfl rfl (Nat.le_of_ble_eq_true rfl) dX5_right_15 (fun r16 h15 hw => ?_)
    exact zr_ret rfl rfl dX5_right_18 hw
def wX5_unlike_j89 (p1 : Int32) (h0 : zz_H) (post : Int32 → zz_H → Prop) (x2 : Int32) (x3 : Int32) : Prop :=
  ((0 ≤ x2) → (((¬ p1 = 0) → (post x3 h0)) ∧ ((p1 = 0) → (post x2 h0)))) ∧ ((¬ 0 ≤ x2) → (wX5_finds ((-1000004) : Int32) h0 (fun r7 h6 => post r7 h6)))
def wX5_unlike_j71 (x2 : Int32) (x3 : Int32) (x4 : Int32) (K5 : Int32 × Int32 × Int32 → Prop) (x8 : Int32) : Prop :=
  ((x8 ≤ x3) → (K5 (x2, x3, (x4 + 1)))) ∧ ((¬ x8 ≤ x3) → (K5 (x4, x8, (x4 + 1))))
def wX5_unlike_b42 (h0 : zz_H) (x2 : Int32) (x3 : Int32) (x4 : Int32) (K5 : Int32 × Int32 × Int32 → Prop) (K10 : Int32 × Int32 → Prop) (x8 : Int32) (x9 : Int32) : Prop :=
  (((8 : Int32) ≤ x9) → (wX5_unlike_j71 x2 x3 x4 K5 x8)) ∧ ((¬ (8 : Int32) ≤ x9) → (wX5_apart x4 x9 h0 (fun r11 => wX5_size r11 h0 (fun r12 => K10 ((x8 + r12), (x9 + 1))))))
def wX5_unlike_b24 (p1 : Int32) (h0 : zz_H) (post : Int32 → zz_H → Prop) (K5 : Int32 × Int32 × Int32 → Prop) (x2 : Int32) (x3 : Int32) (x4 : Int32) : Prop :=
  (((h0 1 17) ≤ x4) → (wX5_unlike_j89 p1 h0 post x2 x3)) ∧ ((¬ (h0 1 17) ≤ x4) → (∃ t9, zz_lp (fun K (s : Int32 × Int32) => wX5_unlike_b42 h0 x2 x3 x4 K5 K s.1 s.2) t9 ((0 : Int32), (0 : Int32))))
def wX5_unlike (p1 : Int32) (h0 : zz_H) (post : Int32 → zz_H → Prop) : Prop :=
  wX5_in (p1.toInt64) (0 : Int64) (1 : Int64) h0 (fun r1 => ((¬ r1 = 0) → (∃ t9, zz_lp (fun K (s : Int32 × Int32 × Int32) => wX5_unlike_b24 p1 h0 post K s.1 s.2.1 s.2.2) t9 (((-1) : Int32), ((-1) : Int32), (0 : Int32)))) ∧ ((r1 = 0) → (wX5_finds ((-1000001) : Int32) h0 (fun r14 h13 => post r14 h13))))
set_option maxRecDepth 20000 in
set_option maxHeartbeats 4000000 in
theorem ctX5_unlike (p1 : Int32) (h0 : zz_H) (post : Int32 → zz_H → Prop) (hw : wX5_unlike p1 h0 post) : zz_Ct zz_M 2 yX5_unlike cX5_unlike 7 (some .int) [.ref 0, .int p1] h0 post := by
  refine zz_ct (L := [.ref 0, .int p1, .null, .null, .null, .null, .null]) (by decide +kernel) (Nat.le_of_ble_eq_true rfl) (fun ad q hq => hq) ?_
  show zz_Go zz_M 2 cX5_unlike RX5 7 (some .int) post 0 [] [.ref 0, .int p1, .null, .null, .null, .null, .null] h0
  unfold wX5_unlike at hw
  refine zr_iload_n dX5_unlike_0 rfl rfl ?_
  refine zr_i2l dX5_unlike_1 ?_
  refine zr_lconst (v := 0) dX5_unlike_2 (by decide) ?_
  refine zr_lconst (v := 1) dX5_unlike_3 (by decide) ?_
  refine zr_pSi (ctX5_in (p1.toInt64) (0 : Int64) (1 : Int64) h0 _ hw) zy_X5_in zm_X5_43 (by decide) rfl rfl (Nat.le_of_ble_eq_true rfl) dX5_unlike_4 (fun r1 hw => ?_)
  refine zr_if_ne 17 dX5_unlike_7 (by decide) (fun q => ?_) (fun q => ?_)
  · have hw := hw.1 q
    refine zr_iconst dX5_unlike_17 zqk_m1 ?_
    refine zr_istore_n [.ref 0, .int p1, .int ((-1) : Int32), .null, .null, .null, .null] dX5_unlike_18 rfl (by decide) rfl rfl ?_
    refine zr_iconst dX5_unlike_19 zqk_m1 ?_
    refine zr_istore_n [.ref 0, .int p1, .int ((-1) : Int32), .int ((-1) : Int32), .null, .null, .null] dX5_unlike_20 rfl (by decide) rfl rfl ?_
    refine zr_iconst dX5_unlike_21 zqk_0 ?_
    refine zr_istore [.ref 0, .int p1, .int ((-1) : Int32), .int ((-1) : Int32), .int (0 : Int32), .null, .null] dX5_unlike_22 (by decide) rfl rfl ?_
    obtain ⟨t9, hw⟩ := hw
    have step24 : ∀ (K5 : Int32 × Int32 × Int32 → Prop), (∀ (x2 : Int32) (x3 : Int32) (x4 : Int32), K5 (x2, x3, x4) → zz_Go zz_M 2 cX5_unlike RX5 7 (some .int) post 24 [] [.ref 0, .int p1, .int x2, .int x3, .int x4, .null, .null] h0) → ∀ (x2 : Int32) (x3 : Int32) (x4 : Int32), wX5_unlike_b24 p1 h0 post K5 x2 x3 x4 → zz_Go zz_M 2 cX5_unlike RX5 7 (some .int) post 24 [] [.ref 0, .int p1, .int x2, .int x3, .int x4, .null, .null] h0 := by
      intro K5 ih24 x2 x3 x4 hw
      unfold wX5_unlike_b24 at hw
      refine zr_iload dX5_unlike_24 rfl ?_
      refine zr_aload_n dX5_unlike_26 rfl rfl ?_
      refine zr_getR zz_cX5 zz_M0 0 (by decide) rfl zf_X5_7 dX5_unlike_27 ?_
      refine zr_bipush dX5_unlike_30 zbk_17 ?_
      refine zr_iald zz_M1 (zz_vin (by decide)) (j := 17) (by decide) dX5_unlike_32 ?_
      have j89 : wX5_unlike_j89 p1 h0 post x2 x3 → zz_Go zz_M 2 cX5_unlike RX5 7 (some .int) post 89 [] [.ref 0, .int p1, .int x2, .int x3, .null, .null, .null] h0 := by
        intro hw
        unfold wX5_unlike_j89 at hw
        refine zr_iload_n dX5_unlike_89 rfl rfl ?_
        refine zr_if_ge 102 dX5_unlike_90 (by decide) (fun q => ?_) (fun q => ?_)
        · have hw := hw.1 q
          refine zr_iload_n dX5_unlike_102 rfl rfl ?_
          refine zr_if_ne 110 dX5_unlike_103 (by decide) (fun q => ?_) (fun q => ?_)
          · have hw := hw.1 q
            refine zr_iload_n dX5_unlike_110 rfl rfl ?_
            exact zr_ret rfl rfl dX5_unlike_111 hw
          · have hw := hw.2 q
            refine zr_iload_n dX5_unlike_106 rfl rfl ?_
            refine zr_goto 111 dX5_unlike_107 (by decide) ?_
            exact zr_ret rfl rfl dX5_unlike_111 hw
        · have hw := hw.2 q
          refine zr_aload_n dX5_unlike_93 rfl rfl ?_
          refine zr_ldc zk_X5_89 dX5_unlike_94 ?_
          refine zr_callVi zz_cX5 zz_M0 (ctX5_finds ((-1000004) : Int32) h0 _ hw) zy_X5_finds zm_X5_59 (by decide) rfl rfl (Nat.le_of_ble_eq_true rfl) dX5_unlike_96 (fun r7 h6 hw => ?_)
          refine zr_goto 111 dX5_unlike_99 (by decide) ?_
          exact zr_ret rfl rfl dX5_unlike_111 hw
      refine zr_icmp_ge 89 dX5_unlike_33 (by decide) (fun q => ?_) (fun q => ?_)
      · have hw := hw.1 q
        refine zr_sub [.ref 0, .int p1, .int x2, .int x3, .null, .null, .null] ⟨Or.inr rfl, ⟨Or.inr rfl, ⟨Or.inr rfl, ⟨Or.inr rfl, ⟨Or.inl rfl, ⟨Or.inl rfl, ⟨Or.inl rfl, trivial⟩⟩⟩⟩⟩⟩⟩ ?_
        exact j89 hw
      · have hw := hw.2 q
        refine zr_iconst dX5_unlike_36 zqk_0 ?_
        refine zr_istore [.ref 0, .int p1, .int x2, .int x3, .int x4, .int (0 : Int32), .null] dX5_unlike_37 (by decide) rfl rfl ?_
        refine zr_iconst dX5_unlike_39 zqk_0 ?_
        refine zr_istore [.ref 0, .int p1, .int x2, .int x3, .int x4, .int (0 : Int32), .int (0 : Int32)] dX5_unlike_40 (by decide) rfl rfl ?_
        obtain ⟨t9, hw⟩ := hw
        have step42 : ∀ (K10 : Int32 × Int32 → Prop), (∀ (x8 : Int32) (x9 : Int32), K10 (x8, x9) → zz_Go zz_M 2 cX5_unlike RX5 7 (some .int) post 42 [] [.ref 0, .int p1, .int x2, .int x3, .int x4, .int x8, .int x9] h0) → ∀ (x8 : Int32) (x9 : Int32), wX5_unlike_b42 h0 x2 x3 x4 K5 K10 x8 x9 → zz_Go zz_M 2 cX5_unlike RX5 7 (some .int) post 42 [] [.ref 0, .int p1, .int x2, .int x3, .int x4, .int x8, .int x9] h0 := by
          intro K10 ih42 x8 x9 hw
          unfold wX5_unlike_b42 at hw
          refine zr_iload dX5_unlike_42 rfl ?_
          refine zr_bipush dX5_unlike_44 zbk_8 ?_
          have j71 : wX5_unlike_j71 x2 x3 x4 K5 x8 → zz_Go zz_M 2 cX5_unlike RX5 7 (some .int) post 71 [] [.ref 0, .int p1, .int x2, .int x3, .int x4, .int x8, .null] h0 := by
            intro hw
            unfold wX5_unlike_j71 at hw
            refine zr_iload dX5_unlike_71 rfl ?_
            refine zr_iload_n dX5_unlike_73 rfl rfl ?_
            refine zr_icmp_le 83 dX5_unlike_74 (by decide) (fun q => ?_) (fun q => ?_)
            · have hw := hw.1 q
              refine zr_iinc (x4 + 1) [.ref 0, .int p1, .int x2, .int x3, .int (x4 + 1), .int x8, .null] dX5_unlike_83 rfl (zok_1 _) (by decide) rfl rfl ?_
              refine zr_goto 24 dX5_unlike_86 (by decide) ?_
              refine zr_sub [.ref 0, .int p1, .int x2, .int x3, .int (x4 + 1), .null, .null] ⟨Or.inr rfl, ⟨Or.inr rfl, ⟨Or.inr rfl, ⟨Or.inr rfl, ⟨Or.inr rfl, ⟨Or.inl rfl, ⟨Or.inl rfl, trivial⟩⟩⟩⟩⟩⟩⟩ ?_
              exact ih24 _ _ _ hw
            · have hw := hw.2 q
              refine zr_iload dX5_unlike_77 rfl ?_
              refine zr_istore_n [.ref 0, .int p1, .int x4, .int x3, .int x4, .int x8, .null] dX5_unlike_79 rfl (by decide) rfl rfl ?_
              refine zr_iload dX5_unlike_80 rfl ?_
              refine zr_istore_n [.ref 0, .int p1, .int x4, .int x8, .int x4, .int x8, .null] dX5_unlike_82 rfl (by decide) rfl rfl ?_
              refine zr_iinc (x4 + 1) [.ref 0, .int p1, .int x4, .int x8, .int (x4 + 1), .int x8, .null] dX5_unlike_83 rfl (zok_1 _) (by decide) rfl rfl ?_
              refine zr_goto 24 dX5_unlike_86 (by decide) ?_
              refine zr_sub [.ref 0, .int p1, .int x4, .int x8, .int (x4 + 1), .null, .null] ⟨Or.inr rfl, ⟨Or.inr rfl, ⟨Or.inr rfl, ⟨Or.inr rfl, ⟨Or.inr rfl, ⟨Or.inl rfl, ⟨Or.inl rfl, trivial⟩⟩⟩⟩⟩⟩⟩ ?_
              exact ih24 _ _ _ hw
          refine zr_icmp_ge 71 dX5_unlike_46 (by decide) (fun q => ?_) (fun q => ?_)
          · have hw := hw.1 q
            refine zr_sub [.ref 0, .int p1, .int x2, .int x3, .int x4, .int x8, .null] ⟨Or.inr rfl, ⟨Or.inr rfl, ⟨Or.inr rfl, ⟨Or.inr rfl, ⟨Or.inr rfl, ⟨Or.inr rfl, ⟨Or.inl rfl, trivial⟩⟩⟩⟩⟩⟩⟩ ?_
            exact j71 hw
          · have hw := hw.2 q
            refine zr_iload dX5_unlike_49 rfl ?_
            refine zr_aload_n dX5_unlike_51 rfl rfl ?_
            refine zr_iload dX5_unlike_52 rfl ?_
            refine zr_iload dX5_unlike_54 rfl ?_
            refine zr_pVi zz_cX5 zz_M0 (ctX5_apart x4 x9 h0 _ hw) zy_X5_apart zm_X5_166 (by decide) rfl rfl (Nat.le_of_ble_eq_true rfl) dX5_unlike_56 (fun r11 hw => ?_)
            refine zr_pSi (ctX5_size r11 h0 _ hw) zy_X5_size zm_X5_169 (by decide) rfl rfl (Nat.le_of_ble_eq_true rfl) dX5_unlike_59 (fun r12 hw => ?_)
            refine zr_iadd dX5_unlike_62 ?_
            refine zr_istore [.ref 0, .int p1, .int x2, .int x3, .int x4, .int (x8 + r12), .int x9] dX5_unlike_63 (by decide) rfl rfl ?_
            refine zr_iinc (x9 + 1) [.ref 0, .int p1, .int x2, .int x3, .int x4, .int (x8 + r12), .int (x9 + 1)] dX5_unlike_65 rfl (zok_1 _) (by decide) rfl rfl ?_
            refine zr_goto 42 dX5_unlike_68 (by decide) ?_
            exact ih42 _ _ hw
        have key42 : ∀ (t9 : Nat) (x8 : Int32) (x9 : Int32), zz_lp (fun K (s : Int32 × Int32) => wX5_unlike_b42 h0 x2 x3 x4 K5 K s.1 s.2) t9 (x8, x9) → zz_Go zz_M 2 cX5_unlike RX5 7 (some .int) post 42 [] [.ref 0, .int p1, .int x2, .int x3, .int x4, .int x8, .int x9] h0 := by
          intro t9
          induction t9 with
          | zero => intro x8 x9 hw; exact hw.elim
          | succ t9 ih => intro x8 x9 hw; exact step42 _ ih _ _ hw
        exact key42 t9 _ _ hw
    have key24 : ∀ (t9 : Nat) (x2 : Int32) (x3 : Int32) (x4 : Int32), zz_lp (fun K (s : Int32 × Int32 × Int32) => wX5_unlike_b24 p1 h0 post K s.1 s.2.1 s.2.2) t9 (x2, x3, x4) → zz_Go zz_M 2 cX5_unlike RX5 7 (some .int) post 24 [] [.ref 0, .int p1, .int x2, .int x3, .int x4, .null, .null] h0 := by
      intro t9
      induction t9 with
      | zero => intro x2 x3 x4 hw; exact hw.elim
      | succ t9 ih => intro x2 x3 x4 hw; exact step24 _ ih _ _ _ hw
    exact key24 t9 _ _ _ hw
  · have hw := hw.2 q
    refine zr_aload_n dX5_unlike_10 rfl rfl ?_
    refine zr_ldc zk_X5_40 dX5_unlike_11 ?_
    refine zr_callVi zz_cX5 zz_M0 (ctX5_finds ((-1000001) : Int32) h0 _ hw) zy_X5_finds zm_X5_59 (by decide) rfl rfl (Nat.le_of_ble_eq_true rfl) dX5_unlike_13 (fun r14 h13 hw => ?_)
    exact zr_ret rfl rfl dX5_unlike_16 hw
def wX5_countsOf_b18 (p1 : Int32) (h0 : zz_H) (x2 : Int32) (K3 : Int32 × Int32 → Prop) (K6 : Int32 × Int32 → Prop) (x4 : Int32) (x5 : Int32) : Prop :=
  ((x2 ≤ x5) → (K3 (x4, (x2 + 1)))) ∧ ((¬ x2 ≤ x5) → (wX5_score x2 p1 h0 (fun r7 => wX5_score x5 p1 h0 (fun r8 => wX5_size (r7 - r8) h0 (fun r9 => K6 ((x4 + r9), (x5 + 1)))))))
def wX5_countsOf_b4 (p1 : Int32) (h0 : zz_H) (post : Int32 → Prop) (K3 : Int32 × Int32 → Prop) (x1 : Int32) (x2 : Int32) : Prop :=
  (((h0 1 17) ≤ x2) → (post x1)) ∧ ((¬ (h0 1 17) ≤ x2) → (∃ t9, zz_lp (fun K (s : Int32 × Int32) => wX5_countsOf_b18 p1 h0 x2 K3 K s.1 s.2) t9 (x1, (0 : Int32))))
def wX5_countsOf (p1 : Int32) (h0 : zz_H) (post : Int32 → Prop) : Prop :=
  ∃ t9, zz_lp (fun K (s : Int32 × Int32) => wX5_countsOf_b4 p1 h0 post K s.1 s.2) t9 ((0 : Int32), (0 : Int32))
set_option maxRecDepth 20000 in
set_option maxHeartbeats 4000000 in
theorem ctX5_countsOf (p1 : Int32) (h0 : zz_H) (post : Int32 → Prop) (hw : wX5_countsOf p1 h0 post) : zz_Ct zz_M 2 yX5_countsOf cX5_countsOf 5 (some .int) [.ref 0, .int p1] h0 (zz_pu h0 post) := by
  refine zz_ct (L := [.ref 0, .int p1, .null, .null, .null]) (by decide +kernel) (Nat.le_of_ble_eq_true rfl) (fun ad q hq => hq) ?_
  show zz_Go zz_M 2 cX5_countsOf RX5 5 (some .int) (zz_pu h0 post) 0 [] [.ref 0, .int p1, .null, .null, .null] h0
  unfold wX5_countsOf at hw
  refine zr_iconst dX5_countsOf_0 zqk_0 ?_
  refine zr_istore_n [.ref 0, .int p1, .int (0 : Int32), .null, .null] dX5_countsOf_1 rfl (by decide) rfl rfl ?_
  refine zr_iconst dX5_countsOf_2 zqk_0 ?_
  refine zr_istore_n [.ref 0, .int p1, .int (0 : Int32), .int (0 : Int32), .null] dX5_countsOf_3 rfl (by decide) rfl rfl ?_
  obtain ⟨t9, hw⟩ := hw
  have step4 : ∀ (K3 : Int32 × Int32 → Prop), (∀ (x1 : Int32) (x2 : Int32), K3 (x1, x2) → zz_Go zz_M 2 cX5_countsOf RX5 5 (some .int) (zz_pu h0 post) 4 [] [.ref 0, .int p1, .int x1, .int x2, .null] h0) → ∀ (x1 : Int32) (x2 : Int32), wX5_countsOf_b4 p1 h0 post K3 x1 x2 → zz_Go zz_M 2 cX5_countsOf RX5 5 (some .int) (zz_pu h0 post) 4 [] [.ref 0, .int p1, .int x1, .int x2, .null] h0 := by
    intro K3 ih4 x1 x2 hw
    unfold wX5_countsOf_b4 at hw
    refine zr_iload_n dX5_countsOf_4 rfl rfl ?_
    refine zr_aload_n dX5_countsOf_5 rfl rfl ?_
    refine zr_getR zz_cX5 zz_M0 0 (by decide) rfl zf_X5_7 dX5_countsOf_6 ?_
    refine zr_bipush dX5_countsOf_9 zbk_17 ?_
    refine zr_iald zz_M1 (zz_vin (by decide)) (j := 17) (by decide) dX5_countsOf_11 ?_
    refine zr_icmp_ge 56 dX5_countsOf_12 (by decide) (fun q => ?_) (fun q => ?_)
    · have hw := hw.1 q
      refine zr_iload_n dX5_countsOf_56 rfl rfl ?_
      exact zr_ret rfl rfl dX5_countsOf_57 ⟨rfl, hw⟩
    · have hw := hw.2 q
      refine zr_iconst dX5_countsOf_15 zqk_0 ?_
      refine zr_istore [.ref 0, .int p1, .int x1, .int x2, .int (0 : Int32)] dX5_countsOf_16 (by decide) rfl rfl ?_
      obtain ⟨t9, hw⟩ := hw
      have step18 : ∀ (K6 : Int32 × Int32 → Prop), (∀ (x4 : Int32) (x5 : Int32), K6 (x4, x5) → zz_Go zz_M 2 cX5_countsOf RX5 5 (some .int) (zz_pu h0 post) 18 [] [.ref 0, .int p1, .int x4, .int x2, .int x5] h0) → ∀ (x4 : Int32) (x5 : Int32), wX5_countsOf_b18 p1 h0 x2 K3 K6 x4 x5 → zz_Go zz_M 2 cX5_countsOf RX5 5 (some .int) (zz_pu h0 post) 18 [] [.ref 0, .int p1, .int x4, .int x2, .int x5] h0 := by
        intro K6 ih18 x4 x5 hw
        unfold wX5_countsOf_b18 at hw
        refine zr_iload dX5_countsOf_18 rfl ?_
        refine zr_iload_n dX5_countsOf_20 rfl rfl ?_
        refine zr_icmp_ge 50 dX5_countsOf_21 (by decide) (fun q => ?_) (fun q => ?_)
        · have hw := hw.1 q
          refine zr_iinc (x2 + 1) [.ref 0, .int p1, .int x4, .int (x2 + 1), .int x5] dX5_countsOf_50 rfl (zok_1 _) (by decide) rfl rfl ?_
          refine zr_goto 4 dX5_countsOf_53 (by decide) ?_
          refine zr_sub [.ref 0, .int p1, .int x4, .int (x2 + 1), .null] ⟨Or.inr rfl, ⟨Or.inr rfl, ⟨Or.inr rfl, ⟨Or.inr rfl, ⟨Or.inl rfl, trivial⟩⟩⟩⟩⟩ ?_
          exact ih4 _ _ hw
        · have hw := hw.2 q
          refine zr_iload_n dX5_countsOf_24 rfl rfl ?_
          refine zr_aload_n dX5_countsOf_25 rfl rfl ?_
          refine zr_iload_n dX5_countsOf_26 rfl rfl ?_
          refine zr_iload_n dX5_countsOf_27 rfl rfl ?_
          refine zr_pVi zz_cX5 zz_M0 (ctX5_score x2 p1 h0 _ hw) zy_X5_score zm_X5_78 (by decide) rfl rfl (Nat.le_of_ble_eq_true rfl) dX5_countsOf_28 (fun r7 hw => ?_)
          refine zr_aload_n dX5_countsOf_31 rfl rfl ?_
          refine zr_iload dX5_countsOf_32 rfl ?_
          refine zr_iload_n dX5_countsOf_34 rfl rfl ?_
          refine zr_pVi zz_cX5 zz_M0 (ctX5_score x5 p1 h0 _ hw) zy_X5_score zm_X5_78 (by decide) rfl rfl (Nat.le_of_ble_eq_true rfl) dX5_countsOf_35 (fun r8 hw => ?_)
          refine zr_isub dX5_countsOf_38 ?_
          refine zr_pSi (ctX5_size (r7 - r8) h0 _ hw) zy_X5_size zm_X5_169 (by decide) rfl rfl (Nat.le_of_ble_eq_true rfl) dX5_countsOf_39 (fun r9 hw => ?_)
          refine zr_iadd dX5_countsOf_42 ?_
          refine zr_istore_n [.ref 0, .int p1, .int (x4 + r9), .int x2, .int x5] dX5_countsOf_43 rfl (by decide) rfl rfl ?_
          refine zr_iinc (x5 + 1) [.ref 0, .int p1, .int (x4 + r9), .int x2, .int (x5 + 1)] dX5_countsOf_44 rfl (zok_1 _) (by decide) rfl rfl ?_
          refine zr_goto 18 dX5_countsOf_47 (by decide) ?_
          exact ih18 _ _ hw
      have key18 : ∀ (t9 : Nat) (x4 : Int32) (x5 : Int32), zz_lp (fun K (s : Int32 × Int32) => wX5_countsOf_b18 p1 h0 x2 K3 K s.1 s.2) t9 (x4, x5) → zz_Go zz_M 2 cX5_countsOf RX5 5 (some .int) (zz_pu h0 post) 18 [] [.ref 0, .int p1, .int x4, .int x2, .int x5] h0 := by
        intro t9
        induction t9 with
        | zero => intro x4 x5 hw; exact hw.elim
        | succ t9 ih => intro x4 x5 hw; exact step18 _ ih _ _ hw
      exact key18 t9 _ _ hw
  have key4 : ∀ (t9 : Nat) (x1 : Int32) (x2 : Int32), zz_lp (fun K (s : Int32 × Int32) => wX5_countsOf_b4 p1 h0 post K s.1 s.2) t9 (x1, x2) → zz_Go zz_M 2 cX5_countsOf RX5 5 (some .int) (zz_pu h0 post) 4 [] [.ref 0, .int p1, .int x1, .int x2, .null] h0 := by
    intro t9
    induction t9 with
    | zero => intro x1 x2 hw; exact hw.elim
    | succ t9 ih => intro x1 x2 hw; exact step4 _ ih _ _ hw
  exact key4 t9 _ _ hw
def wX5_counts (p1 : Int32) (h0 : zz_H) (post : Int32 → zz_H → Prop) : Prop :=
  wX5_isQuestion p1 h0 (fun r1 => ((r1 = 0) → (wX5_finds ((-1000001) : Int32) h0 (fun r3 h2 => post r3 h2))) ∧ ((¬ r1 = 0) → (wX5_countsOf p1 h0 (fun r4 => post r4 h0))))
set_option maxRecDepth 20000 in
set_option maxHeartbeats 4000000 in
theorem ctX5_counts (p1 : Int32) (h0 : zz_H) (post : Int32 → zz_H → Prop) (hw : wX5_counts p1 h0 post) : zz_Ct zz_M 3 yX5_counts cX5_counts 2 (some .int) [.ref 0, .int p1] h0 post := by
  refine zz_ct (L := [.ref 0, .int p1]) (by decide +kernel) (Nat.le_of_ble_eq_true rfl) (fun ad q hq => hq) ?_
  show zz_Go zz_M 3 cX5_counts RX5 2 (some .int) post 0 [] [.ref 0, .int p1] h0
  unfold wX5_counts at hw
  refine zr_iload_n dX5_counts_0 rfl rfl ?_
  refine zr_pSi (ctX5_isQuestion p1 h0 _ hw) zy_X5_isQuestion zm_X5_53 (by decide) rfl rfl (Nat.le_of_ble_eq_true rfl) dX5_counts_1 (fun r1 hw => ?_)
  refine zr_if_eq 15 dX5_counts_4 (by decide) (fun q => ?_) (fun q => ?_)
  · have hw := hw.1 q
    refine zr_aload_n dX5_counts_15 rfl rfl ?_
    refine zr_ldc zk_X5_40 dX5_counts_16 ?_
    refine zr_callVi zz_cX5 zz_M0 (ctX5_finds ((-1000001) : Int32) h0 _ hw) zy_X5_finds zm_X5_59 (by decide) rfl rfl (Nat.le_of_ble_eq_true rfl) dX5_counts_18 (fun r3 h2 hw => ?_)
    exact zr_ret rfl rfl dX5_counts_21 hw
  · have hw := hw.2 q
    refine zr_aload_n dX5_counts_7 rfl rfl ?_
    refine zr_iload_n dX5_counts_8 rfl rfl ?_
    refine zr_pVi zz_cX5 zz_M0 (ctX5_countsOf p1 h0 _ hw) zy_X5_countsOf zm_X5_172 (by decide) rfl rfl (Nat.le_of_ble_eq_true rfl) dX5_counts_9 (fun r4 hw => ?_)
    refine zr_goto 21 dX5_counts_12 (by decide) ?_
    exact zr_ret rfl rfl dX5_counts_21 hw
def wX5_heavy_b4 (h0 : zz_H) (post : Int32 → Prop) (K3 : Int32 × Int32 → Prop) (x1 : Int32) (x2 : Int32) : Prop :=
  (((8 : Int32) ≤ x2) → (post x1)) ∧ ((¬ (8 : Int32) ≤ x2) → (wX5_countsOf x2 h0 (fun r4 => wX5_countsOf x1 h0 (fun r5 => ((r4 ≤ r5) → (K3 (x1, (x2 + 1)))) ∧ ((¬ r4 ≤ r5) → (K3 (x2, (x2 + 1))))))))
def wX5_heavy (h0 : zz_H) (post : Int32 → Prop) : Prop :=
  ∃ t9, zz_lp (fun K (s : Int32 × Int32) => wX5_heavy_b4 h0 post K s.1 s.2) t9 ((0 : Int32), (1 : Int32))
set_option maxRecDepth 20000 in
set_option maxHeartbeats 4000000 in
theorem ctX5_heavy (h0 : zz_H) (post : Int32 → Prop) (hw : wX5_heavy h0 post) : zz_Ct zz_M 3 yX5_heavy cX5_heavy 3 (some .int) [.ref 0] h0 (zz_pu h0 post) := by
  refine zz_ct (L := [.ref 0, .null, .null]) (by decide +kernel) (Nat.le_of_ble_eq_true rfl) (fun ad q hq => hq) ?_
  show zz_Go zz_M 3 cX5_heavy RX5 3 (some .int) (zz_pu h0 post) 0 [] [.ref 0, .null, .null] h0
  unfold wX5_heavy at hw
  refine zr_iconst dX5_heavy_0 zqk_0 ?_
  refine zr_istore_n [.ref 0, .int (0 : Int32), .null] dX5_heavy_1 rfl (by decide) rfl rfl ?_
  refine zr_iconst dX5_heavy_2 zqk_1 ?_
  refine zr_istore_n [.ref 0, .int (0 : Int32), .int (1 : Int32)] dX5_heavy_3 rfl (by decide) rfl rfl ?_
  obtain ⟨t9, hw⟩ := hw
  have step4 : ∀ (K3 : Int32 × Int32 → Prop), (∀ (x1 : Int32) (x2 : Int32), K3 (x1, x2) → zz_Go zz_M 3 cX5_heavy RX5 3 (some .int) (zz_pu h0 post) 4 [] [.ref 0, .int x1, .int x2] h0) → ∀ (x1 : Int32) (x2 : Int32), wX5_heavy_b4 h0 post K3 x1 x2 → zz_Go zz_M 3 cX5_heavy RX5 3 (some .int) (zz_pu h0 post) 4 [] [.ref 0, .int x1, .int x2] h0 := by
    intro K3 ih4 x1 x2 hw
    unfold wX5_heavy_b4 at hw
    refine zr_iload_n dX5_heavy_4 rfl rfl ?_
    refine zr_bipush dX5_heavy_5 zbk_8 ?_
    refine zr_icmp_ge 35 dX5_heavy_7 (by decide) (fun q => ?_) (fun q => ?_)
    · have hw := hw.1 q
      refine zr_iload_n dX5_heavy_35 rfl rfl ?_
      exact zr_ret rfl rfl dX5_heavy_36 ⟨rfl, hw⟩
    · have hw := hw.2 q
      refine zr_aload_n dX5_heavy_10 rfl rfl ?_
      refine zr_iload_n dX5_heavy_11 rfl rfl ?_
      refine zr_pVi zz_cX5 zz_M0 (ctX5_countsOf x2 h0 _ hw) zy_X5_countsOf zm_X5_172 (by decide) rfl rfl (Nat.le_of_ble_eq_true rfl) dX5_heavy_12 (fun r4 hw => ?_)
      refine zr_aload_n dX5_heavy_15 rfl rfl ?_
      refine zr_iload_n dX5_heavy_16 rfl rfl ?_
      refine zr_pVi zz_cX5 zz_M0 (ctX5_countsOf x1 h0 _ hw) zy_X5_countsOf zm_X5_172 (by decide) rfl rfl (Nat.le_of_ble_eq_true rfl) dX5_heavy_17 (fun r5 hw => ?_)
      refine zr_icmp_le 27 dX5_heavy_20 (by decide) (fun q => ?_) (fun q => ?_)
      · have hw := hw.1 q
        refine zr_iload_n dX5_heavy_27 rfl rfl ?_
        refine zr_istore_n [.ref 0, .int x1, .int x2] dX5_heavy_28 rfl (by decide) rfl rfl ?_
        refine zr_iinc (x2 + 1) [.ref 0, .int x1, .int (x2 + 1)] dX5_heavy_29 rfl (zok_1 _) (by decide) rfl rfl ?_
        refine zr_goto 4 dX5_heavy_32 (by decide) ?_
        exact ih4 _ _ hw
      · have hw := hw.2 q
        refine zr_iload_n dX5_heavy_23 rfl rfl ?_
        refine zr_goto 28 dX5_heavy_24 (by decide) ?_
        refine zr_istore_n [.ref 0, .int x2, .int x2] dX5_heavy_28 rfl (by decide) rfl rfl ?_
        refine zr_iinc (x2 + 1) [.ref 0, .int x2, .int (x2 + 1)] dX5_heavy_29 rfl (zok_1 _) (by decide) rfl rfl ?_
        refine zr_goto 4 dX5_heavy_32 (by decide) ?_
        exact ih4 _ _ hw
  have key4 : ∀ (t9 : Nat) (x1 : Int32) (x2 : Int32), zz_lp (fun K (s : Int32 × Int32) => wX5_heavy_b4 h0 post K s.1 s.2) t9 (x1, x2) → zz_Go zz_M 3 cX5_heavy RX5 3 (some .int) (zz_pu h0 post) 4 [] [.ref 0, .int x1, .int x2] h0 := by
    intro t9
    induction t9 with
    | zero => intro x1 x2 hw; exact hw.elim
    | succ t9 ih => intro x1 x2 hw; exact step4 _ ih _ _ hw
  exact key4 t9 _ _ hw
def wX5_seed (p1 : Int32) (h0 : zz_H) (post : Int32 → zz_H → Prop) : Prop :=
  zz_sto h0 1 (upd (h0 1) 16 p1) (fun h1 => post (h0 1 16) h1)
set_option maxRecDepth 20000 in
set_option maxHeartbeats 4000000 in
theorem ctX5_seed (p1 : Int32) (h0 : zz_H) (post : Int32 → zz_H → Prop) (hw : wX5_seed p1 h0 post) : zz_Ct zz_M 0 yX5_seed cX5_seed 3 (some .int) [.ref 0, .int p1] h0 post := by
  refine zz_ct (L := [.ref 0, .int p1, .null]) (by decide +kernel) (Nat.le_of_ble_eq_true rfl) (fun ad q hq => hq) ?_
  show zz_Go zz_M 0 cX5_seed RX5 3 (some .int) post 0 [] [.ref 0, .int p1, .null] h0
  unfold wX5_seed at hw
  refine zr_aload_n dX5_seed_0 rfl rfl ?_
  refine zr_getR zz_cX5 zz_M0 0 (by decide) rfl zf_X5_7 dX5_seed_1 ?_
  refine zr_bipush dX5_seed_4 zbk_16 ?_
  refine zr_iald zz_M1 (zz_vin (by decide)) (j := 16) (by decide) dX5_seed_6 ?_
  refine zr_istore_n [.ref 0, .int p1, .int (h0 1 16)] dX5_seed_7 rfl (by decide) rfl rfl ?_
  refine zr_aload_n dX5_seed_8 rfl rfl ?_
  refine zr_getR zz_cX5 zz_M0 0 (by decide) rfl zf_X5_7 dX5_seed_9 ?_
  refine zr_bipush dX5_seed_12 zbk_16 ?_
  refine zr_iload_n dX5_seed_14 rfl rfl ?_
  refine zr_iast zz_M1 (zz_vin (by decide)) (j := 16) (by decide) dX5_seed_15 hw (fun h1 hw => ?_)
  refine zr_iload_n dX5_seed_16 rfl rfl ?_
  exact zr_ret rfl rfl dX5_seed_17 hw
def wX5_feed_b41 (p1 : Int32) (post : Int32 → zz_H → Prop) (K4 : Int32 × zz_H → Prop) (x2 : Int32) (h3 : zz_H) : Prop :=
  ((x2 < 0) → (post (h3 0 7) h3)) ∧ ((¬ x2 < 0) → (vp_in (h3 0 7) 120 ∧ zz_sto h3 6 (upd (h3 6) (h3 0 7).toNatClampNeg ((p1 >>> (((8 : Int32) * x2) &&& 31)) &&& (255 : Int32))) (fun h5 => zz_sto h5 0 (upd (h5 0) 7 ((h5 0 7) + (1 : Int32))) (fun h6 => K4 ((x2 + (-1)), h6)))))
def wX5_feed (p1 : Int32) (p2 : Int32) (h0 : zz_H) (post : Int32 → zz_H → Prop) : Prop :=
  wX5_in (p2.toInt64) (1 : Int64) (4 : Int64) h0 (fun r1 => ((¬ r1 = 0) → (((((h0 0 7) + p2) ≤ (120 : Int32)) → (∃ t9, zz_lp (fun K (s : Int32 × zz_H) => wX5_feed_b41 p1 post K s.1 s.2) t9 ((p2 - (1 : Int32)), h0))) ∧ ((¬ ((h0 0 7) + p2) ≤ (120 : Int32)) → (wX5_finds ((-1000002) : Int32) h0 (fun r8 h7 => post r8 h7))))) ∧ ((r1 = 0) → (wX5_finds ((-1000001) : Int32) h0 (fun r10 h9 => post r10 h9))))
set_option maxRecDepth 20000 in
set_option maxHeartbeats 4000000 in
theorem ctX5_feed (p1 : Int32) (p2 : Int32) (h0 : zz_H) (post : Int32 → zz_H → Prop) (hw : wX5_feed p1 p2 h0 post) : zz_Ct zz_M 1 yX5_feed cX5_feed 4 (some .int) [.ref 0, .int p1, .int p2] h0 post := by
  refine zz_ct (L := [.ref 0, .int p1, .int p2, .null]) (by decide +kernel) (Nat.le_of_ble_eq_true rfl) (fun ad q hq => hq) ?_
  show zz_Go zz_M 1 cX5_feed RX5 4 (some .int) post 0 [] [.ref 0, .int p1, .int p2, .null] h0
  unfold wX5_feed at hw
  refine zr_iload_n dX5_feed_0 rfl rfl ?_
  refine zr_i2l dX5_feed_1 ?_
  refine zr_lconst (v := 1) dX5_feed_2 (by decide) ?_
  refine zr_ldc2 zl_X5_175 dX5_feed_3 ?_
  refine zr_pSi (ctX5_in (p2.toInt64) (1 : Int64) (4 : Int64) h0 _ hw) zy_X5_in zm_X5_43 (by decide) rfl rfl (Nat.le_of_ble_eq_true rfl) dX5_feed_6 (fun r1 hw => ?_)
  refine zr_if_ne 19 dX5_feed_9 (by decide) (fun q => ?_) (fun q => ?_)
  · have hw := hw.1 q
    refine zr_aload_n dX5_feed_19 rfl rfl ?_
    refine zr_getI zz_cX5 zz_M0 7 (by decide) rfl zf_X5_177 dX5_feed_20 ?_
    refine zr_iload_n dX5_feed_23 rfl rfl ?_
    refine zr_iadd dX5_feed_24 ?_
    refine zr_bipush dX5_feed_25 zbk_120 ?_
    refine zr_icmp_le 37 dX5_feed_27 (by decide) (fun q => ?_) (fun q => ?_)
    · have hw := hw.1 q
      refine zr_iload_n dX5_feed_37 rfl rfl ?_
      refine zr_iconst dX5_feed_38 zqk_1 ?_
      refine zr_isub dX5_feed_39 ?_
      refine zr_istore_n [.ref 0, .int p1, .int p2, .int (p2 - (1 : Int32))] dX5_feed_40 rfl (by decide) rfl rfl ?_
      refine zr_sub [.ref 0, .int p1, .null, .int (p2 - (1 : Int32))] ⟨Or.inr rfl, ⟨Or.inr rfl, ⟨Or.inl rfl, ⟨Or.inr rfl, trivial⟩⟩⟩⟩ ?_
      obtain ⟨t9, hw⟩ := hw
      have step41 : ∀ (K4 : Int32 × zz_H → Prop), (∀ (x2 : Int32) (h3 : zz_H), K4 (x2, h3) → zz_Go zz_M 1 cX5_feed RX5 4 (some .int) post 41 [] [.ref 0, .int p1, .null, .int x2] h3) → ∀ (x2 : Int32) (h3 : zz_H), wX5_feed_b41 p1 post K4 x2 h3 → zz_Go zz_M 1 cX5_feed RX5 4 (some .int) post 41 [] [.ref 0, .int p1, .null, .int x2] h3 := by
        intro K4 ih41 x2 h3 hw
        unfold wX5_feed_b41 at hw
        refine zr_iload_n dX5_feed_41 rfl rfl ?_
        refine zr_if_lt 80 dX5_feed_42 (by decide) (fun q => ?_) (fun q => ?_)
        · have hw := hw.1 q
          refine zr_aload_n dX5_feed_80 rfl rfl ?_
          refine zr_getI zz_cX5 zz_M0 7 (by decide) rfl zf_X5_177 dX5_feed_81 ?_
          exact zr_ret rfl rfl dX5_feed_84 hw
        · have hw := hw.2 q
          refine zr_aload_n dX5_feed_45 rfl rfl ?_
          refine zr_getR zz_cX5 zz_M0 6 (by decide) rfl zf_X5_25 dX5_feed_46 ?_
          refine zr_aload_n dX5_feed_49 rfl rfl ?_
          refine zr_getI zz_cX5 zz_M0 7 (by decide) rfl zf_X5_177 dX5_feed_50 ?_
          refine zr_iload_n dX5_feed_53 rfl rfl ?_
          refine zr_bipush dX5_feed_54 zbk_8 ?_
          refine zr_iload_n dX5_feed_56 rfl rfl ?_
          refine zr_imul dX5_feed_57 ?_
          refine zr_ishr dX5_feed_58 ?_
          refine zr_sipush dX5_feed_59 zhk_255 ?_
          refine zr_iand dX5_feed_62 ?_
          obtain ⟨hi, hw⟩ := hw
          refine zr_iast zz_M6 hi rfl dX5_feed_63 hw (fun h5 hw => ?_)
          refine zr_aload_n dX5_feed_64 rfl rfl ?_
          refine zr_dup dX5_feed_65 rfl ?_
          refine zr_getI zz_cX5 zz_M0 7 (by decide) rfl zf_X5_177 dX5_feed_66 ?_
          refine zr_iconst dX5_feed_69 zqk_1 ?_
          refine zr_iadd dX5_feed_70 ?_
          refine zr_putI zz_cX5 zz_M0 7 (by decide) rfl rfl rfl rfl rfl zf_X5_177 dX5_feed_71 hw (fun h6 hw => ?_)
          refine zr_iinc (x2 + (-1)) [.ref 0, .int p1, .null, .int (x2 + (-1))] dX5_feed_74 rfl (zok_m1 _) (by decide) rfl rfl ?_
          refine zr_goto 41 dX5_feed_77 (by decide) ?_
          exact ih41 _ _ hw
      have key41 : ∀ (t9 : Nat) (x2 : Int32) (h3 : zz_H), zz_lp (fun K (s : Int32 × zz_H) => wX5_feed_b41 p1 post K s.1 s.2) t9 (x2, h3) → zz_Go zz_M 1 cX5_feed RX5 4 (some .int) post 41 [] [.ref 0, .int p1, .null, .int x2] h3 := by
        intro t9
        induction t9 with
        | zero => intro x2 h3 hw; exact hw.elim
        | succ t9 ih => intro x2 h3 hw; exact step41 _ ih _ _ hw
      exact key41 t9 _ _ hw
    · have hw := hw.2 q
      refine zr_aload_n dX5_feed_30 rfl rfl ?_
      refine zr_ldc zk_X5_71 dX5_feed_31 ?_
      refine zr_callVi zz_cX5 zz_M0 (ctX5_finds ((-1000002) : Int32) h0 _ hw) zy_X5_finds zm_X5_59 (by decide) rfl rfl (Nat.le_of_ble_eq_true rfl) dX5_feed_33 (fun r8 h7 hw => ?_)
      exact zr_ret rfl rfl dX5_feed_36 hw
  · have hw := hw.2 q
    refine zr_aload_n dX5_feed_12 rfl rfl ?_
    refine zr_ldc zk_X5_40 dX5_feed_13 ?_
    refine zr_callVi zz_cX5 zz_M0 (ctX5_finds ((-1000001) : Int32) h0 _ hw) zy_X5_finds zm_X5_59 (by decide) rfl rfl (Nat.le_of_ble_eq_true rfl) dX5_feed_15 (fun r10 h9 hw => ?_)
    exact zr_ret rfl rfl dX5_feed_18 hw
def wX5_wipe (h0 : zz_H) (post : Int32 → zz_H → Prop) : Prop :=
  zz_sto h0 0 (upd (h0 0) 7 (0 : Int32)) (fun h1 => post (h0 0 7) h1)
set_option maxRecDepth 20000 in
set_option maxHeartbeats 4000000 in
theorem ctX5_wipe (h0 : zz_H) (post : Int32 → zz_H → Prop) (hw : wX5_wipe h0 post) : zz_Ct zz_M 0 yX5_wipe cX5_wipe 2 (some .int) [.ref 0] h0 post := by
  refine zz_ct (L := [.ref 0, .null]) (by decide +kernel) (Nat.le_of_ble_eq_true rfl) (fun ad q hq => hq) ?_
  show zz_Go zz_M 0 cX5_wipe RX5 2 (some .int) post 0 [] [.ref 0, .null] h0
  unfold wX5_wipe at hw
  refine zr_aload_n dX5_wipe_0 rfl rfl ?_
  refine zr_getI zz_cX5 zz_M0 7 (by decide) rfl zf_X5_177 dX5_wipe_1 ?_
  refine zr_istore_n [.ref 0, .int (h0 0 7)] dX5_wipe_4 rfl (by decide) rfl rfl ?_
  refine zr_aload_n dX5_wipe_5 rfl rfl ?_
  refine zr_iconst dX5_wipe_6 zqk_0 ?_
  refine zr_putI zz_cX5 zz_M0 7 (by decide) rfl rfl rfl rfl rfl zf_X5_177 dX5_wipe_7 hw (fun h1 hw => ?_)
  refine zr_iload_n dX5_wipe_10 rfl rfl ?_
  exact zr_ret rfl rfl dX5_wipe_11 hw
def wX5_byteAt (p1 : Int32) (h0 : zz_H) (post : Int32 → Prop) : Prop :=
  (((h0 0 7) ≤ p1) → (post ((-1) : Int32))) ∧ ((¬ (h0 0 7) ≤ p1) → (vp_in p1 120 ∧ (post (h0 6 p1.toNatClampNeg))))
set_option maxRecDepth 20000 in
set_option maxHeartbeats 4000000 in
theorem ctX5_byteAt (p1 : Int32) (h0 : zz_H) (post : Int32 → Prop) (hw : wX5_byteAt p1 h0 post) : zz_Ct zz_M 0 yX5_byteAt cX5_byteAt 2 (some .int) [.ref 0, .int p1] h0 (zz_pu h0 post) := by
  refine zz_ct (L := [.ref 0, .int p1]) (by decide +kernel) (Nat.le_of_ble_eq_true rfl) (fun ad q hq => hq) ?_
  show zz_Go zz_M 0 cX5_byteAt RX5 2 (some .int) (zz_pu h0 post) 0 [] [.ref 0, .int p1] h0
  unfold wX5_byteAt at hw
  refine zr_iload_n dX5_byteAt_0 rfl rfl ?_
  refine zr_aload_n dX5_byteAt_1 rfl rfl ?_
  refine zr_getI zz_cX5 zz_M0 7 (by decide) rfl zf_X5_177 dX5_byteAt_2 ?_
  refine zr_icmp_ge 17 dX5_byteAt_5 (by decide) (fun q => ?_) (fun q => ?_)
  · have hw := hw.1 q
    refine zr_iconst dX5_byteAt_17 zqk_m1 ?_
    exact zr_ret rfl rfl dX5_byteAt_18 ⟨rfl, hw⟩
  · have hw := hw.2 q
    refine zr_aload_n dX5_byteAt_8 rfl rfl ?_
    refine zr_getR zz_cX5 zz_M0 6 (by decide) rfl zf_X5_25 dX5_byteAt_9 ?_
    refine zr_iload_n dX5_byteAt_12 rfl rfl ?_
    obtain ⟨hi, hw⟩ := hw
    refine zr_iald zz_M6 hi rfl dX5_byteAt_13 ?_
    refine zr_goto 18 dX5_byteAt_14 (by decide) ?_
    exact zr_ret rfl rfl dX5_byteAt_18 ⟨rfl, hw⟩
def wX5_isLetter (p1 : Int32) (h0 : zz_H) (post : Int32 → Prop) : Prop :=
  wX5_in (p1.toInt64) (97 : Int64) (122 : Int64) h0 (fun r1 => zz_z r1 ∧ post r1)
set_option maxRecDepth 20000 in
set_option maxHeartbeats 4000000 in
theorem ctX5_isLetter (p1 : Int32) (h0 : zz_H) (post : Int32 → Prop) (hw : wX5_isLetter p1 h0 post) : zz_Ct zz_M 1 yX5_isLetter cX5_isLetter 1 (some .boolean) [.int p1] h0 (zz_pu h0 post) := by
  refine zz_ct (L := [.int p1]) (by decide +kernel) (Nat.le_of_ble_eq_true rfl) (fun ad q hq => hq) ?_
  show zz_Go zz_M 1 cX5_isLetter RX5 1 (some .boolean) (zz_pu h0 post) 0 [] [.int p1] h0
  unfold wX5_isLetter at hw
  refine zr_iload_n dX5_isLetter_0 rfl rfl ?_
  refine zr_i2l dX5_isLetter_1 ?_
  refine zr_ldc2 zl_X5_181 dX5_isLetter_2 ?_
  refine zr_ldc2 zl_X5_183 dX5_isLetter_5 ?_
  refine zr_pSi (ctX5_in (p1.toInt64) (97 : Int64) (122 : Int64) h0 _ hw) zy_X5_in zm_X5_43 (by decide) rfl rfl (Nat.le_of_ble_eq_true rfl) dX5_isLetter_8 (fun r1 hw => ?_)
  exact zr_ret rfl hw.1 dX5_isLetter_11 ⟨rfl, hw.2⟩
def wX5_isDigit (p1 : Int32) (h0 : zz_H) (post : Int32 → Prop) : Prop :=
  wX5_in (p1.toInt64) (48 : Int64) (57 : Int64) h0 (fun r1 => zz_z r1 ∧ post r1)
set_option maxRecDepth 20000 in
set_option maxHeartbeats 4000000 in
theorem ctX5_isDigit (p1 : Int32) (h0 : zz_H) (post : Int32 → Prop) (hw : wX5_isDigit p1 h0 post) : zz_Ct zz_M 1 yX5_isDigit cX5_isDigit 1 (some .boolean) [.int p1] h0 (zz_pu h0 post) := by
  refine zz_ct (L := [.int p1]) (by decide +kernel) (Nat.le_of_ble_eq_true rfl) (fun ad q hq => hq) ?_
  show zz_Go zz_M 1 cX5_isDigit RX5 1 (some .boolean) (zz_pu h0 post) 0 [] [.int p1] h0
  unfold wX5_isDigit at hw
  refine zr_iload_n dX5_isDigit_0 rfl rfl ?_
  refine zr_i2l dX5_isDigit_1 ?_
  refine zr_ldc2 zl_X5_185 dX5_isDigit_2 ?_
  refine zr_ldc2 zl_X5_187 dX5_isDigit_5 ?_
  refine zr_pSi (ctX5_in (p1.toInt64) (48 : Int64) (57 : Int64) h0 _ hw) zy_X5_in zm_X5_43 (by decide) rfl rfl (Nat.le_of_ble_eq_true rfl) dX5_isDigit_8 (fun r1 hw => ?_)
  exact zr_ret rfl hw.1 dX5_isDigit_11 ⟨rfl, hw.2⟩
def wX5_token_j104 (post : Int32 → zz_H → Prop) (r8 : Int32) (h11 : zz_H) (K12 : zz_H → Prop) : Prop :=
  ((r8 = 0) → (post 0 h11)) ∧ ((¬ r8 = 0) → (wX5_byteAt (h11 0 9) h11 (fun r13 => wX5_isDigit r13 h11 (fun r14 => ((r14 = 0) → (post 0 h11)) ∧ ((¬ r14 = 0) → (zz_sto h11 0 (upd (h11 0) 9 ((h11 0 9) + (1 : Int32))) (fun h15 => K12 h15)))))))
def wX5_token_b86 (post : Int32 → zz_H → Prop) (r6 : Int32) (r8 : Int32) (K12 : zz_H → Prop) (h11 : zz_H) : Prop :=
  ((r6 = 0) → (wX5_token_j104 post r8 h11 K12)) ∧ ((¬ r6 = 0) → (wX5_byteAt (h11 0 9) h11 (fun r16 => wX5_isLetter r16 h11 (fun r17 => ((¬ r17 = 0) → (zz_sto h11 0 (upd (h11 0) 9 ((h11 0 9) + (1 : Int32))) (fun h18 => K12 h18))) ∧ ((r17 = 0) → (wX5_token_j104 post r8 h11 K12))))))
def wX5_token_j83 (post : Int32 → zz_H → Prop) (h2 : zz_H) (r6 : Int32) (r8 : Int32) (y9 : Int32) : Prop :=
  zz_sto h2 0 (upd (h2 0) 9 y9) (fun h10 => ∃ t9, zz_lp (fun K (s : zz_H) => wX5_token_b86 post r6 r8 K s) t9 h10)
def wX5_token_j34 (post : Int32 → zz_H → Prop) (h2 : zz_H) : Prop :=
  wX5_byteAt (h2 0 8) h2 (fun r5 => wX5_isLetter r5 h2 (fun r6 => wX5_byteAt (h2 0 8) h2 (fun r7 => wX5_isDigit r7 h2 (fun r8 => (((h2 0 7) ≤ (h2 0 8)) → (wX5_token_j83 post h2 r6 r8 (h2 0 8))) ∧ ((¬ (h2 0 7) ≤ (h2 0 8)) → (wX5_token_j83 post h2 r6 r8 ((h2 0 8) + (1 : Int32))))))))
def wX5_token_b8 (post : Int32 → zz_H → Prop) (K3 : zz_H → Prop) (h2 : zz_H) : Prop :=
  wX5_byteAt (h2 0 8) h2 (fun r4 => ((¬ r4 = (32 : Int32)) → (wX5_token_j34 post h2)) ∧ ((r4 = (32 : Int32)) → (zz_sto h2 0 (upd (h2 0) 8 ((h2 0 8) + (1 : Int32))) (fun h19 => K3 h19))))
def wX5_token (h0 : zz_H) (post : Int32 → zz_H → Prop) : Prop :=
  zz_sto h0 0 (upd (h0 0) 8 (h0 0 9)) (fun h1 => ∃ t9, zz_lp (fun K (s : zz_H) => wX5_token_b8 post K s) t9 h1)
set_option maxRecDepth 20000 in
set_option maxHeartbeats 4000000 in
theorem ctX5_token (h0 : zz_H) (post : Int32 → zz_H → Prop) (hw : wX5_token h0 post) : zz_Ct zz_M 2 yX5_token cX5_token 3 none [.ref 0] h0 post := by
  refine zz_ct (L := [.ref 0, .null, .null]) (by decide +kernel) (Nat.le_of_ble_eq_true rfl) (fun ad q hq => hq) ?_
  show zz_Go zz_M 2 cX5_token RX5 3 none post 0 [] [.ref 0, .null, .null] h0
  unfold wX5_token at hw
  refine zr_aload_n dX5_token_0 rfl rfl ?_
  refine zr_aload_n dX5_token_1 rfl rfl ?_
  refine zr_getI zz_cX5 zz_M0 9 (by decide) rfl zf_X5_189 dX5_token_2 ?_
  refine zr_putI zz_cX5 zz_M0 8 (by decide) rfl rfl rfl rfl rfl zf_X5_192 dX5_token_5 hw (fun h1 hw => ?_)
  obtain ⟨t9, hw⟩ := hw
  have step8 : ∀ (K3 : zz_H → Prop), (∀ (h2 : zz_H), K3 h2 → zz_Go zz_M 2 cX5_token RX5 3 none post 8 [] [.ref 0, .null, .null] h2) → ∀ (h2 : zz_H), wX5_token_b8 post K3 h2 → zz_Go zz_M 2 cX5_token RX5 3 none post 8 [] [.ref 0, .null, .null] h2 := by
    intro K3 ih8 h2 hw
    unfold wX5_token_b8 at hw
    refine zr_aload_n dX5_token_8 rfl rfl ?_
    refine zr_aload_n dX5_token_9 rfl rfl ?_
    refine zr_getI zz_cX5 zz_M0 8 (by decide) rfl zf_X5_192 dX5_token_10 ?_
    refine zr_pVi zz_cX5 zz_M0 (ctX5_byteAt (h2 0 8) h2 _ hw) zy_X5_byteAt zm_X5_195 (by decide) rfl rfl (Nat.le_of_ble_eq_true rfl) dX5_token_13 (fun r4 hw => ?_)
    refine zr_bipush dX5_token_16 zbk_32 ?_
    have j34 : wX5_token_j34 post h2 → zz_Go zz_M 2 cX5_token RX5 3 none post 34 [] [.ref 0, .null, .null] h2 := by
      intro hw
      unfold wX5_token_j34 at hw
      refine zr_aload_n dX5_token_34 rfl rfl ?_
      refine zr_aload_n dX5_token_35 rfl rfl ?_
      refine zr_getI zz_cX5 zz_M0 8 (by decide) rfl zf_X5_192 dX5_token_36 ?_
      refine zr_pVi zz_cX5 zz_M0 (ctX5_byteAt (h2 0 8) h2 _ hw) zy_X5_byteAt zm_X5_195 (by decide) rfl rfl (Nat.le_of_ble_eq_true rfl) dX5_token_39 (fun r5 hw => ?_)
      refine zr_pSi (ctX5_isLetter r5 h2 _ hw) zy_X5_isLetter zm_X5_198 (by decide) rfl rfl (Nat.le_of_ble_eq_true rfl) dX5_token_42 (fun r6 hw => ?_)
      refine zr_istore_n [.ref 0, .int r6, .null] dX5_token_45 rfl (by decide) rfl rfl ?_
      refine zr_aload_n dX5_token_46 rfl rfl ?_
      refine zr_aload_n dX5_token_47 rfl rfl ?_
      refine zr_getI zz_cX5 zz_M0 8 (by decide) rfl zf_X5_192 dX5_token_48 ?_
      refine zr_pVi zz_cX5 zz_M0 (ctX5_byteAt (h2 0 8) h2 _ hw) zy_X5_byteAt zm_X5_195 (by decide) rfl rfl (Nat.le_of_ble_eq_true rfl) dX5_token_51 (fun r7 hw => ?_)
      refine zr_pSi (ctX5_isDigit r7 h2 _ hw) zy_X5_isDigit zm_X5_201 (by decide) rfl rfl (Nat.le_of_ble_eq_true rfl) dX5_token_54 (fun r8 hw => ?_)
      refine zr_istore_n [.ref 0, .int r6, .int r8] dX5_token_57 rfl (by decide) rfl rfl ?_
      refine zr_aload_n dX5_token_58 rfl rfl ?_
      refine zr_aload_n dX5_token_59 rfl rfl ?_
      refine zr_getI zz_cX5 zz_M0 8 (by decide) rfl zf_X5_192 dX5_token_60 ?_
      refine zr_aload_n dX5_token_63 rfl rfl ?_
      refine zr_getI zz_cX5 zz_M0 7 (by decide) rfl zf_X5_177 dX5_token_64 ?_
      have j83 : ∀ (y9 : Int32), wX5_token_j83 post h2 r6 r8 y9 → zz_Go zz_M 2 cX5_token RX5 3 none post 83 [.int y9, .ref 0] [.ref 0, .int r6, .int r8] h2 := by
        intro y9 hw
        unfold wX5_token_j83 at hw
        refine zr_putI zz_cX5 zz_M0 9 (by decide) rfl rfl rfl rfl rfl zf_X5_189 dX5_token_83 hw (fun h10 hw => ?_)
        obtain ⟨t9, hw⟩ := hw
        have step86 : ∀ (K12 : zz_H → Prop), (∀ (h11 : zz_H), K12 h11 → zz_Go zz_M 2 cX5_token RX5 3 none post 86 [] [.ref 0, .int r6, .int r8] h11) → ∀ (h11 : zz_H), wX5_token_b86 post r6 r8 K12 h11 → zz_Go zz_M 2 cX5_token RX5 3 none post 86 [] [.ref 0, .int r6, .int r8] h11 := by
          intro K12 ih86 h11 hw
          unfold wX5_token_b86 at hw
          refine zr_iload_n dX5_token_86 rfl rfl ?_
          have j104 : wX5_token_j104 post r8 h11 K12 → zz_Go zz_M 2 cX5_token RX5 3 none post 104 [] [.ref 0, .int r6, .int r8] h11 := by
            intro hw
            unfold wX5_token_j104 at hw
            refine zr_iload_n dX5_token_104 rfl rfl ?_
            refine zr_if_eq 135 dX5_token_105 (by decide) (fun q => ?_) (fun q => ?_)
            · have hw := hw.1 q
              exact zr_vret rfl dX5_token_135 hw
            · have hw := hw.2 q
              refine zr_aload_n dX5_token_108 rfl rfl ?_
              refine zr_aload_n dX5_token_109 rfl rfl ?_
              refine zr_getI zz_cX5 zz_M0 9 (by decide) rfl zf_X5_189 dX5_token_110 ?_
              refine zr_pVi zz_cX5 zz_M0 (ctX5_byteAt (h11 0 9) h11 _ hw) zy_X5_byteAt zm_X5_195 (by decide) rfl rfl (Nat.le_of_ble_eq_true rfl) dX5_token_113 (fun r13 hw => ?_)
              refine zr_pSi (ctX5_isDigit r13 h11 _ hw) zy_X5_isDigit zm_X5_201 (by decide) rfl rfl (Nat.le_of_ble_eq_true rfl) dX5_token_116 (fun r14 hw => ?_)
              refine zr_if_eq 135 dX5_token_119 (by decide) (fun q => ?_) (fun q => ?_)
              · have hw := hw.1 q
                exact zr_vret rfl dX5_token_135 hw
              · have hw := hw.2 q
                refine zr_aload_n dX5_token_122 rfl rfl ?_
                refine zr_dup dX5_token_123 rfl ?_
                refine zr_getI zz_cX5 zz_M0 9 (by decide) rfl zf_X5_189 dX5_token_124 ?_
                refine zr_iconst dX5_token_127 zqk_1 ?_
                refine zr_iadd dX5_token_128 ?_
                refine zr_putI zz_cX5 zz_M0 9 (by decide) rfl rfl rfl rfl rfl zf_X5_189 dX5_token_129 hw (fun h15 hw => ?_)
                refine zr_goto 86 dX5_token_132 (by decide) ?_
                exact ih86 _ hw
          refine zr_if_eq 104 dX5_token_87 (by decide) (fun q => ?_) (fun q => ?_)
          · have hw := hw.1 q
            exact j104 hw
          · have hw := hw.2 q
            refine zr_aload_n dX5_token_90 rfl rfl ?_
            refine zr_aload_n dX5_token_91 rfl rfl ?_
            refine zr_getI zz_cX5 zz_M0 9 (by decide) rfl zf_X5_189 dX5_token_92 ?_
            refine zr_pVi zz_cX5 zz_M0 (ctX5_byteAt (h11 0 9) h11 _ hw) zy_X5_byteAt zm_X5_195 (by decide) rfl rfl (Nat.le_of_ble_eq_true rfl) dX5_token_95 (fun r16 hw => ?_)
            refine zr_pSi (ctX5_isLetter r16 h11 _ hw) zy_X5_isLetter zm_X5_198 (by decide) rfl rfl (Nat.le_of_ble_eq_true rfl) dX5_token_98 (fun r17 hw => ?_)
            refine zr_if_ne 122 dX5_token_101 (by decide) (fun q => ?_) (fun q => ?_)
            · have hw := hw.1 q
              refine zr_aload_n dX5_token_122 rfl rfl ?_
              refine zr_dup dX5_token_123 rfl ?_
              refine zr_getI zz_cX5 zz_M0 9 (by decide) rfl zf_X5_189 dX5_token_124 ?_
              refine zr_iconst dX5_token_127 zqk_1 ?_
              refine zr_iadd dX5_token_128 ?_
              refine zr_putI zz_cX5 zz_M0 9 (by decide) rfl rfl rfl rfl rfl zf_X5_189 dX5_token_129 hw (fun h18 hw => ?_)
              refine zr_goto 86 dX5_token_132 (by decide) ?_
              exact ih86 _ hw
            · have hw := hw.2 q
              exact j104 hw
        have key86 : ∀ (t9 : Nat) (h11 : zz_H), zz_lp (fun K (s : zz_H) => wX5_token_b86 post r6 r8 K s) t9 h11 → zz_Go zz_M 2 cX5_token RX5 3 none post 86 [] [.ref 0, .int r6, .int r8] h11 := by
          intro t9
          induction t9 with
          | zero => intro h11 hw; exact hw.elim
          | succ t9 ih => intro h11 hw; exact step86 _ ih _ hw
        exact key86 t9 _ hw
      refine zr_icmp_ge 79 dX5_token_67 (by decide) (fun q => ?_) (fun q => ?_)
      · have hw := hw.1 q
        refine zr_aload_n dX5_token_79 rfl rfl ?_
        refine zr_getI zz_cX5 zz_M0 8 (by decide) rfl zf_X5_192 dX5_token_80 ?_
        exact j83 _ hw
      · have hw := hw.2 q
        refine zr_aload_n dX5_token_70 rfl rfl ?_
        refine zr_getI zz_cX5 zz_M0 8 (by decide) rfl zf_X5_192 dX5_token_71 ?_
        refine zr_iconst dX5_token_74 zqk_1 ?_
        refine zr_iadd dX5_token_75 ?_
        refine zr_goto 83 dX5_token_76 (by decide) ?_
        exact j83 _ hw
    refine zr_icmp_ne 34 dX5_token_18 (by decide) (fun q => ?_) (fun q => ?_)
    · have hw := hw.1 q
      exact j34 hw
    · have hw := hw.2 q
      refine zr_aload_n dX5_token_21 rfl rfl ?_
      refine zr_dup dX5_token_22 rfl ?_
      refine zr_getI zz_cX5 zz_M0 8 (by decide) rfl zf_X5_192 dX5_token_23 ?_
      refine zr_iconst dX5_token_26 zqk_1 ?_
      refine zr_iadd dX5_token_27 ?_
      refine zr_putI zz_cX5 zz_M0 8 (by decide) rfl rfl rfl rfl rfl zf_X5_192 dX5_token_28 hw (fun h19 hw => ?_)
      refine zr_goto 8 dX5_token_31 (by decide) ?_
      exact ih8 _ hw
  have key8 : ∀ (t9 : Nat) (h2 : zz_H), zz_lp (fun K (s : zz_H) => wX5_token_b8 post K s) t9 h2 → zz_Go zz_M 2 cX5_token RX5 3 none post 8 [] [.ref 0, .null, .null] h2 := by
    intro t9
    induction t9 with
    | zero => intro h2 hw; exact hw.elim
    | succ t9 ih => intro h2 hw; exact step8 _ ih _ hw
  exact key8 t9 _ hw
def wX5_needs_j12 (h0 : zz_H) (post : Int32 → zz_H → Prop) : Prop :=
  zz_sto h0 0 (upd (h0 0) 11 (1 : Int32)) (fun h1 => ((¬ (h1 0 11) = 0) → (post 0 h1)) ∧ (((h1 0 11) = 0) → (wX5_token h1 (fun _ h2 => post 0 h2))))
def wX5_needs (p1 : Int32) (h0 : zz_H) (post : Int32 → zz_H → Prop) : Prop :=
  ((¬ (h0 0 11) = 0) → (wX5_needs_j12 h0 post)) ∧ (((h0 0 11) = 0) → (((¬ p1 = 0) → (zz_sto h0 0 (upd (h0 0) 11 (0 : Int32)) (fun h3 => ((¬ (h3 0 11) = 0) → (post 0 h3)) ∧ (((h3 0 11) = 0) → (wX5_token h3 (fun _ h4 => post 0 h4)))))) ∧ ((p1 = 0) → (wX5_needs_j12 h0 post))))
set_option maxRecDepth 20000 in
set_option maxHeartbeats 4000000 in
theorem ctX5_needs (p1 : Int32) (h0 : zz_H) (post : Int32 → zz_H → Prop) (hw : wX5_needs p1 h0 post) : zz_Ct zz_M 3 yX5_needs cX5_needs 2 none [.ref 0, .int p1] h0 post := by
  refine zz_ct (L := [.ref 0, .int p1]) (by decide +kernel) (Nat.le_of_ble_eq_true rfl) (fun ad q hq => hq) ?_
  show zz_Go zz_M 3 cX5_needs RX5 2 none post 0 [] [.ref 0, .int p1] h0
  unfold wX5_needs at hw
  refine zr_aload_n dX5_needs_0 rfl rfl ?_
  refine zr_aload_n dX5_needs_1 rfl rfl ?_
  refine zr_getI zz_cX5 zz_M0 11 (by decide) rfl zf_X5_204 dX5_needs_2 ?_
  have j12 : wX5_needs_j12 h0 post → zz_Go zz_M 3 cX5_needs RX5 2 none post 12 [.ref 0] [.ref 0, .null] h0 := by
    intro hw
    unfold wX5_needs_j12 at hw
    refine zr_iconst dX5_needs_12 zqk_1 ?_
    refine zr_goto 17 dX5_needs_13 (by decide) ?_
    refine zr_putI zz_cX5 zz_M0 11 (by decide) rfl rfl rfl rfl rfl zf_X5_204 dX5_needs_17 hw (fun h1 hw => ?_)
    refine zr_aload_n dX5_needs_20 rfl rfl ?_
    refine zr_getI zz_cX5 zz_M0 11 (by decide) rfl zf_X5_204 dX5_needs_21 ?_
    refine zr_if_ne 31 dX5_needs_24 (by decide) (fun q => ?_) (fun q => ?_)
    · have hw := hw.1 q
      exact zr_vret rfl dX5_needs_31 hw
    · have hw := hw.2 q
      refine zr_aload_n dX5_needs_27 rfl rfl ?_
      refine zr_callVv zz_cX5 zz_M0 (ctX5_token h1 _ hw) zy_X5_token zm_X5_208 (by decide) rfl rfl (Nat.le_of_ble_eq_true rfl) dX5_needs_28 (fun h2 hw => ?_)
      exact zr_vret rfl dX5_needs_31 hw
  refine zr_if_ne 12 dX5_needs_5 (by decide) (fun q => ?_) (fun q => ?_)
  · have hw := hw.1 q
    refine zr_sub [.ref 0, .null] ⟨Or.inr rfl, ⟨Or.inl rfl, trivial⟩⟩ ?_
    exact j12 hw
  · have hw := hw.2 q
    refine zr_iload_n dX5_needs_8 rfl rfl ?_
    refine zr_if_ne 16 dX5_needs_9 (by decide) (fun q => ?_) (fun q => ?_)
    · have hw := hw.1 q
      refine zr_iconst dX5_needs_16 zqk_0 ?_
      refine zr_putI zz_cX5 zz_M0 11 (by decide) rfl rfl rfl rfl rfl zf_X5_204 dX5_needs_17 hw (fun h3 hw => ?_)
      refine zr_aload_n dX5_needs_20 rfl rfl ?_
      refine zr_getI zz_cX5 zz_M0 11 (by decide) rfl zf_X5_204 dX5_needs_21 ?_
      refine zr_if_ne 31 dX5_needs_24 (by decide) (fun q => ?_) (fun q => ?_)
      · have hw := hw.1 q
        exact zr_vret rfl dX5_needs_31 hw
      · have hw := hw.2 q
        refine zr_aload_n dX5_needs_27 rfl rfl ?_
        refine zr_callVv zz_cX5 zz_M0 (ctX5_token h3 _ hw) zy_X5_token zm_X5_208 (by decide) rfl rfl (Nat.le_of_ble_eq_true rfl) dX5_needs_28 (fun h4 hw => ?_)
        exact zr_vret rfl dX5_needs_31 hw
    · have hw := hw.2 q
      refine zr_sub [.ref 0, .null] ⟨Or.inr rfl, ⟨Or.inl rfl, trivial⟩⟩ ?_
      exact j12 hw
def wX5_isLetterAt (p1 : Int32) (p2 : Int32) (h0 : zz_H) (post : Int32 → Prop) : Prop :=
  ((p2 = 0) → (post (1 : Int32))) ∧ ((¬ p2 = 0) → (wX5_byteAt ((h0 0 8) + p1) h0 (fun r1 => ((¬ r1 = p2) → (post (0 : Int32))) ∧ ((r1 = p2) → (post (1 : Int32))))))
set_option maxRecDepth 20000 in
set_option maxHeartbeats 4000000 in
theorem ctX5_isLetterAt (p1 : Int32) (p2 : Int32) (h0 : zz_H) (post : Int32 → Prop) (hw : wX5_isLetterAt p1 p2 h0 post) : zz_Ct zz_M 1 yX5_isLetterAt cX5_isLetterAt 3 (some .boolean) [.ref 0, .int p1, .int p2] h0 (zz_pu h0 post) := by
  refine zz_ct (L := [.ref 0, .int p1, .int p2]) (by decide +kernel) (Nat.le_of_ble_eq_true rfl) (fun ad q hq => hq) ?_
  show zz_Go zz_M 1 cX5_isLetterAt RX5 3 (some .boolean) (zz_pu h0 post) 0 [] [.ref 0, .int p1, .int p2] h0
  unfold wX5_isLetterAt at hw
  refine zr_iload_n dX5_isLetterAt_0 rfl rfl ?_
  refine zr_if_eq 18 dX5_isLetterAt_1 (by decide) (fun q => ?_) (fun q => ?_)
  · have hw := hw.1 q
    refine zr_iconst dX5_isLetterAt_18 zqk_1 ?_
    refine zr_goto 23 dX5_isLetterAt_19 (by decide) ?_
    exact zr_ret rfl rfl dX5_isLetterAt_23 ⟨rfl, hw⟩
  · have hw := hw.2 q
    refine zr_aload_n dX5_isLetterAt_4 rfl rfl ?_
    refine zr_aload_n dX5_isLetterAt_5 rfl rfl ?_
    refine zr_getI zz_cX5 zz_M0 8 (by decide) rfl zf_X5_192 dX5_isLetterAt_6 ?_
    refine zr_iload_n dX5_isLetterAt_9 rfl rfl ?_
    refine zr_iadd dX5_isLetterAt_10 ?_
    refine zr_pVi zz_cX5 zz_M0 (ctX5_byteAt ((h0 0 8) + p1) h0 _ hw) zy_X5_byteAt zm_X5_195 (by decide) rfl rfl (Nat.le_of_ble_eq_true rfl) dX5_isLetterAt_11 (fun r1 hw => ?_)
    refine zr_iload_n dX5_isLetterAt_14 rfl rfl ?_
    refine zr_icmp_ne 22 dX5_isLetterAt_15 (by decide) (fun q => ?_) (fun q => ?_)
    · have hw := hw.1 q
      refine zr_iconst dX5_isLetterAt_22 zqk_0 ?_
      exact zr_ret rfl rfl dX5_isLetterAt_23 ⟨rfl, hw⟩
    · have hw := hw.2 q
      refine zr_iconst dX5_isLetterAt_18 zqk_1 ?_
      refine zr_goto 23 dX5_isLetterAt_19 (by decide) ?_
      exact zr_ret rfl rfl dX5_isLetterAt_23 ⟨rfl, hw⟩
def wX5_isWord_j146 (p6 : Int32) (p7 : Int32) (p8 : Int32) (p9 : Int32) (h0 : zz_H) (post : Int32 → Prop) (y3 : Int32) : Prop :=
  ((y3 = 0) → (post (0 : Int32))) ∧ ((¬ y3 = 0) → (wX5_isLetterAt (5 : Int32) p6 h0 (fun r4 => ((r4 = 0) → (post (0 : Int32))) ∧ ((¬ r4 = 0) → (wX5_isLetterAt (6 : Int32) p7 h0 (fun r5 => ((r5 = 0) → (post (0 : Int32))) ∧ ((¬ r5 = 0) → (wX5_isLetterAt (7 : Int32) p8 h0 (fun r6 => ((r6 = 0) → (post (0 : Int32))) ∧ ((¬ r6 = 0) → (wX5_isLetterAt (8 : Int32) p9 h0 (fun r7 => ((r7 = 0) → (post (0 : Int32))) ∧ ((¬ r7 = 0) → (post (1 : Int32)))))))))))))))
def wX5_isWord_j145 (p6 : Int32) (p7 : Int32) (p8 : Int32) (p9 : Int32) (h0 : zz_H) (post : Int32 → Prop) : Prop :=
  wX5_isWord_j146 p6 p7 p8 p9 h0 post (0 : Int32)
def wX5_isWord_j71 (p1 : Int32) (p2 : Int32) (p3 : Int32) (p4 : Int32) (p5 : Int32) (p6 : Int32) (p7 : Int32) (p8 : Int32) (p9 : Int32) (h0 : zz_H) (post : Int32 → Prop) (y2 : Int32) : Prop :=
  ((¬ (h0 0 11) = 0) → (wX5_isWord_j145 p6 p7 p8 p9 h0 post)) ∧ (((h0 0 11) = 0) → (((¬ ((h0 0 9) - (h0 0 8)) = y2) → (wX5_isWord_j145 p6 p7 p8 p9 h0 post)) ∧ ((((h0 0 9) - (h0 0 8)) = y2) → (wX5_isLetterAt (0 : Int32) p1 h0 (fun r8 => ((r8 = 0) → (wX5_isWord_j145 p6 p7 p8 p9 h0 post)) ∧ ((¬ r8 = 0) → (wX5_isLetterAt (1 : Int32) p2 h0 (fun r9 => ((r9 = 0) → (wX5_isWord_j145 p6 p7 p8 p9 h0 post)) ∧ ((¬ r9 = 0) → (wX5_isLetterAt (2 : Int32) p3 h0 (fun r10 => ((r10 = 0) → (wX5_isWord_j145 p6 p7 p8 p9 h0 post)) ∧ ((¬ r10 = 0) → (wX5_isLetterAt (3 : Int32) p4 h0 (fun r11 => ((r11 = 0) → (wX5_isWord_j145 p6 p7 p8 p9 h0 post)) ∧ ((¬ r11 = 0) → (wX5_isLetterAt (4 : Int32) p5 h0 (fun r12 => ((r12 = 0) → (wX5_isWord_j145 p6 p7 p8 p9 h0 post)) ∧ ((¬ r12 = 0) → (wX5_isWord_j146 p6 p7 p8 p9 h0 post (1 : Int32))))))))))))))))))))
def wX5_isWord_j59 (p1 : Int32) (p2 : Int32) (p3 : Int32) (p4 : Int32) (p5 : Int32) (p6 : Int32) (p7 : Int32) (p8 : Int32) (p9 : Int32) (h0 : zz_H) (post : Int32 → Prop) (y1 : Int32) : Prop :=
  ((¬ p3 = 0) → (wX5_isWord_j71 p1 p2 p3 p4 p5 p6 p7 p8 p9 h0 post y1)) ∧ ((p3 = 0) → (wX5_isWord_j71 p1 p2 p3 p4 p5 p6 p7 p8 p9 h0 post (2 : Int32)))
def wX5_isWord (p1 : Int32) (p2 : Int32) (p3 : Int32) (p4 : Int32) (p5 : Int32) (p6 : Int32) (p7 : Int32) (p8 : Int32) (p9 : Int32) (h0 : zz_H) (post : Int32 → Prop) : Prop :=
  ((¬ p4 = 0) → (((¬ p5 = 0) → (((¬ p6 = 0) → (((¬ p7 = 0) → (((¬ p8 = 0) → (((¬ p9 = 0) → (wX5_isWord_j59 p1 p2 p3 p4 p5 p6 p7 p8 p9 h0 post (9 : Int32))) ∧ ((p9 = 0) → (wX5_isWord_j59 p1 p2 p3 p4 p5 p6 p7 p8 p9 h0 post (8 : Int32))))) ∧ ((p8 = 0) → (wX5_isWord_j59 p1 p2 p3 p4 p5 p6 p7 p8 p9 h0 post (7 : Int32))))) ∧ ((p7 = 0) → (wX5_isWord_j59 p1 p2 p3 p4 p5 p6 p7 p8 p9 h0 post (6 : Int32))))) ∧ ((p6 = 0) → (wX5_isWord_j59 p1 p2 p3 p4 p5 p6 p7 p8 p9 h0 post (5 : Int32))))) ∧ ((p5 = 0) → (wX5_isWord_j59 p1 p2 p3 p4 p5 p6 p7 p8 p9 h0 post (4 : Int32))))) ∧ ((p4 = 0) → (wX5_isWord_j59 p1 p2 p3 p4 p5 p6 p7 p8 p9 h0 post (3 : Int32)))
set_option maxRecDepth 20000 in
set_option maxHeartbeats 4000000 in
theorem ctX5_isWord (p1 : Int32) (p2 : Int32) (p3 : Int32) (p4 : Int32) (p5 : Int32) (p6 : Int32) (p7 : Int32) (p8 : Int32) (p9 : Int32) (h0 : zz_H) (post : Int32 → Prop) (hw : wX5_isWord p1 p2 p3 p4 p5 p6 p7 p8 p9 h0 post) : zz_Ct zz_M 2 yX5_isWord cX5_isWord 12 (some .boolean) [.ref 0, .int p1, .int p2, .int p3, .int p4, .int p5, .int p6, .int p7, .int p8, .int p9] h0 (zz_pu h0 post) := by
  refine zz_ct (L := [.ref 0, .int p1, .int p2, .int p3, .int p4, .int p5, .int p6, .int p7, .int p8, .int p9, .null, .null]) (by decide +kernel) (Nat.le_of_ble_eq_true rfl) (fun ad q hq => hq) ?_
  show zz_Go zz_M 2 cX5_isWord RX5 12 (some .boolean) (zz_pu h0 post) 0 [] [.ref 0, .int p1, .int p2, .int p3, .int p4, .int p5, .int p6, .int p7, .int p8, .int p9, .null, .null] h0
  unfold wX5_isWord at hw
  refine zr_iload dX5_isWord_0 rfl ?_
  have j59 : ∀ (y1 : Int32), wX5_isWord_j59 p1 p2 p3 p4 p5 p6 p7 p8 p9 h0 post y1 → zz_Go zz_M 2 cX5_isWord RX5 12 (some .boolean) (zz_pu h0 post) 59 [.int y1] [.ref 0, .int p1, .int p2, .int p3, .int p4, .int p5, .int p6, .int p7, .int p8, .int p9, .null, .null] h0 := by
    intro y1 hw
    unfold wX5_isWord_j59 at hw
    refine zr_istore [.ref 0, .int p1, .int p2, .int p3, .int p4, .int p5, .int p6, .int p7, .int p8, .int p9, .int y1, .null] dX5_isWord_59 (by decide) rfl rfl ?_
    refine zr_iload_n dX5_isWord_61 rfl rfl ?_
    have j71 : ∀ (y2 : Int32), wX5_isWord_j71 p1 p2 p3 p4 p5 p6 p7 p8 p9 h0 post y2 → zz_Go zz_M 2 cX5_isWord RX5 12 (some .boolean) (zz_pu h0 post) 71 [.int y2] [.ref 0, .int p1, .int p2, .int p3, .int p4, .int p5, .int p6, .int p7, .int p8, .int p9, .null, .null] h0 := by
      intro y2 hw
      unfold wX5_isWord_j71 at hw
      refine zr_istore [.ref 0, .int p1, .int p2, .int p3, .int p4, .int p5, .int p6, .int p7, .int p8, .int p9, .int y2, .null] dX5_isWord_71 (by decide) rfl rfl ?_
      refine zr_aload_n dX5_isWord_73 rfl rfl ?_
      refine zr_getI zz_cX5 zz_M0 11 (by decide) rfl zf_X5_204 dX5_isWord_74 ?_
      have j146 : ∀ (y3 : Int32), wX5_isWord_j146 p6 p7 p8 p9 h0 post y3 → zz_Go zz_M 2 cX5_isWord RX5 12 (some .boolean) (zz_pu h0 post) 146 [.int y3] [.ref 0, .null, .null, .null, .null, .null, .int p6, .int p7, .int p8, .int p9, .null, .null] h0 := by
        intro y3 hw
        unfold wX5_isWord_j146 at hw
        refine zr_istore [.ref 0, .null, .null, .null, .null, .null, .int p6, .int p7, .int p8, .int p9, .null, .int y3] dX5_isWord_146 (by decide) rfl rfl ?_
        refine zr_iload dX5_isWord_148 rfl ?_
        refine zr_if_eq 200 dX5_isWord_150 (by decide) (fun q => ?_) (fun q => ?_)
        · have hw := hw.1 q
          refine zr_iconst dX5_isWord_200 zqk_0 ?_
          exact zr_ret rfl rfl dX5_isWord_201 ⟨rfl, hw⟩
        · have hw := hw.2 q
          refine zr_aload_n dX5_isWord_153 rfl rfl ?_
          refine zr_iconst dX5_isWord_154 zqk_5 ?_
          refine zr_iload dX5_isWord_155 rfl ?_
          refine zr_pVi zz_cX5 zz_M0 (ctX5_isLetterAt (5 : Int32) p6 h0 _ hw) zy_X5_isLetterAt zm_X5_211 (by decide) rfl rfl (Nat.le_of_ble_eq_true rfl) dX5_isWord_157 (fun r4 hw => ?_)
          refine zr_if_eq 200 dX5_isWord_160 (by decide) (fun q => ?_) (fun q => ?_)
          · have hw := hw.1 q
            refine zr_iconst dX5_isWord_200 zqk_0 ?_
            exact zr_ret rfl rfl dX5_isWord_201 ⟨rfl, hw⟩
          · have hw := hw.2 q
            refine zr_aload_n dX5_isWord_163 rfl rfl ?_
            refine zr_bipush dX5_isWord_164 zbk_6 ?_
            refine zr_iload dX5_isWord_166 rfl ?_
            refine zr_pVi zz_cX5 zz_M0 (ctX5_isLetterAt (6 : Int32) p7 h0 _ hw) zy_X5_isLetterAt zm_X5_211 (by decide) rfl rfl (Nat.le_of_ble_eq_true rfl) dX5_isWord_168 (fun r5 hw => ?_)
            refine zr_if_eq 200 dX5_isWord_171 (by decide) (fun q => ?_) (fun q => ?_)
            · have hw := hw.1 q
              refine zr_iconst dX5_isWord_200 zqk_0 ?_
              exact zr_ret rfl rfl dX5_isWord_201 ⟨rfl, hw⟩
            · have hw := hw.2 q
              refine zr_aload_n dX5_isWord_174 rfl rfl ?_
              refine zr_bipush dX5_isWord_175 zbk_7 ?_
              refine zr_iload dX5_isWord_177 rfl ?_
              refine zr_pVi zz_cX5 zz_M0 (ctX5_isLetterAt (7 : Int32) p8 h0 _ hw) zy_X5_isLetterAt zm_X5_211 (by decide) rfl rfl (Nat.le_of_ble_eq_true rfl) dX5_isWord_179 (fun r6 hw => ?_)
              refine zr_if_eq 200 dX5_isWord_182 (by decide) (fun q => ?_) (fun q => ?_)
              · have hw := hw.1 q
                refine zr_iconst dX5_isWord_200 zqk_0 ?_
                exact zr_ret rfl rfl dX5_isWord_201 ⟨rfl, hw⟩
              · have hw := hw.2 q
                refine zr_aload_n dX5_isWord_185 rfl rfl ?_
                refine zr_bipush dX5_isWord_186 zbk_8 ?_
                refine zr_iload dX5_isWord_188 rfl ?_
                refine zr_pVi zz_cX5 zz_M0 (ctX5_isLetterAt (8 : Int32) p9 h0 _ hw) zy_X5_isLetterAt zm_X5_211 (by decide) rfl rfl (Nat.le_of_ble_eq_true rfl) dX5_isWord_190 (fun r7 hw => ?_)
                refine zr_if_eq 200 dX5_isWord_193 (by decide) (fun q => ?_) (fun q => ?_)
                · have hw := hw.1 q
                  refine zr_iconst dX5_isWord_200 zqk_0 ?_
                  exact zr_ret rfl rfl dX5_isWord_201 ⟨rfl, hw⟩
                · have hw := hw.2 q
                  refine zr_iconst dX5_isWord_196 zqk_1 ?_
                  refine zr_goto 201 dX5_isWord_197 (by decide) ?_
                  exact zr_ret rfl rfl dX5_isWord_201 ⟨rfl, hw⟩
      have j145 : wX5_isWord_j145 p6 p7 p8 p9 h0 post → zz_Go zz_M 2 cX5_isWord RX5 12 (some .boolean) (zz_pu h0 post) 145 [] [.ref 0, .null, .null, .null, .null, .null, .int p6, .int p7, .int p8, .int p9, .null, .null] h0 := by
        intro hw
        unfold wX5_isWord_j145 at hw
        refine zr_iconst dX5_isWord_145 zqk_0 ?_
        exact j146 _ hw
      refine zr_if_ne 145 dX5_isWord_77 (by decide) (fun q => ?_) (fun q => ?_)
      · have hw := hw.1 q
        refine zr_sub [.ref 0, .null, .null, .null, .null, .null, .int p6, .int p7, .int p8, .int p9, .null, .null] ⟨Or.inr rfl, ⟨Or.inl rfl, ⟨Or.inl rfl, ⟨Or.inl rfl, ⟨Or.inl rfl, ⟨Or.inl rfl, ⟨Or.inr rfl, ⟨Or.inr rfl, ⟨Or.inr rfl, ⟨Or.inr rfl, ⟨Or.inl rfl, ⟨Or.inl rfl, trivial⟩⟩⟩⟩⟩⟩⟩⟩⟩⟩⟩⟩ ?_
        exact j145 hw
      · have hw := hw.2 q
        refine zr_aload_n dX5_isWord_80 rfl rfl ?_
        refine zr_getI zz_cX5 zz_M0 9 (by decide) rfl zf_X5_189 dX5_isWord_81 ?_
        refine zr_aload_n dX5_isWord_84 rfl rfl ?_
        refine zr_getI zz_cX5 zz_M0 8 (by decide) rfl zf_X5_192 dX5_isWord_85 ?_
        refine zr_isub dX5_isWord_88 ?_
        refine zr_iload dX5_isWord_89 rfl ?_
        refine zr_icmp_ne 145 dX5_isWord_91 (by decide) (fun q => ?_) (fun q => ?_)
        · have hw := hw.1 q
          refine zr_sub [.ref 0, .null, .null, .null, .null, .null, .int p6, .int p7, .int p8, .int p9, .null, .null] ⟨Or.inr rfl, ⟨Or.inl rfl, ⟨Or.inl rfl, ⟨Or.inl rfl, ⟨Or.inl rfl, ⟨Or.inl rfl, ⟨Or.inr rfl, ⟨Or.inr rfl, ⟨Or.inr rfl, ⟨Or.inr rfl, ⟨Or.inl rfl, ⟨Or.inl rfl, trivial⟩⟩⟩⟩⟩⟩⟩⟩⟩⟩⟩⟩ ?_
          exact j145 hw
        · have hw := hw.2 q
          refine zr_aload_n dX5_isWord_94 rfl rfl ?_
          refine zr_iconst dX5_isWord_95 zqk_0 ?_
          refine zr_iload_n dX5_isWord_96 rfl rfl ?_
          refine zr_pVi zz_cX5 zz_M0 (ctX5_isLetterAt (0 : Int32) p1 h0 _ hw) zy_X5_isLetterAt zm_X5_211 (by decide) rfl rfl (Nat.le_of_ble_eq_true rfl) dX5_isWord_97 (fun r8 hw => ?_)
          refine zr_if_eq 145 dX5_isWord_100 (by decide) (fun q => ?_) (fun q => ?_)
          · have hw := hw.1 q
            refine zr_sub [.ref 0, .null, .null, .null, .null, .null, .int p6, .int p7, .int p8, .int p9, .null, .null] ⟨Or.inr rfl, ⟨Or.inl rfl, ⟨Or.inl rfl, ⟨Or.inl rfl, ⟨Or.inl rfl, ⟨Or.inl rfl, ⟨Or.inr rfl, ⟨Or.inr rfl, ⟨Or.inr rfl, ⟨Or.inr rfl, ⟨Or.inl rfl, ⟨Or.inl rfl, trivial⟩⟩⟩⟩⟩⟩⟩⟩⟩⟩⟩⟩ ?_
            exact j145 hw
          · have hw := hw.2 q
            refine zr_aload_n dX5_isWord_103 rfl rfl ?_
            refine zr_iconst dX5_isWord_104 zqk_1 ?_
            refine zr_iload_n dX5_isWord_105 rfl rfl ?_
            refine zr_pVi zz_cX5 zz_M0 (ctX5_isLetterAt (1 : Int32) p2 h0 _ hw) zy_X5_isLetterAt zm_X5_211 (by decide) rfl rfl (Nat.le_of_ble_eq_true rfl) dX5_isWord_106 (fun r9 hw => ?_)
            refine zr_if_eq 145 dX5_isWord_109 (by decide) (fun q => ?_) (fun q => ?_)
            · have hw := hw.1 q
              refine zr_sub [.ref 0, .null, .null, .null, .null, .null, .int p6, .int p7, .int p8, .int p9, .null, .null] ⟨Or.inr rfl, ⟨Or.inl rfl, ⟨Or.inl rfl, ⟨Or.inl rfl, ⟨Or.inl rfl, ⟨Or.inl rfl, ⟨Or.inr rfl, ⟨Or.inr rfl, ⟨Or.inr rfl, ⟨Or.inr rfl, ⟨Or.inl rfl, ⟨Or.inl rfl, trivial⟩⟩⟩⟩⟩⟩⟩⟩⟩⟩⟩⟩ ?_
              exact j145 hw
            · have hw := hw.2 q
              refine zr_aload_n dX5_isWord_112 rfl rfl ?_
              refine zr_iconst dX5_isWord_113 zqk_2 ?_
              refine zr_iload_n dX5_isWord_114 rfl rfl ?_
              refine zr_pVi zz_cX5 zz_M0 (ctX5_isLetterAt (2 : Int32) p3 h0 _ hw) zy_X5_isLetterAt zm_X5_211 (by decide) rfl rfl (Nat.le_of_ble_eq_true rfl) dX5_isWord_115 (fun r10 hw => ?_)
              refine zr_if_eq 145 dX5_isWord_118 (by decide) (fun q => ?_) (fun q => ?_)
              · have hw := hw.1 q
                refine zr_sub [.ref 0, .null, .null, .null, .null, .null, .int p6, .int p7, .int p8, .int p9, .null, .null] ⟨Or.inr rfl, ⟨Or.inl rfl, ⟨Or.inl rfl, ⟨Or.inl rfl, ⟨Or.inl rfl, ⟨Or.inl rfl, ⟨Or.inr rfl, ⟨Or.inr rfl, ⟨Or.inr rfl, ⟨Or.inr rfl, ⟨Or.inl rfl, ⟨Or.inl rfl, trivial⟩⟩⟩⟩⟩⟩⟩⟩⟩⟩⟩⟩ ?_
                exact j145 hw
              · have hw := hw.2 q
                refine zr_aload_n dX5_isWord_121 rfl rfl ?_
                refine zr_iconst dX5_isWord_122 zqk_3 ?_
                refine zr_iload dX5_isWord_123 rfl ?_
                refine zr_pVi zz_cX5 zz_M0 (ctX5_isLetterAt (3 : Int32) p4 h0 _ hw) zy_X5_isLetterAt zm_X5_211 (by decide) rfl rfl (Nat.le_of_ble_eq_true rfl) dX5_isWord_125 (fun r11 hw => ?_)
                refine zr_if_eq 145 dX5_isWord_128 (by decide) (fun q => ?_) (fun q => ?_)
                · have hw := hw.1 q
                  refine zr_sub [.ref 0, .null, .null, .null, .null, .null, .int p6, .int p7, .int p8, .int p9, .null, .null] ⟨Or.inr rfl, ⟨Or.inl rfl, ⟨Or.inl rfl, ⟨Or.inl rfl, ⟨Or.inl rfl, ⟨Or.inl rfl, ⟨Or.inr rfl, ⟨Or.inr rfl, ⟨Or.inr rfl, ⟨Or.inr rfl, ⟨Or.inl rfl, ⟨Or.inl rfl, trivial⟩⟩⟩⟩⟩⟩⟩⟩⟩⟩⟩⟩ ?_
                  exact j145 hw
                · have hw := hw.2 q
                  refine zr_aload_n dX5_isWord_131 rfl rfl ?_
                  refine zr_iconst dX5_isWord_132 zqk_4 ?_
                  refine zr_iload dX5_isWord_133 rfl ?_
                  refine zr_pVi zz_cX5 zz_M0 (ctX5_isLetterAt (4 : Int32) p5 h0 _ hw) zy_X5_isLetterAt zm_X5_211 (by decide) rfl rfl (Nat.le_of_ble_eq_true rfl) dX5_isWord_135 (fun r12 hw => ?_)
                  refine zr_if_eq 145 dX5_isWord_138 (by decide) (fun q => ?_) (fun q => ?_)
                  · have hw := hw.1 q
                    refine zr_sub [.ref 0, .null, .null, .null, .null, .null, .int p6, .int p7, .int p8, .int p9, .null, .null] ⟨Or.inr rfl, ⟨Or.inl rfl, ⟨Or.inl rfl, ⟨Or.inl rfl, ⟨Or.inl rfl, ⟨Or.inl rfl, ⟨Or.inr rfl, ⟨Or.inr rfl, ⟨Or.inr rfl, ⟨Or.inr rfl, ⟨Or.inl rfl, ⟨Or.inl rfl, trivial⟩⟩⟩⟩⟩⟩⟩⟩⟩⟩⟩⟩ ?_
                    exact j145 hw
                  · have hw := hw.2 q
                    refine zr_iconst dX5_isWord_141 zqk_1 ?_
                    refine zr_goto 146 dX5_isWord_142 (by decide) ?_
                    refine zr_sub [.ref 0, .null, .null, .null, .null, .null, .int p6, .int p7, .int p8, .int p9, .null, .null] ⟨Or.inr rfl, ⟨Or.inl rfl, ⟨Or.inl rfl, ⟨Or.inl rfl, ⟨Or.inl rfl, ⟨Or.inl rfl, ⟨Or.inr rfl, ⟨Or.inr rfl, ⟨Or.inr rfl, ⟨Or.inr rfl, ⟨Or.inl rfl, ⟨Or.inl rfl, trivial⟩⟩⟩⟩⟩⟩⟩⟩⟩⟩⟩⟩ ?_
                    exact j146 _ hw
    refine zr_if_ne 69 dX5_isWord_62 (by decide) (fun q => ?_) (fun q => ?_)
    · have hw := hw.1 q
      refine zr_iload dX5_isWord_69 rfl ?_
      refine zr_sub [.ref 0, .int p1, .int p2, .int p3, .int p4, .int p5, .int p6, .int p7, .int p8, .int p9, .null, .null] ⟨Or.inr rfl, ⟨Or.inr rfl, ⟨Or.inr rfl, ⟨Or.inr rfl, ⟨Or.inr rfl, ⟨Or.inr rfl, ⟨Or.inr rfl, ⟨Or.inr rfl, ⟨Or.inr rfl, ⟨Or.inr rfl, ⟨Or.inl rfl, ⟨Or.inl rfl, trivial⟩⟩⟩⟩⟩⟩⟩⟩⟩⟩⟩⟩ ?_
      exact j71 _ hw
    · have hw := hw.2 q
      refine zr_iconst dX5_isWord_65 zqk_2 ?_
      refine zr_goto 71 dX5_isWord_66 (by decide) ?_
      refine zr_sub [.ref 0, .int p1, .int p2, .int p3, .int p4, .int p5, .int p6, .int p7, .int p8, .int p9, .null, .null] ⟨Or.inr rfl, ⟨Or.inr rfl, ⟨Or.inr rfl, ⟨Or.inr rfl, ⟨Or.inr rfl, ⟨Or.inr rfl, ⟨Or.inr rfl, ⟨Or.inr rfl, ⟨Or.inr rfl, ⟨Or.inr rfl, ⟨Or.inl rfl, ⟨Or.inl rfl, trivial⟩⟩⟩⟩⟩⟩⟩⟩⟩⟩⟩⟩ ?_
      exact j71 _ hw
  refine zr_if_ne 9 dX5_isWord_2 (by decide) (fun q => ?_) (fun q => ?_)
  · have hw := hw.1 q
    refine zr_iload dX5_isWord_9 rfl ?_
    refine zr_if_ne 18 dX5_isWord_11 (by decide) (fun q => ?_) (fun q => ?_)
    · have hw := hw.1 q
      refine zr_iload dX5_isWord_18 rfl ?_
      refine zr_if_ne 27 dX5_isWord_20 (by decide) (fun q => ?_) (fun q => ?_)
      · have hw := hw.1 q
        refine zr_iload dX5_isWord_27 rfl ?_
        refine zr_if_ne 37 dX5_isWord_29 (by decide) (fun q => ?_) (fun q => ?_)
        · have hw := hw.1 q
          refine zr_iload dX5_isWord_37 rfl ?_
          refine zr_if_ne 47 dX5_isWord_39 (by decide) (fun q => ?_) (fun q => ?_)
          · have hw := hw.1 q
            refine zr_iload dX5_isWord_47 rfl ?_
            refine zr_if_ne 57 dX5_isWord_49 (by decide) (fun q => ?_) (fun q => ?_)
            · have hw := hw.1 q
              refine zr_bipush dX5_isWord_57 zbk_9 ?_
              exact j59 _ hw
            · have hw := hw.2 q
              refine zr_bipush dX5_isWord_52 zbk_8 ?_
              refine zr_goto 59 dX5_isWord_54 (by decide) ?_
              exact j59 _ hw
          · have hw := hw.2 q
            refine zr_bipush dX5_isWord_42 zbk_7 ?_
            refine zr_goto 59 dX5_isWord_44 (by decide) ?_
            exact j59 _ hw
        · have hw := hw.2 q
          refine zr_bipush dX5_isWord_32 zbk_6 ?_
          refine zr_goto 59 dX5_isWord_34 (by decide) ?_
          exact j59 _ hw
      · have hw := hw.2 q
        refine zr_iconst dX5_isWord_23 zqk_5 ?_
        refine zr_goto 59 dX5_isWord_24 (by decide) ?_
        exact j59 _ hw
    · have hw := hw.2 q
      refine zr_iconst dX5_isWord_14 zqk_4 ?_
      refine zr_goto 59 dX5_isWord_15 (by decide) ?_
      exact j59 _ hw
  · have hw := hw.2 q
    refine zr_iconst dX5_isWord_5 zqk_3 ?_
    refine zr_goto 59 dX5_isWord_6 (by decide) ?_
    exact j59 _ hw
def wX5_number_j79 (p1 : Int32) (p2 : Int32) (h0 : zz_H) (post : Int32 → zz_H → Prop) (r2 : Int32) (x3 : Int32) : Prop :=
  zz_sto h0 0 (upd (h0 0) 10 x3) (fun h6 => ((r2 = 0) → (wX5_needs (0 : Int32) h6 (fun _ h7 => post 0 h7))) ∧ ((¬ r2 = 0) → (wX5_in (x3.toInt64) (p1.toInt64) (p2.toInt64) h6 (fun r8 => ((r8 = 0) → (wX5_needs (0 : Int32) h6 (fun _ h9 => post 0 h9))) ∧ ((¬ r8 = 0) → (wX5_needs (1 : Int32) h6 (fun _ h10 => post 0 h10)))))))
def wX5_number_b29 (p1 : Int32) (p2 : Int32) (h0 : zz_H) (post : Int32 → zz_H → Prop) (r2 : Int32) (K5 : Int32 × Int32 → Prop) (x3 : Int32) (x4 : Int32) : Prop :=
  (((h0 0 9) ≤ x4) → (wX5_number_j79 p1 p2 h0 post r2 x3)) ∧ ((¬ (h0 0 9) ≤ x4) → (((r2 = 0) → (wX5_number_j79 p1 p2 h0 post r2 x3)) ∧ ((¬ r2 = 0) → (((x3 ≤ (999 : Int32)) → (vp_in x4 120 ∧ (K5 (((((10 : Int32) * x3) + (h0 6 x4.toNatClampNeg)) - (48 : Int32)), (x4 + 1))))) ∧ ((¬ x3 ≤ (999 : Int32)) → (K5 (x3, (x4 + 1))))))))
def wX5_number (p1 : Int32) (p2 : Int32) (h0 : zz_H) (post : Int32 → zz_H → Prop) : Prop :=
  (((h0 0 11) = 0) → (wX5_byteAt (h0 0 8) h0 (fun r1 => wX5_isDigit r1 h0 (fun r2 => ∃ t9, zz_lp (fun K (s : Int32 × Int32) => wX5_number_b29 p1 p2 h0 post r2 K s.1 s.2) t9 ((0 : Int32), (h0 0 8)))))) ∧ ((¬ (h0 0 11) = 0) → (post 0 h0))
set_option maxRecDepth 20000 in
set_option maxHeartbeats 4000000 in
theorem ctX5_number (p1 : Int32) (p2 : Int32) (h0 : zz_H) (post : Int32 → zz_H → Prop) (hw : wX5_number p1 p2 h0 post) : zz_Ct zz_M 4 yX5_number cX5_number 6 none [.ref 0, .int p1, .int p2] h0 post := by
  refine zz_ct (L := [.ref 0, .int p1, .int p2, .null, .null, .null]) (by decide +kernel) (Nat.le_of_ble_eq_true rfl) (fun ad q hq => hq) ?_
  show zz_Go zz_M 4 cX5_number RX5 6 none post 0 [] [.ref 0, .int p1, .int p2, .null, .null, .null] h0
  unfold wX5_number at hw
  refine zr_aload_n dX5_number_0 rfl rfl ?_
  refine zr_getI zz_cX5 zz_M0 11 (by decide) rfl zf_X5_204 dX5_number_1 ?_
  refine zr_if_eq 8 dX5_number_4 (by decide) (fun q => ?_) (fun q => ?_)
  · have hw := hw.1 q
    refine zr_aload_n dX5_number_8 rfl rfl ?_
    refine zr_aload_n dX5_number_9 rfl rfl ?_
    refine zr_getI zz_cX5 zz_M0 8 (by decide) rfl zf_X5_192 dX5_number_10 ?_
    refine zr_pVi zz_cX5 zz_M0 (ctX5_byteAt (h0 0 8) h0 _ hw) zy_X5_byteAt zm_X5_195 (by decide) rfl rfl (Nat.le_of_ble_eq_true rfl) dX5_number_13 (fun r1 hw => ?_)
    refine zr_pSi (ctX5_isDigit r1 h0 _ hw) zy_X5_isDigit zm_X5_201 (by decide) rfl rfl (Nat.le_of_ble_eq_true rfl) dX5_number_16 (fun r2 hw => ?_)
    refine zr_istore_n [.ref 0, .int p1, .int p2, .int r2, .null, .null] dX5_number_19 rfl (by decide) rfl rfl ?_
    refine zr_iconst dX5_number_20 zqk_0 ?_
    refine zr_istore [.ref 0, .int p1, .int p2, .int r2, .int (0 : Int32), .null] dX5_number_21 (by decide) rfl rfl ?_
    refine zr_aload_n dX5_number_23 rfl rfl ?_
    refine zr_getI zz_cX5 zz_M0 8 (by decide) rfl zf_X5_192 dX5_number_24 ?_
    refine zr_istore [.ref 0, .int p1, .int p2, .int r2, .int (0 : Int32), .int (h0 0 8)] dX5_number_27 (by decide) rfl rfl ?_
    obtain ⟨t9, hw⟩ := hw
    have step29 : ∀ (K5 : Int32 × Int32 → Prop), (∀ (x3 : Int32) (x4 : Int32), K5 (x3, x4) → zz_Go zz_M 4 cX5_number RX5 6 none post 29 [] [.ref 0, .int p1, .int p2, .int r2, .int x3, .int x4] h0) → ∀ (x3 : Int32) (x4 : Int32), wX5_number_b29 p1 p2 h0 post r2 K5 x3 x4 → zz_Go zz_M 4 cX5_number RX5 6 none post 29 [] [.ref 0, .int p1, .int p2, .int r2, .int x3, .int x4] h0 := by
      intro K5 ih29 x3 x4 hw
      unfold wX5_number_b29 at hw
      refine zr_iload dX5_number_29 rfl ?_
      refine zr_aload_n dX5_number_31 rfl rfl ?_
      refine zr_getI zz_cX5 zz_M0 9 (by decide) rfl zf_X5_189 dX5_number_32 ?_
      have j79 : wX5_number_j79 p1 p2 h0 post r2 x3 → zz_Go zz_M 4 cX5_number RX5 6 none post 79 [] [.ref 0, .int p1, .int p2, .int r2, .int x3, .null] h0 := by
        intro hw
        unfold wX5_number_j79 at hw
        refine zr_aload_n dX5_number_79 rfl rfl ?_
        refine zr_iload dX5_number_80 rfl ?_
        refine zr_putI zz_cX5 zz_M0 10 (by decide) rfl rfl rfl rfl rfl zf_X5_215 dX5_number_82 hw (fun h6 hw => ?_)
        refine zr_aload_n dX5_number_85 rfl rfl ?_
        refine zr_iload_n dX5_number_86 rfl rfl ?_
        refine zr_if_eq 107 dX5_number_87 (by decide) (fun q => ?_) (fun q => ?_)
        · have hw := hw.1 q
          refine zr_iconst dX5_number_107 zqk_0 ?_
          refine zr_callVv zz_cX5 zz_M0 (ctX5_needs (0 : Int32) h6 _ hw) zy_X5_needs zm_X5_218 (by decide) rfl rfl (Nat.le_of_ble_eq_true rfl) dX5_number_108 (fun h7 hw => ?_)
          exact zr_vret rfl dX5_number_111 hw
        · have hw := hw.2 q
          refine zr_iload dX5_number_90 rfl ?_
          refine zr_i2l dX5_number_92 ?_
          refine zr_iload_n dX5_number_93 rfl rfl ?_
          refine zr_i2l dX5_number_94 ?_
          refine zr_iload_n dX5_number_95 rfl rfl ?_
          refine zr_i2l dX5_number_96 ?_
          refine zr_pSi (ctX5_in (x3.toInt64) (p1.toInt64) (p2.toInt64) h6 _ hw) zy_X5_in zm_X5_43 (by decide) rfl rfl (Nat.le_of_ble_eq_true rfl) dX5_number_97 (fun r8 hw => ?_)
          refine zr_if_eq 107 dX5_number_100 (by decide) (fun q => ?_) (fun q => ?_)
          · have hw := hw.1 q
            refine zr_iconst dX5_number_107 zqk_0 ?_
            refine zr_callVv zz_cX5 zz_M0 (ctX5_needs (0 : Int32) h6 _ hw) zy_X5_needs zm_X5_218 (by decide) rfl rfl (Nat.le_of_ble_eq_true rfl) dX5_number_108 (fun h9 hw => ?_)
            exact zr_vret rfl dX5_number_111 hw
          · have hw := hw.2 q
            refine zr_iconst dX5_number_103 zqk_1 ?_
            refine zr_goto 108 dX5_number_104 (by decide) ?_
            refine zr_callVv zz_cX5 zz_M0 (ctX5_needs (1 : Int32) h6 _ hw) zy_X5_needs zm_X5_218 (by decide) rfl rfl (Nat.le_of_ble_eq_true rfl) dX5_number_108 (fun h10 hw => ?_)
            exact zr_vret rfl dX5_number_111 hw
      refine zr_icmp_ge 79 dX5_number_35 (by decide) (fun q => ?_) (fun q => ?_)
      · have hw := hw.1 q
        refine zr_sub [.ref 0, .int p1, .int p2, .int r2, .int x3, .null] ⟨Or.inr rfl, ⟨Or.inr rfl, ⟨Or.inr rfl, ⟨Or.inr rfl, ⟨Or.inr rfl, ⟨Or.inl rfl, trivial⟩⟩⟩⟩⟩⟩ ?_
        exact j79 hw
      · have hw := hw.2 q
        refine zr_iload_n dX5_number_38 rfl rfl ?_
        refine zr_if_eq 79 dX5_number_39 (by decide) (fun q => ?_) (fun q => ?_)
        · have hw := hw.1 q
          refine zr_sub [.ref 0, .int p1, .int p2, .int r2, .int x3, .null] ⟨Or.inr rfl, ⟨Or.inr rfl, ⟨Or.inr rfl, ⟨Or.inr rfl, ⟨Or.inr rfl, ⟨Or.inl rfl, trivial⟩⟩⟩⟩⟩⟩ ?_
          exact j79 hw
        · have hw := hw.2 q
          refine zr_iload dX5_number_42 rfl ?_
          refine zr_sipush dX5_number_44 zhk_999 ?_
          refine zr_icmp_le 55 dX5_number_47 (by decide) (fun q => ?_) (fun q => ?_)
          · have hw := hw.1 q
            refine zr_bipush dX5_number_55 zbk_10 ?_
            refine zr_iload dX5_number_57 rfl ?_
            refine zr_imul dX5_number_59 ?_
            refine zr_aload_n dX5_number_60 rfl rfl ?_
            refine zr_getR zz_cX5 zz_M0 6 (by decide) rfl zf_X5_25 dX5_number_61 ?_
            refine zr_iload dX5_number_64 rfl ?_
            obtain ⟨hi, hw⟩ := hw
            refine zr_iald zz_M6 hi rfl dX5_number_66 ?_
            refine zr_iadd dX5_number_67 ?_
            refine zr_bipush dX5_number_68 zbk_48 ?_
            refine zr_isub dX5_number_70 ?_
            refine zr_istore [.ref 0, .int p1, .int p2, .int r2, .int ((((10 : Int32) * x3) + (h0 6 x4.toNatClampNeg)) - (48 : Int32)), .int x4] dX5_number_71 (by decide) rfl rfl ?_
            refine zr_iinc (x4 + 1) [.ref 0, .int p1, .int p2, .int r2, .int ((((10 : Int32) * x3) + (h0 6 x4.toNatClampNeg)) - (48 : Int32)), .int (x4 + 1)] dX5_number_73 rfl (zok_1 _) (by decide) rfl rfl ?_
            refine zr_goto 29 dX5_number_76 (by decide) ?_
            exact ih29 _ _ hw
          · have hw := hw.2 q
            refine zr_iload dX5_number_50 rfl ?_
            refine zr_goto 71 dX5_number_52 (by decide) ?_
            refine zr_istore [.ref 0, .int p1, .int p2, .int r2, .int x3, .int x4] dX5_number_71 (by decide) rfl rfl ?_
            refine zr_iinc (x4 + 1) [.ref 0, .int p1, .int p2, .int r2, .int x3, .int (x4 + 1)] dX5_number_73 rfl (zok_1 _) (by decide) rfl rfl ?_
            refine zr_goto 29 dX5_number_76 (by decide) ?_
            exact ih29 _ _ hw
    have key29 : ∀ (t9 : Nat) (x3 : Int32) (x4 : Int32), zz_lp (fun K (s : Int32 × Int32) => wX5_number_b29 p1 p2 h0 post r2 K s.1 s.2) t9 (x3, x4) → zz_Go zz_M 4 cX5_number RX5 6 none post 29 [] [.ref 0, .int p1, .int p2, .int r2, .int x3, .int x4] h0 := by
      intro t9
      induction t9 with
      | zero => intro x3 x4 hw; exact hw.elim
      | succ t9 ih => intro x3 x4 hw; exact step29 _ ih _ _ hw
    exact key29 t9 _ _ hw
  · have hw := hw.2 q
    exact zr_vret rfl dX5_number_7 hw
def wX5_kindHere (h0 : zz_H) (post : Int32 → Prop) : Prop :=
  wX5_isWord (99 : Int32) (117 : Int32) (114 : Int32) (118 : Int32) (101 : Int32) (0 : Int32) (0 : Int32) (0 : Int32) (0 : Int32) h0 (fun r1 => ((r1 = 0) → (wX5_isWord (97 : Int32) (100 : Int32) (100 : Int32) (101 : Int32) (100 : Int32) (0 : Int32) (0 : Int32) (0 : Int32) (0 : Int32) h0 (fun r2 => ((r2 = 0) → (wX5_isWord (115 : Int32) (116 : Int32) (114 : Int32) (101 : Int32) (116 : Int32) (99 : Int32) (104 : Int32) (101 : Int32) (100 : Int32) h0 (fun r3 => ((r3 = 0) → (wX5_isWord (98 : Int32) (101 : Int32) (110 : Int32) (116 : Int32) (0 : Int32) (0 : Int32) (0 : Int32) (0 : Int32) (0 : Int32) h0 (fun r4 => ((r4 = 0) → (wX5_isWord (115 : Int32) (104 : Int32) (97 : Int32) (114 : Int32) (101 : Int32) (100 : Int32) (0 : Int32) (0 : Int32) (0 : Int32) h0 (fun r5 => ((r5 = 0) → (wX5_isWord (108 : Int32) (105 : Int32) (110 : Int32) (107 : Int32) (101 : Int32) (100 : Int32) (0 : Int32) (0 : Int32) (0 : Int32) h0 (fun r6 => ((r6 = 0) → (wX5_isWord (100 : Int32) (114 : Int32) (111 : Int32) (112 : Int32) (112 : Int32) (101 : Int32) (100 : Int32) (0 : Int32) (0 : Int32) h0 (fun r7 => ((r7 = 0) → (post ((-1) : Int32))) ∧ ((¬ r7 = 0) → (post (6 : Int32)))))) ∧ ((¬ r6 = 0) → (post (5 : Int32)))))) ∧ ((¬ r5 = 0) → (post (4 : Int32)))))) ∧ ((¬ r4 = 0) → (post (3 : Int32)))))) ∧ ((¬ r3 = 0) → (post (2 : Int32)))))) ∧ ((¬ r2 = 0) → (post (1 : Int32)))))) ∧ ((¬ r1 = 0) → (post (0 : Int32))))
set_option maxRecDepth 20000 in
set_option maxHeartbeats 4000000 in
theorem ctX5_kindHere (h0 : zz_H) (post : Int32 → Prop) (hw : wX5_kindHere h0 post) : zz_Ct zz_M 3 yX5_kindHere cX5_kindHere 1 (some .int) [.ref 0] h0 (zz_pu h0 post) := by
  refine zz_ct (L := [.ref 0]) (by decide +kernel) (Nat.le_of_ble_eq_true rfl) (fun ad q hq => hq) ?_
  show zz_Go zz_M 3 cX5_kindHere RX5 1 (some .int) (zz_pu h0 post) 0 [] [.ref 0] h0
  unfold wX5_kindHere at hw
  refine zr_aload_n dX5_kindHere_0 rfl rfl ?_
  refine zr_bipush dX5_kindHere_1 zbk_99 ?_
  refine zr_bipush dX5_kindHere_3 zbk_117 ?_
  refine zr_bipush dX5_kindHere_5 zbk_114 ?_
  refine zr_bipush dX5_kindHere_7 zbk_118 ?_
  refine zr_bipush dX5_kindHere_9 zbk_101 ?_
  refine zr_iconst dX5_kindHere_11 zqk_0 ?_
  refine zr_iconst dX5_kindHere_12 zqk_0 ?_
  refine zr_iconst dX5_kindHere_13 zqk_0 ?_
  refine zr_iconst dX5_kindHere_14 zqk_0 ?_
  refine zr_pVi zz_cX5 zz_M0 (ctX5_isWord (99 : Int32) (117 : Int32) (114 : Int32) (118 : Int32) (101 : Int32) (0 : Int32) (0 : Int32) (0 : Int32) (0 : Int32) h0 _ hw) zy_X5_isWord zm_X5_222 (by decide) rfl rfl (Nat.le_of_ble_eq_true rfl) dX5_kindHere_15 (fun r1 hw => ?_)
  refine zr_if_eq 23 dX5_kindHere_18 (by decide) (fun q => ?_) (fun q => ?_)
  · have hw := hw.1 q
    refine zr_aload_n dX5_kindHere_23 rfl rfl ?_
    refine zr_bipush dX5_kindHere_24 zbk_97 ?_
    refine zr_bipush dX5_kindHere_26 zbk_100 ?_
    refine zr_bipush dX5_kindHere_28 zbk_100 ?_
    refine zr_bipush dX5_kindHere_30 zbk_101 ?_
    refine zr_bipush dX5_kindHere_32 zbk_100 ?_
    refine zr_iconst dX5_kindHere_34 zqk_0 ?_
    refine zr_iconst dX5_kindHere_35 zqk_0 ?_
    refine zr_iconst dX5_kindHere_36 zqk_0 ?_
    refine zr_iconst dX5_kindHere_37 zqk_0 ?_
    refine zr_pVi zz_cX5 zz_M0 (ctX5_isWord (97 : Int32) (100 : Int32) (100 : Int32) (101 : Int32) (100 : Int32) (0 : Int32) (0 : Int32) (0 : Int32) (0 : Int32) h0 _ hw) zy_X5_isWord zm_X5_222 (by decide) rfl rfl (Nat.le_of_ble_eq_true rfl) dX5_kindHere_38 (fun r2 hw => ?_)
    refine zr_if_eq 48 dX5_kindHere_41 (by decide) (fun q => ?_) (fun q => ?_)
    · have hw := hw.1 q
      refine zr_aload_n dX5_kindHere_48 rfl rfl ?_
      refine zr_bipush dX5_kindHere_49 zbk_115 ?_
      refine zr_bipush dX5_kindHere_51 zbk_116 ?_
      refine zr_bipush dX5_kindHere_53 zbk_114 ?_
      refine zr_bipush dX5_kindHere_55 zbk_101 ?_
      refine zr_bipush dX5_kindHere_57 zbk_116 ?_
      refine zr_bipush dX5_kindHere_59 zbk_99 ?_
      refine zr_bipush dX5_kindHere_61 zbk_104 ?_
      refine zr_bipush dX5_kindHere_63 zbk_101 ?_
      refine zr_bipush dX5_kindHere_65 zbk_100 ?_
      refine zr_pVi zz_cX5 zz_M0 (ctX5_isWord (115 : Int32) (116 : Int32) (114 : Int32) (101 : Int32) (116 : Int32) (99 : Int32) (104 : Int32) (101 : Int32) (100 : Int32) h0 _ hw) zy_X5_isWord zm_X5_222 (by decide) rfl rfl (Nat.le_of_ble_eq_true rfl) dX5_kindHere_67 (fun r3 hw => ?_)
      refine zr_if_eq 77 dX5_kindHere_70 (by decide) (fun q => ?_) (fun q => ?_)
      · have hw := hw.1 q
        refine zr_aload_n dX5_kindHere_77 rfl rfl ?_
        refine zr_bipush dX5_kindHere_78 zbk_98 ?_
        refine zr_bipush dX5_kindHere_80 zbk_101 ?_
        refine zr_bipush dX5_kindHere_82 zbk_110 ?_
        refine zr_bipush dX5_kindHere_84 zbk_116 ?_
        refine zr_iconst dX5_kindHere_86 zqk_0 ?_
        refine zr_iconst dX5_kindHere_87 zqk_0 ?_
        refine zr_iconst dX5_kindHere_88 zqk_0 ?_
        refine zr_iconst dX5_kindHere_89 zqk_0 ?_
        refine zr_iconst dX5_kindHere_90 zqk_0 ?_
        refine zr_pVi zz_cX5 zz_M0 (ctX5_isWord (98 : Int32) (101 : Int32) (110 : Int32) (116 : Int32) (0 : Int32) (0 : Int32) (0 : Int32) (0 : Int32) (0 : Int32) h0 _ hw) zy_X5_isWord zm_X5_222 (by decide) rfl rfl (Nat.le_of_ble_eq_true rfl) dX5_kindHere_91 (fun r4 hw => ?_)
        refine zr_if_eq 101 dX5_kindHere_94 (by decide) (fun q => ?_) (fun q => ?_)
        · have hw := hw.1 q
          refine zr_aload_n dX5_kindHere_101 rfl rfl ?_
          refine zr_bipush dX5_kindHere_102 zbk_115 ?_
          refine zr_bipush dX5_kindHere_104 zbk_104 ?_
          refine zr_bipush dX5_kindHere_106 zbk_97 ?_
          refine zr_bipush dX5_kindHere_108 zbk_114 ?_
          refine zr_bipush dX5_kindHere_110 zbk_101 ?_
          refine zr_bipush dX5_kindHere_112 zbk_100 ?_
          refine zr_iconst dX5_kindHere_114 zqk_0 ?_
          refine zr_iconst dX5_kindHere_115 zqk_0 ?_
          refine zr_iconst dX5_kindHere_116 zqk_0 ?_
          refine zr_pVi zz_cX5 zz_M0 (ctX5_isWord (115 : Int32) (104 : Int32) (97 : Int32) (114 : Int32) (101 : Int32) (100 : Int32) (0 : Int32) (0 : Int32) (0 : Int32) h0 _ hw) zy_X5_isWord zm_X5_222 (by decide) rfl rfl (Nat.le_of_ble_eq_true rfl) dX5_kindHere_117 (fun r5 hw => ?_)
          refine zr_if_eq 127 dX5_kindHere_120 (by decide) (fun q => ?_) (fun q => ?_)
          · have hw := hw.1 q
            refine zr_aload_n dX5_kindHere_127 rfl rfl ?_
            refine zr_bipush dX5_kindHere_128 zbk_108 ?_
            refine zr_bipush dX5_kindHere_130 zbk_105 ?_
            refine zr_bipush dX5_kindHere_132 zbk_110 ?_
            refine zr_bipush dX5_kindHere_134 zbk_107 ?_
            refine zr_bipush dX5_kindHere_136 zbk_101 ?_
            refine zr_bipush dX5_kindHere_138 zbk_100 ?_
            refine zr_iconst dX5_kindHere_140 zqk_0 ?_
            refine zr_iconst dX5_kindHere_141 zqk_0 ?_
            refine zr_iconst dX5_kindHere_142 zqk_0 ?_
            refine zr_pVi zz_cX5 zz_M0 (ctX5_isWord (108 : Int32) (105 : Int32) (110 : Int32) (107 : Int32) (101 : Int32) (100 : Int32) (0 : Int32) (0 : Int32) (0 : Int32) h0 _ hw) zy_X5_isWord zm_X5_222 (by decide) rfl rfl (Nat.le_of_ble_eq_true rfl) dX5_kindHere_143 (fun r6 hw => ?_)
            refine zr_if_eq 153 dX5_kindHere_146 (by decide) (fun q => ?_) (fun q => ?_)
            · have hw := hw.1 q
              refine zr_aload_n dX5_kindHere_153 rfl rfl ?_
              refine zr_bipush dX5_kindHere_154 zbk_100 ?_
              refine zr_bipush dX5_kindHere_156 zbk_114 ?_
              refine zr_bipush dX5_kindHere_158 zbk_111 ?_
              refine zr_bipush dX5_kindHere_160 zbk_112 ?_
              refine zr_bipush dX5_kindHere_162 zbk_112 ?_
              refine zr_bipush dX5_kindHere_164 zbk_101 ?_
              refine zr_bipush dX5_kindHere_166 zbk_100 ?_
              refine zr_iconst dX5_kindHere_168 zqk_0 ?_
              refine zr_iconst dX5_kindHere_169 zqk_0 ?_
              refine zr_pVi zz_cX5 zz_M0 (ctX5_isWord (100 : Int32) (114 : Int32) (111 : Int32) (112 : Int32) (112 : Int32) (101 : Int32) (100 : Int32) (0 : Int32) (0 : Int32) h0 _ hw) zy_X5_isWord zm_X5_222 (by decide) rfl rfl (Nat.le_of_ble_eq_true rfl) dX5_kindHere_170 (fun r7 hw => ?_)
              refine zr_if_eq 181 dX5_kindHere_173 (by decide) (fun q => ?_) (fun q => ?_)
              · have hw := hw.1 q
                refine zr_iconst dX5_kindHere_181 zqk_m1 ?_
                exact zr_ret rfl rfl dX5_kindHere_182 ⟨rfl, hw⟩
              · have hw := hw.2 q
                refine zr_bipush dX5_kindHere_176 zbk_6 ?_
                refine zr_goto 182 dX5_kindHere_178 (by decide) ?_
                exact zr_ret rfl rfl dX5_kindHere_182 ⟨rfl, hw⟩
            · have hw := hw.2 q
              refine zr_iconst dX5_kindHere_149 zqk_5 ?_
              refine zr_goto 182 dX5_kindHere_150 (by decide) ?_
              exact zr_ret rfl rfl dX5_kindHere_182 ⟨rfl, hw⟩
          · have hw := hw.2 q
            refine zr_iconst dX5_kindHere_123 zqk_4 ?_
            refine zr_goto 182 dX5_kindHere_124 (by decide) ?_
            exact zr_ret rfl rfl dX5_kindHere_182 ⟨rfl, hw⟩
        · have hw := hw.2 q
          refine zr_iconst dX5_kindHere_97 zqk_3 ?_
          refine zr_goto 182 dX5_kindHere_98 (by decide) ?_
          exact zr_ret rfl rfl dX5_kindHere_182 ⟨rfl, hw⟩
      · have hw := hw.2 q
        refine zr_iconst dX5_kindHere_73 zqk_2 ?_
        refine zr_goto 182 dX5_kindHere_74 (by decide) ?_
        exact zr_ret rfl rfl dX5_kindHere_182 ⟨rfl, hw⟩
    · have hw := hw.2 q
      refine zr_iconst dX5_kindHere_44 zqk_1 ?_
      refine zr_goto 182 dX5_kindHere_45 (by decide) ?_
      exact zr_ret rfl rfl dX5_kindHere_182 ⟨rfl, hw⟩
  · have hw := hw.2 q
    refine zr_iconst dX5_kindHere_21 zqk_0 ?_
    exact zr_ret rfl rfl dX5_kindHere_22 ⟨rfl, hw⟩
def wX5_curveItem_j58 (p1 : Int32) (post : Int32 → zz_H → Prop) (y4 : Int32) (h5 : zz_H) : Prop :=
  ((¬ (h5 0 11) = 0) → (post 0 h5)) ∧ (((h5 0 11) = 0) → (wX5_newCurve p1 y4 h5 (fun r7 h6 => post 0 h6)))
def wX5_curveItem_j18 (p1 : Int32) (h0 : zz_H) (post : Int32 → zz_H → Prop) (y1 : Int32) : Prop :=
  wX5_needs y1 h0 (fun _ h2 => wX5_isWord (98 : Int32) (121 : Int32) (0 : Int32) (0 : Int32) (0 : Int32) (0 : Int32) (0 : Int32) (0 : Int32) (0 : Int32) h2 (fun r3 => ((r3 = 0) → (wX5_curveItem_j58 p1 post (0 : Int32) h2)) ∧ ((¬ r3 = 0) → (wX5_needs (1 : Int32) h2 (fun _ h8 => wX5_number (0 : Int32) (100 : Int32) h8 (fun _ h9 => wX5_curveItem_j58 p1 post (h9 0 10) h9))))))
def wX5_curveItem (p1 : Int32) (h0 : zz_H) (post : Int32 → zz_H → Prop) : Prop :=
  (((6 : Int32) ≤ (h0 1 18)) → (wX5_curveItem_j18 p1 h0 post (0 : Int32))) ∧ ((¬ (6 : Int32) ≤ (h0 1 18)) → (wX5_curveItem_j18 p1 h0 post (1 : Int32)))
set_option maxRecDepth 20000 in
set_option maxHeartbeats 4000000 in
theorem ctX5_curveItem (p1 : Int32) (h0 : zz_H) (post : Int32 → zz_H → Prop) (hw : wX5_curveItem p1 h0 post) : zz_Ct zz_M 5 yX5_curveItem cX5_curveItem 4 none [.ref 0, .int p1] h0 post := by
  refine zz_ct (L := [.ref 0, .int p1, .null, .null]) (by decide +kernel) (Nat.le_of_ble_eq_true rfl) (fun ad q hq => hq) ?_
  show zz_Go zz_M 5 cX5_curveItem RX5 4 none post 0 [] [.ref 0, .int p1, .null, .null] h0
  unfold wX5_curveItem at hw
  refine zr_aload_n dX5_curveItem_0 rfl rfl ?_
  refine zr_aload_n dX5_curveItem_1 rfl rfl ?_
  refine zr_getR zz_cX5 zz_M0 0 (by decide) rfl zf_X5_7 dX5_curveItem_2 ?_
  refine zr_bipush dX5_curveItem_5 zbk_18 ?_
  refine zr_iald zz_M1 (zz_vin (by decide)) (j := 18) (by decide) dX5_curveItem_7 ?_
  refine zr_bipush dX5_curveItem_8 zbk_6 ?_
  have j18 : ∀ (y1 : Int32), wX5_curveItem_j18 p1 h0 post y1 → zz_Go zz_M 5 cX5_curveItem RX5 4 none post 18 [.int y1, .ref 0] [.ref 0, .int p1, .null, .null] h0 := by
    intro y1 hw
    unfold wX5_curveItem_j18 at hw
    refine zr_callVv zz_cX5 zz_M0 (ctX5_needs y1 h0 _ hw) zy_X5_needs zm_X5_218 (by decide) rfl rfl (Nat.le_of_ble_eq_true rfl) dX5_curveItem_18 (fun h2 hw => ?_)
    refine zr_iconst dX5_curveItem_21 zqk_0 ?_
    refine zr_istore_n [.ref 0, .int p1, .int (0 : Int32), .null] dX5_curveItem_22 rfl (by decide) rfl rfl ?_
    refine zr_aload_n dX5_curveItem_23 rfl rfl ?_
    refine zr_bipush dX5_curveItem_24 zbk_98 ?_
    refine zr_bipush dX5_curveItem_26 zbk_121 ?_
    refine zr_iconst dX5_curveItem_28 zqk_0 ?_
    refine zr_iconst dX5_curveItem_29 zqk_0 ?_
    refine zr_iconst dX5_curveItem_30 zqk_0 ?_
    refine zr_iconst dX5_curveItem_31 zqk_0 ?_
    refine zr_iconst dX5_curveItem_32 zqk_0 ?_
    refine zr_iconst dX5_curveItem_33 zqk_0 ?_
    refine zr_iconst dX5_curveItem_34 zqk_0 ?_
    refine zr_pVi zz_cX5 zz_M0 (ctX5_isWord (98 : Int32) (121 : Int32) (0 : Int32) (0 : Int32) (0 : Int32) (0 : Int32) (0 : Int32) (0 : Int32) (0 : Int32) h2 _ hw) zy_X5_isWord zm_X5_222 (by decide) rfl rfl (Nat.le_of_ble_eq_true rfl) dX5_curveItem_35 (fun r3 hw => ?_)
    have j58 : ∀ (y4 : Int32) (h5 : zz_H), wX5_curveItem_j58 p1 post y4 h5 → zz_Go zz_M 5 cX5_curveItem RX5 4 none post 58 [] [.ref 0, .int p1, .int y4, .null] h5 := by
      intro y4 h5 hw
      unfold wX5_curveItem_j58 at hw
      refine zr_aload_n dX5_curveItem_58 rfl rfl ?_
      refine zr_getI zz_cX5 zz_M0 11 (by decide) rfl zf_X5_204 dX5_curveItem_59 ?_
      refine zr_if_ne 72 dX5_curveItem_62 (by decide) (fun q => ?_) (fun q => ?_)
      · have hw := hw.1 q
        exact zr_vret rfl dX5_curveItem_72 hw
      · have hw := hw.2 q
        refine zr_aload_n dX5_curveItem_65 rfl rfl ?_
        refine zr_iload_n dX5_curveItem_66 rfl rfl ?_
        refine zr_iload_n dX5_curveItem_67 rfl rfl ?_
        refine zr_callVi zz_cX5 zz_M0 (ctX5_newCurve p1 y4 h5 _ hw) zy_X5_newCurve zm_X5_111 (by decide) rfl rfl (Nat.le_of_ble_eq_true rfl) dX5_curveItem_68 (fun r7 h6 hw => ?_)
        refine zr_istore_n [.ref 0, .int p1, .int y4, .int r7] dX5_curveItem_71 rfl (by decide) rfl rfl ?_
        exact zr_vret rfl dX5_curveItem_72 hw
    refine zr_if_eq 58 dX5_curveItem_38 (by decide) (fun q => ?_) (fun q => ?_)
    · have hw := hw.1 q
      exact j58 _ _ hw
    · have hw := hw.2 q
      refine zr_aload_n dX5_curveItem_41 rfl rfl ?_
      refine zr_iconst dX5_curveItem_42 zqk_1 ?_
      refine zr_callVv zz_cX5 zz_M0 (ctX5_needs (1 : Int32) h2 _ hw) zy_X5_needs zm_X5_218 (by decide) rfl rfl (Nat.le_of_ble_eq_true rfl) dX5_curveItem_43 (fun h8 hw => ?_)
      refine zr_aload_n dX5_curveItem_46 rfl rfl ?_
      refine zr_iconst dX5_curveItem_47 zqk_0 ?_
      refine zr_bipush dX5_curveItem_48 zbk_100 ?_
      refine zr_callVv zz_cX5 zz_M0 (ctX5_number (0 : Int32) (100 : Int32) h8 _ hw) zy_X5_number zm_X5_226 (by decide) rfl rfl (Nat.le_of_ble_eq_true rfl) dX5_curveItem_50 (fun h9 hw => ?_)
      refine zr_aload_n dX5_curveItem_53 rfl rfl ?_
      refine zr_getI zz_cX5 zz_M0 10 (by decide) rfl zf_X5_215 dX5_curveItem_54 ?_
      refine zr_istore_n [.ref 0, .int p1, .int (h9 0 10), .null] dX5_curveItem_57 rfl (by decide) rfl rfl ?_
      exact j58 _ _ hw
  refine zr_icmp_ge 17 dX5_curveItem_10 (by decide) (fun q => ?_) (fun q => ?_)
  · have hw := hw.1 q
    refine zr_iconst dX5_curveItem_17 zqk_0 ?_
    exact j18 _ hw
  · have hw := hw.2 q
    refine zr_iconst dX5_curveItem_13 zqk_1 ?_
    refine zr_goto 18 dX5_curveItem_14 (by decide) ?_
    exact j18 _ hw
def wX5_pupilItem_b46 (post : Int32 → zz_H → Prop) (r5 : Int32) (K8 : Int32 × zz_H → Prop) (x6 : Int32) (h7 : zz_H) : Prop :=
  (((8 : Int32) ≤ x6) → (post 0 h7)) ∧ ((¬ (8 : Int32) ≤ x6) → (((¬ (h7 0 11) = 0) → (post 0 h7)) ∧ (((h7 0 11) = 0) → (wX5_byteAt (h7 0 8) h7 (fun r9 => wX5_isDigit r9 h7 (fun r10 => ((r10 = 0) → (post 0 h7)) ∧ ((¬ r10 = 0) → (vp_in ((0 : Int32) + x6) 245 ∧ (wX5_number (0 : Int32) (h7 1 ((0 : Int32) + x6).toNatClampNeg) h7 (fun _ h11 => ((¬ (h11 0 11) = 0) → (K8 ((x6 + 1), h11))) ∧ (((h11 0 11) = 0) → (wX5_at r5 (0 : Int32) x6 h11 (fun r12 => vp_in r12 245 ∧ zz_sto h11 1 (upd (h11 1) r12.toNatClampNeg (h11 0 10)) (fun h13 => wX5_at r5 (1 : Int32) x6 h13 (fun r14 => vp_in r14 245 ∧ zz_sto h13 1 (upd (h13 1) r14.toNatClampNeg (h13 0 10)) (fun h15 => K8 ((x6 + 1), h15)))))))))))))))))
def wX5_pupilItem_j18 (h0 : zz_H) (post : Int32 → zz_H → Prop) (y1 : Int32) : Prop :=
  wX5_needs y1 h0 (fun _ h2 => wX5_number (0 : Int32) (3 : Int32) h2 (fun _ h3 => (((h3 0 11) = 0) → (wX5_newPupil (h3 0 10) h3 (fun r5 h4 => ∃ t9, zz_lp (fun K (s : Int32 × zz_H) => wX5_pupilItem_b46 post r5 K s.1 s.2) t9 ((0 : Int32), h4)))) ∧ ((¬ (h3 0 11) = 0) → (post 0 h3))))
def wX5_pupilItem (h0 : zz_H) (post : Int32 → zz_H → Prop) : Prop :=
  (((12 : Int32) ≤ (h0 1 17)) → (wX5_pupilItem_j18 h0 post (0 : Int32))) ∧ ((¬ (12 : Int32) ≤ (h0 1 17)) → (wX5_pupilItem_j18 h0 post (1 : Int32)))
set_option maxRecDepth 20000 in
set_option maxHeartbeats 4000000 in
theorem ctX5_pupilItem (h0 : zz_H) (post : Int32 → zz_H → Prop) (hw : wX5_pupilItem h0 post) : zz_Ct zz_M 5 yX5_pupilItem cX5_pupilItem 3 none [.ref 0] h0 post := by
  refine zz_ct (L := [.ref 0, .null, .null]) (by decide +kernel) (Nat.le_of_ble_eq_true rfl) (fun ad q hq => hq) ?_
  show zz_Go zz_M 5 cX5_pupilItem RX5 3 none post 0 [] [.ref 0, .null, .null] h0
  unfold wX5_pupilItem at hw
  refine zr_aload_n dX5_pupilItem_0 rfl rfl ?_
  refine zr_aload_n dX5_pupilItem_1 rfl rfl ?_
  refine zr_getR zz_cX5 zz_M0 0 (by decide) rfl zf_X5_7 dX5_pupilItem_2 ?_
  refine zr_bipush dX5_pupilItem_5 zbk_17 ?_
  refine zr_iald zz_M1 (zz_vin (by decide)) (j := 17) (by decide) dX5_pupilItem_7 ?_
  refine zr_bipush dX5_pupilItem_8 zbk_12 ?_
  have j18 : ∀ (y1 : Int32), wX5_pupilItem_j18 h0 post y1 → zz_Go zz_M 5 cX5_pupilItem RX5 3 none post 18 [.int y1, .ref 0] [.ref 0, .null, .null] h0 := by
    intro y1 hw
    unfold wX5_pupilItem_j18 at hw
    refine zr_callVv zz_cX5 zz_M0 (ctX5_needs y1 h0 _ hw) zy_X5_needs zm_X5_218 (by decide) rfl rfl (Nat.le_of_ble_eq_true rfl) dX5_pupilItem_18 (fun h2 hw => ?_)
    refine zr_aload_n dX5_pupilItem_21 rfl rfl ?_
    refine zr_iconst dX5_pupilItem_22 zqk_0 ?_
    refine zr_iconst dX5_pupilItem_23 zqk_3 ?_
    refine zr_callVv zz_cX5 zz_M0 (ctX5_number (0 : Int32) (3 : Int32) h2 _ hw) zy_X5_number zm_X5_226 (by decide) rfl rfl (Nat.le_of_ble_eq_true rfl) dX5_pupilItem_24 (fun h3 hw => ?_)
    refine zr_aload_n dX5_pupilItem_27 rfl rfl ?_
    refine zr_getI zz_cX5 zz_M0 11 (by decide) rfl zf_X5_204 dX5_pupilItem_28 ?_
    refine zr_if_eq 35 dX5_pupilItem_31 (by decide) (fun q => ?_) (fun q => ?_)
    · have hw := hw.1 q
      refine zr_aload_n dX5_pupilItem_35 rfl rfl ?_
      refine zr_aload_n dX5_pupilItem_36 rfl rfl ?_
      refine zr_getI zz_cX5 zz_M0 10 (by decide) rfl zf_X5_215 dX5_pupilItem_37 ?_
      refine zr_callVi zz_cX5 zz_M0 (ctX5_newPupil (h3 0 10) h3 _ hw) zy_X5_newPupil zm_X5_72 (by decide) rfl rfl (Nat.le_of_ble_eq_true rfl) dX5_pupilItem_40 (fun r5 h4 hw => ?_)
      refine zr_istore_n [.ref 0, .int r5, .null] dX5_pupilItem_43 rfl (by decide) rfl rfl ?_
      refine zr_iconst dX5_pupilItem_44 zqk_0 ?_
      refine zr_istore_n [.ref 0, .int r5, .int (0 : Int32)] dX5_pupilItem_45 rfl (by decide) rfl rfl ?_
      obtain ⟨t9, hw⟩ := hw
      have step46 : ∀ (K8 : Int32 × zz_H → Prop), (∀ (x6 : Int32) (h7 : zz_H), K8 (x6, h7) → zz_Go zz_M 5 cX5_pupilItem RX5 3 none post 46 [] [.ref 0, .int r5, .int x6] h7) → ∀ (x6 : Int32) (h7 : zz_H), wX5_pupilItem_b46 post r5 K8 x6 h7 → zz_Go zz_M 5 cX5_pupilItem RX5 3 none post 46 [] [.ref 0, .int r5, .int x6] h7 := by
        intro K8 ih46 x6 h7 hw
        unfold wX5_pupilItem_b46 at hw
        refine zr_iload_n dX5_pupilItem_46 rfl rfl ?_
        refine zr_bipush dX5_pupilItem_47 zbk_8 ?_
        refine zr_icmp_ge 129 dX5_pupilItem_49 (by decide) (fun q => ?_) (fun q => ?_)
        · have hw := hw.1 q
          exact zr_vret rfl dX5_pupilItem_129 hw
        · have hw := hw.2 q
          refine zr_aload_n dX5_pupilItem_52 rfl rfl ?_
          refine zr_getI zz_cX5 zz_M0 11 (by decide) rfl zf_X5_204 dX5_pupilItem_53 ?_
          refine zr_if_ne 129 dX5_pupilItem_56 (by decide) (fun q => ?_) (fun q => ?_)
          · have hw := hw.1 q
            exact zr_vret rfl dX5_pupilItem_129 hw
          · have hw := hw.2 q
            refine zr_aload_n dX5_pupilItem_59 rfl rfl ?_
            refine zr_aload_n dX5_pupilItem_60 rfl rfl ?_
            refine zr_getI zz_cX5 zz_M0 8 (by decide) rfl zf_X5_192 dX5_pupilItem_61 ?_
            refine zr_pVi zz_cX5 zz_M0 (ctX5_byteAt (h7 0 8) h7 _ hw) zy_X5_byteAt zm_X5_195 (by decide) rfl rfl (Nat.le_of_ble_eq_true rfl) dX5_pupilItem_64 (fun r9 hw => ?_)
            refine zr_pSi (ctX5_isDigit r9 h7 _ hw) zy_X5_isDigit zm_X5_201 (by decide) rfl rfl (Nat.le_of_ble_eq_true rfl) dX5_pupilItem_67 (fun r10 hw => ?_)
            refine zr_if_eq 129 dX5_pupilItem_70 (by decide) (fun q => ?_) (fun q => ?_)
            · have hw := hw.1 q
              exact zr_vret rfl dX5_pupilItem_129 hw
            · have hw := hw.2 q
              refine zr_aload_n dX5_pupilItem_73 rfl rfl ?_
              refine zr_iconst dX5_pupilItem_74 zqk_0 ?_
              refine zr_aload_n dX5_pupilItem_75 rfl rfl ?_
              refine zr_getR zz_cX5 zz_M0 0 (by decide) rfl zf_X5_7 dX5_pupilItem_76 ?_
              refine zr_iconst dX5_pupilItem_79 zqk_0 ?_
              refine zr_iload_n dX5_pupilItem_80 rfl rfl ?_
              refine zr_iadd dX5_pupilItem_81 ?_
              obtain ⟨hi, hw⟩ := hw
              refine zr_iald zz_M1 hi rfl dX5_pupilItem_82 ?_
              refine zr_callVv zz_cX5 zz_M0 (ctX5_number (0 : Int32) (h7 1 ((0 : Int32) + x6).toNatClampNeg) h7 _ hw) zy_X5_number zm_X5_226 (by decide) rfl rfl (Nat.le_of_ble_eq_true rfl) dX5_pupilItem_83 (fun h11 hw => ?_)
              refine zr_aload_n dX5_pupilItem_86 rfl rfl ?_
              refine zr_getI zz_cX5 zz_M0 11 (by decide) rfl zf_X5_204 dX5_pupilItem_87 ?_
              refine zr_if_ne 123 dX5_pupilItem_90 (by decide) (fun q => ?_) (fun q => ?_)
              · have hw := hw.1 q
                refine zr_iinc (x6 + 1) [.ref 0, .int r5, .int (x6 + 1)] dX5_pupilItem_123 rfl (zok_1 _) (by decide) rfl rfl ?_
                refine zr_goto 46 dX5_pupilItem_126 (by decide) ?_
                exact ih46 _ _ hw
              · have hw := hw.2 q
                refine zr_aload_n dX5_pupilItem_93 rfl rfl ?_
                refine zr_getR zz_cX5 zz_M0 0 (by decide) rfl zf_X5_7 dX5_pupilItem_94 ?_
                refine zr_iload_n dX5_pupilItem_97 rfl rfl ?_
                refine zr_iconst dX5_pupilItem_98 zqk_0 ?_
                refine zr_iload_n dX5_pupilItem_99 rfl rfl ?_
                refine zr_pSi (ctX5_at r5 (0 : Int32) x6 h11 _ hw) zy_X5_at zm_X5_49 (by decide) rfl rfl (Nat.le_of_ble_eq_true rfl) dX5_pupilItem_100 (fun r12 hw => ?_)
                refine zr_aload_n dX5_pupilItem_103 rfl rfl ?_
                refine zr_getI zz_cX5 zz_M0 10 (by decide) rfl zf_X5_215 dX5_pupilItem_104 ?_
                obtain ⟨hi, hw⟩ := hw
                refine zr_iast zz_M1 hi rfl dX5_pupilItem_107 hw (fun h13 hw => ?_)
                refine zr_aload_n dX5_pupilItem_108 rfl rfl ?_
                refine zr_getR zz_cX5 zz_M0 0 (by decide) rfl zf_X5_7 dX5_pupilItem_109 ?_
                refine zr_iload_n dX5_pupilItem_112 rfl rfl ?_
                refine zr_iconst dX5_pupilItem_113 zqk_1 ?_
                refine zr_iload_n dX5_pupilItem_114 rfl rfl ?_
                refine zr_pSi (ctX5_at r5 (1 : Int32) x6 h13 _ hw) zy_X5_at zm_X5_49 (by decide) rfl rfl (Nat.le_of_ble_eq_true rfl) dX5_pupilItem_115 (fun r14 hw => ?_)
                refine zr_aload_n dX5_pupilItem_118 rfl rfl ?_
                refine zr_getI zz_cX5 zz_M0 10 (by decide) rfl zf_X5_215 dX5_pupilItem_119 ?_
                obtain ⟨hi, hw⟩ := hw
                refine zr_iast zz_M1 hi rfl dX5_pupilItem_122 hw (fun h15 hw => ?_)
                refine zr_iinc (x6 + 1) [.ref 0, .int r5, .int (x6 + 1)] dX5_pupilItem_123 rfl (zok_1 _) (by decide) rfl rfl ?_
                refine zr_goto 46 dX5_pupilItem_126 (by decide) ?_
                exact ih46 _ _ hw
      have key46 : ∀ (t9 : Nat) (x6 : Int32) (h7 : zz_H), zz_lp (fun K (s : Int32 × zz_H) => wX5_pupilItem_b46 post r5 K s.1 s.2) t9 (x6, h7) → zz_Go zz_M 5 cX5_pupilItem RX5 3 none post 46 [] [.ref 0, .int r5, .int x6] h7 := by
        intro t9
        induction t9 with
        | zero => intro x6 h7 hw; exact hw.elim
        | succ t9 ih => intro x6 h7 hw; exact step46 _ ih _ _ hw
      exact key46 t9 _ _ hw
    · have hw := hw.2 q
      exact zr_vret rfl dX5_pupilItem_34 hw
  refine zr_icmp_ge 17 dX5_pupilItem_10 (by decide) (fun q => ?_) (fun q => ?_)
  · have hw := hw.1 q
    refine zr_iconst dX5_pupilItem_17 zqk_0 ?_
    exact j18 _ hw
  · have hw := hw.2 q
    refine zr_iconst dX5_pupilItem_13 zqk_1 ?_
    refine zr_goto 18 dX5_pupilItem_14 (by decide) ?_
    exact j18 _ hw
def wX5_item (h0 : zz_H) (post : Int32 → zz_H → Prop) : Prop :=
  wX5_kindHere h0 (fun r1 => ((r1 < 0) → (wX5_isWord (112 : Int32) (117 : Int32) (112 : Int32) (105 : Int32) (108 : Int32) (0 : Int32) (0 : Int32) (0 : Int32) (0 : Int32) h0 (fun r2 => ((r2 = 0) → (wX5_isWord (99 : Int32) (111 : Int32) (109 : Int32) (109 : Int32) (111 : Int32) (110 : Int32) (0 : Int32) (0 : Int32) (0 : Int32) h0 (fun r3 => ((r3 = 0) → (wX5_isWord (113 : Int32) (117 : Int32) (101 : Int32) (115 : Int32) (116 : Int32) (105 : Int32) (111 : Int32) (110 : Int32) (0 : Int32) h0 (fun r4 => wX5_needs r4 h0 (fun _ h5 => wX5_number (0 : Int32) (7 : Int32) h5 (fun _ h6 => wX5_isWord (119 : Int32) (111 : Int32) (114 : Int32) (116 : Int32) (104 : Int32) (0 : Int32) (0 : Int32) (0 : Int32) (0 : Int32) h6 (fun r7 => wX5_needs r7 h6 (fun _ h8 => wX5_number (0 : Int32) (40 : Int32) h8 (fun _ h9 => ((¬ (h9 0 11) = 0) → (post 0 h9)) ∧ (((h9 0 11) = 0) → (wX5_worths (h6 0 10) (h9 0 10) h9 (fun _ h10 => post 0 h10))))))))))) ∧ ((¬ r3 = 0) → (wX5_needs (1 : Int32) h0 (fun _ h11 => wX5_number (0 : Int32) (7 : Int32) h11 (fun _ h12 => wX5_number (0 : Int32) (400 : Int32) h12 (fun _ h13 => ((¬ (h13 0 11) = 0) → (post 0 h13)) ∧ (((h13 0 11) = 0) → (vp_in ((8 : Int32) + (h12 0 10)) 245 ∧ zz_sto h13 1 (upd (h13 1) ((8 : Int32) + (h12 0 10)).toNatClampNeg (h13 0 10)) (fun h14 => post 0 h14))))))))))) ∧ ((¬ r2 = 0) → (wX5_pupilItem h0 (fun _ h15 => post 0 h15)))))) ∧ ((¬ r1 < 0) → (wX5_curveItem r1 h0 (fun _ h16 => post 0 h16))))
set_option maxRecDepth 20000 in
set_option maxHeartbeats 4000000 in
theorem ctX5_item (h0 : zz_H) (post : Int32 → zz_H → Prop) (hw : wX5_item h0 post) : zz_Ct zz_M 6 yX5_item cX5_item 3 none [.ref 0] h0 post := by
  refine zz_ct (L := [.ref 0, .null, .null]) (by decide +kernel) (Nat.le_of_ble_eq_true rfl) (fun ad q hq => hq) ?_
  show zz_Go zz_M 6 cX5_item RX5 3 none post 0 [] [.ref 0, .null, .null] h0
  unfold wX5_item at hw
  refine zr_aload_n dX5_item_0 rfl rfl ?_
  refine zr_pVi zz_cX5 zz_M0 (ctX5_kindHere h0 _ hw) zy_X5_kindHere zm_X5_228 (by decide) rfl rfl (Nat.le_of_ble_eq_true rfl) dX5_item_1 (fun r1 hw => ?_)
  refine zr_istore_n [.ref 0, .int r1, .null] dX5_item_4 rfl (by decide) rfl rfl ?_
  refine zr_iload_n dX5_item_5 rfl rfl ?_
  refine zr_if_lt 17 dX5_item_6 (by decide) (fun q => ?_) (fun q => ?_)
  · have hw := hw.1 q
    refine zr_aload_n dX5_item_17 rfl rfl ?_
    refine zr_bipush dX5_item_18 zbk_112 ?_
    refine zr_bipush dX5_item_20 zbk_117 ?_
    refine zr_bipush dX5_item_22 zbk_112 ?_
    refine zr_bipush dX5_item_24 zbk_105 ?_
    refine zr_bipush dX5_item_26 zbk_108 ?_
    refine zr_iconst dX5_item_28 zqk_0 ?_
    refine zr_iconst dX5_item_29 zqk_0 ?_
    refine zr_iconst dX5_item_30 zqk_0 ?_
    refine zr_iconst dX5_item_31 zqk_0 ?_
    refine zr_pVi zz_cX5 zz_M0 (ctX5_isWord (112 : Int32) (117 : Int32) (112 : Int32) (105 : Int32) (108 : Int32) (0 : Int32) (0 : Int32) (0 : Int32) (0 : Int32) h0 _ hw) zy_X5_isWord zm_X5_222 (by decide) rfl rfl (Nat.le_of_ble_eq_true rfl) dX5_item_32 (fun r2 hw => ?_)
    refine zr_if_eq 45 dX5_item_35 (by decide) (fun q => ?_) (fun q => ?_)
    · have hw := hw.1 q
      refine zr_aload_n dX5_item_45 rfl rfl ?_
      refine zr_bipush dX5_item_46 zbk_99 ?_
      refine zr_bipush dX5_item_48 zbk_111 ?_
      refine zr_bipush dX5_item_50 zbk_109 ?_
      refine zr_bipush dX5_item_52 zbk_109 ?_
      refine zr_bipush dX5_item_54 zbk_111 ?_
      refine zr_bipush dX5_item_56 zbk_110 ?_
      refine zr_iconst dX5_item_58 zqk_0 ?_
      refine zr_iconst dX5_item_59 zqk_0 ?_
      refine zr_iconst dX5_item_60 zqk_0 ?_
      refine zr_pVi zz_cX5 zz_M0 (ctX5_isWord (99 : Int32) (111 : Int32) (109 : Int32) (109 : Int32) (111 : Int32) (110 : Int32) (0 : Int32) (0 : Int32) (0 : Int32) h0 _ hw) zy_X5_isWord zm_X5_222 (by decide) rfl rfl (Nat.le_of_ble_eq_true rfl) dX5_item_61 (fun r3 hw => ?_)
      refine zr_if_eq 115 dX5_item_64 (by decide) (fun q => ?_) (fun q => ?_)
      · have hw := hw.1 q
        refine zr_aload_n dX5_item_115 rfl rfl ?_
        refine zr_aload_n dX5_item_116 rfl rfl ?_
        refine zr_bipush dX5_item_117 zbk_113 ?_
        refine zr_bipush dX5_item_119 zbk_117 ?_
        refine zr_bipush dX5_item_121 zbk_101 ?_
        refine zr_bipush dX5_item_123 zbk_115 ?_
        refine zr_bipush dX5_item_125 zbk_116 ?_
        refine zr_bipush dX5_item_127 zbk_105 ?_
        refine zr_bipush dX5_item_129 zbk_111 ?_
        refine zr_bipush dX5_item_131 zbk_110 ?_
        refine zr_iconst dX5_item_133 zqk_0 ?_
        refine zr_pVi zz_cX5 zz_M0 (ctX5_isWord (113 : Int32) (117 : Int32) (101 : Int32) (115 : Int32) (116 : Int32) (105 : Int32) (111 : Int32) (110 : Int32) (0 : Int32) h0 _ hw) zy_X5_isWord zm_X5_222 (by decide) rfl rfl (Nat.le_of_ble_eq_true rfl) dX5_item_134 (fun r4 hw => ?_)
        refine zr_callVv zz_cX5 zz_M0 (ctX5_needs r4 h0 _ hw) zy_X5_needs zm_X5_218 (by decide) rfl rfl (Nat.le_of_ble_eq_true rfl) dX5_item_137 (fun h5 hw => ?_)
        refine zr_aload_n dX5_item_140 rfl rfl ?_
        refine zr_iconst dX5_item_141 zqk_0 ?_
        refine zr_bipush dX5_item_142 zbk_7 ?_
        refine zr_callVv zz_cX5 zz_M0 (ctX5_number (0 : Int32) (7 : Int32) h5 _ hw) zy_X5_number zm_X5_226 (by decide) rfl rfl (Nat.le_of_ble_eq_true rfl) dX5_item_144 (fun h6 hw => ?_)
        refine zr_aload_n dX5_item_147 rfl rfl ?_
        refine zr_getI zz_cX5 zz_M0 10 (by decide) rfl zf_X5_215 dX5_item_148 ?_
        refine zr_istore_n [.ref 0, .int r1, .int (h6 0 10)] dX5_item_151 rfl (by decide) rfl rfl ?_
        refine zr_aload_n dX5_item_152 rfl rfl ?_
        refine zr_aload_n dX5_item_153 rfl rfl ?_
        refine zr_bipush dX5_item_154 zbk_119 ?_
        refine zr_bipush dX5_item_156 zbk_111 ?_
        refine zr_bipush dX5_item_158 zbk_114 ?_
        refine zr_bipush dX5_item_160 zbk_116 ?_
        refine zr_bipush dX5_item_162 zbk_104 ?_
        refine zr_iconst dX5_item_164 zqk_0 ?_
        refine zr_iconst dX5_item_165 zqk_0 ?_
        refine zr_iconst dX5_item_166 zqk_0 ?_
        refine zr_iconst dX5_item_167 zqk_0 ?_
        refine zr_pVi zz_cX5 zz_M0 (ctX5_isWord (119 : Int32) (111 : Int32) (114 : Int32) (116 : Int32) (104 : Int32) (0 : Int32) (0 : Int32) (0 : Int32) (0 : Int32) h6 _ hw) zy_X5_isWord zm_X5_222 (by decide) rfl rfl (Nat.le_of_ble_eq_true rfl) dX5_item_168 (fun r7 hw => ?_)
        refine zr_callVv zz_cX5 zz_M0 (ctX5_needs r7 h6 _ hw) zy_X5_needs zm_X5_218 (by decide) rfl rfl (Nat.le_of_ble_eq_true rfl) dX5_item_171 (fun h8 hw => ?_)
        refine zr_aload_n dX5_item_174 rfl rfl ?_
        refine zr_iconst dX5_item_175 zqk_0 ?_
        refine zr_bipush dX5_item_176 zbk_40 ?_
        refine zr_callVv zz_cX5 zz_M0 (ctX5_number (0 : Int32) (40 : Int32) h8 _ hw) zy_X5_number zm_X5_226 (by decide) rfl rfl (Nat.le_of_ble_eq_true rfl) dX5_item_178 (fun h9 hw => ?_)
        refine zr_aload_n dX5_item_181 rfl rfl ?_
        refine zr_getI zz_cX5 zz_M0 11 (by decide) rfl zf_X5_204 dX5_item_182 ?_
        refine zr_if_ne 197 dX5_item_185 (by decide) (fun q => ?_) (fun q => ?_)
        · have hw := hw.1 q
          exact zr_vret rfl dX5_item_197 hw
        · have hw := hw.2 q
          refine zr_aload_n dX5_item_188 rfl rfl ?_
          refine zr_iload_n dX5_item_189 rfl rfl ?_
          refine zr_aload_n dX5_item_190 rfl rfl ?_
          refine zr_getI zz_cX5 zz_M0 10 (by decide) rfl zf_X5_215 dX5_item_191 ?_
          refine zr_callVv zz_cX5 zz_M0 (ctX5_worths (h6 0 10) (h9 0 10) h9 _ hw) zy_X5_worths zm_X5_63 (by decide) rfl rfl (Nat.le_of_ble_eq_true rfl) dX5_item_194 (fun h10 hw => ?_)
          exact zr_vret rfl dX5_item_197 hw
      · have hw := hw.2 q
        refine zr_aload_n dX5_item_67 rfl rfl ?_
        refine zr_iconst dX5_item_68 zqk_1 ?_
        refine zr_callVv zz_cX5 zz_M0 (ctX5_needs (1 : Int32) h0 _ hw) zy_X5_needs zm_X5_218 (by decide) rfl rfl (Nat.le_of_ble_eq_true rfl) dX5_item_69 (fun h11 hw => ?_)
        refine zr_aload_n dX5_item_72 rfl rfl ?_
        refine zr_iconst dX5_item_73 zqk_0 ?_
        refine zr_bipush dX5_item_74 zbk_7 ?_
        refine zr_callVv zz_cX5 zz_M0 (ctX5_number (0 : Int32) (7 : Int32) h11 _ hw) zy_X5_number zm_X5_226 (by decide) rfl rfl (Nat.le_of_ble_eq_true rfl) dX5_item_76 (fun h12 hw => ?_)
        refine zr_aload_n dX5_item_79 rfl rfl ?_
        refine zr_getI zz_cX5 zz_M0 10 (by decide) rfl zf_X5_215 dX5_item_80 ?_
        refine zr_istore_n [.ref 0, .int r1, .int (h12 0 10)] dX5_item_83 rfl (by decide) rfl rfl ?_
        refine zr_aload_n dX5_item_84 rfl rfl ?_
        refine zr_iconst dX5_item_85 zqk_0 ?_
        refine zr_sipush dX5_item_86 zhk_400 ?_
        refine zr_callVv zz_cX5 zz_M0 (ctX5_number (0 : Int32) (400 : Int32) h12 _ hw) zy_X5_number zm_X5_226 (by decide) rfl rfl (Nat.le_of_ble_eq_true rfl) dX5_item_89 (fun h13 hw => ?_)
        refine zr_aload_n dX5_item_92 rfl rfl ?_
        refine zr_getI zz_cX5 zz_M0 11 (by decide) rfl zf_X5_204 dX5_item_93 ?_
        refine zr_if_ne 112 dX5_item_96 (by decide) (fun q => ?_) (fun q => ?_)
        · have hw := hw.1 q
          refine zr_goto 197 dX5_item_112 (by decide) ?_
          exact zr_vret rfl dX5_item_197 hw
        · have hw := hw.2 q
          refine zr_aload_n dX5_item_99 rfl rfl ?_
          refine zr_getR zz_cX5 zz_M0 0 (by decide) rfl zf_X5_7 dX5_item_100 ?_
          refine zr_bipush dX5_item_103 zbk_8 ?_
          refine zr_iload_n dX5_item_105 rfl rfl ?_
          refine zr_iadd dX5_item_106 ?_
          refine zr_aload_n dX5_item_107 rfl rfl ?_
          refine zr_getI zz_cX5 zz_M0 10 (by decide) rfl zf_X5_215 dX5_item_108 ?_
          obtain ⟨hi, hw⟩ := hw
          refine zr_iast zz_M1 hi rfl dX5_item_111 hw (fun h14 hw => ?_)
          refine zr_goto 197 dX5_item_112 (by decide) ?_
          exact zr_vret rfl dX5_item_197 hw
    · have hw := hw.2 q
      refine zr_aload_n dX5_item_38 rfl rfl ?_
      refine zr_callVv zz_cX5 zz_M0 (ctX5_pupilItem h0 _ hw) zy_X5_pupilItem zm_X5_234 (by decide) rfl rfl (Nat.le_of_ble_eq_true rfl) dX5_item_39 (fun h15 hw => ?_)
      refine zr_goto 197 dX5_item_42 (by decide) ?_
      exact zr_vret rfl dX5_item_197 hw
  · have hw := hw.2 q
    refine zr_aload_n dX5_item_9 rfl rfl ?_
    refine zr_iload_n dX5_item_10 rfl rfl ?_
    refine zr_callVv zz_cX5 zz_M0 (ctX5_curveItem r1 h0 _ hw) zy_X5_curveItem zm_X5_231 (by decide) rfl rfl (Nat.le_of_ble_eq_true rfl) dX5_item_11 (fun h16 hw => ?_)
    refine zr_goto 197 dX5_item_14 (by decide) ?_
    exact zr_vret rfl dX5_item_197 hw
def wX5_text_j74 (post : Int32 → zz_H → Prop) (x6 : Int32) (h7 : zz_H) : Prop :=
  zz_sto h7 0 (upd (h7 0) 7 (0 : Int32)) (fun h9 => (((h9 0 11) = 0) → (post x6 h9)) ∧ ((¬ (h9 0 11) = 0) → (wX5_putsBack h9 (fun _ h10 => post (((-1) : Int32) - (h10 0 8)) h10))))
def wX5_text_b24 (post : Int32 → zz_H → Prop) (K8 : Int32 × zz_H → Prop) (x6 : Int32) (h7 : zz_H) : Prop :=
  ((¬ (h7 0 11) = 0) → (wX5_text_j74 post x6 h7)) ∧ (((h7 0 11) = 0) → ((((h7 0 7) ≤ (h7 0 8)) → (wX5_text_j74 post x6 h7)) ∧ ((¬ (h7 0 7) ≤ (h7 0 8)) → (wX5_byteAt (h7 0 8) h7 (fun r11 => ((¬ r11 = (59 : Int32)) → (wX5_needs (0 : Int32) h7 (fun _ h12 => wX5_item h12 (fun _ h13 => K8 ((x6 + 1), h13))))) ∧ ((r11 = (59 : Int32)) → (wX5_needs (1 : Int32) h7 (fun _ h14 => wX5_item h14 (fun _ h15 => K8 ((x6 + 1), h15))))))))))
def wX5_text (h0 : zz_H) (post : Int32 → zz_H → Prop) : Prop :=
  wX5_puts h0 (fun _ h1 => zz_sto h1 0 (upd (h1 0) 9 (0 : Int32)) (fun h2 => zz_sto h2 0 (upd (h2 0) 11 (0 : Int32)) (fun h3 => wX5_token h3 (fun _ h4 => wX5_item h4 (fun _ h5 => ∃ t9, zz_lp (fun K (s : Int32 × zz_H) => wX5_text_b24 post K s.1 s.2) t9 ((1 : Int32), h5))))))
set_option maxRecDepth 20000 in
set_option maxHeartbeats 4000000 in
theorem ctX5_text (h0 : zz_H) (post : Int32 → zz_H → Prop) (hw : wX5_text h0 post) : zz_Ct zz_M 7 yX5_text cX5_text 2 (some .int) [.ref 0] h0 post := by
  refine zz_ct (L := [.ref 0, .null]) (by decide +kernel) (Nat.le_of_ble_eq_true rfl) (fun ad q hq => hq) ?_
  show zz_Go zz_M 7 cX5_text RX5 2 (some .int) post 0 [] [.ref 0, .null] h0
  unfold wX5_text at hw
  refine zr_aload_n dX5_text_0 rfl rfl ?_
  refine zr_callVv zz_cX5 zz_M0 (ctX5_puts h0 _ hw) zy_X5_puts zm_X5_146 (by decide) rfl rfl (Nat.le_of_ble_eq_true rfl) dX5_text_1 (fun h1 hw => ?_)
  refine zr_aload_n dX5_text_4 rfl rfl ?_
  refine zr_iconst dX5_text_5 zqk_0 ?_
  refine zr_putI zz_cX5 zz_M0 9 (by decide) rfl rfl rfl rfl rfl zf_X5_189 dX5_text_6 hw (fun h2 hw => ?_)
  refine zr_aload_n dX5_text_9 rfl rfl ?_
  refine zr_iconst dX5_text_10 zqk_0 ?_
  refine zr_putI zz_cX5 zz_M0 11 (by decide) rfl rfl rfl rfl rfl zf_X5_204 dX5_text_11 hw (fun h3 hw => ?_)
  refine zr_aload_n dX5_text_14 rfl rfl ?_
  refine zr_callVv zz_cX5 zz_M0 (ctX5_token h3 _ hw) zy_X5_token zm_X5_208 (by decide) rfl rfl (Nat.le_of_ble_eq_true rfl) dX5_text_15 (fun h4 hw => ?_)
  refine zr_iconst dX5_text_18 zqk_1 ?_
  refine zr_istore_n [.ref 0, .int (1 : Int32)] dX5_text_19 rfl (by decide) rfl rfl ?_
  refine zr_aload_n dX5_text_20 rfl rfl ?_
  refine zr_callVv zz_cX5 zz_M0 (ctX5_item h4 _ hw) zy_X5_item zm_X5_237 (by decide) rfl rfl (Nat.le_of_ble_eq_true rfl) dX5_text_21 (fun h5 hw => ?_)
  obtain ⟨t9, hw⟩ := hw
  have step24 : ∀ (K8 : Int32 × zz_H → Prop), (∀ (x6 : Int32) (h7 : zz_H), K8 (x6, h7) → zz_Go zz_M 7 cX5_text RX5 2 (some .int) post 24 [] [.ref 0, .int x6] h7) → ∀ (x6 : Int32) (h7 : zz_H), wX5_text_b24 post K8 x6 h7 → zz_Go zz_M 7 cX5_text RX5 2 (some .int) post 24 [] [.ref 0, .int x6] h7 := by
    intro K8 ih24 x6 h7 hw
    unfold wX5_text_b24 at hw
    refine zr_aload_n dX5_text_24 rfl rfl ?_
    refine zr_getI zz_cX5 zz_M0 11 (by decide) rfl zf_X5_204 dX5_text_25 ?_
    have j74 : wX5_text_j74 post x6 h7 → zz_Go zz_M 7 cX5_text RX5 2 (some .int) post 74 [] [.ref 0, .int x6] h7 := by
      intro hw
      unfold wX5_text_j74 at hw
      refine zr_aload_n dX5_text_74 rfl rfl ?_
      refine zr_iconst dX5_text_75 zqk_0 ?_
      refine zr_putI zz_cX5 zz_M0 7 (by decide) rfl rfl rfl rfl rfl zf_X5_177 dX5_text_76 hw (fun h9 hw => ?_)
      refine zr_aload_n dX5_text_79 rfl rfl ?_
      refine zr_getI zz_cX5 zz_M0 11 (by decide) rfl zf_X5_204 dX5_text_80 ?_
      refine zr_if_eq 97 dX5_text_83 (by decide) (fun q => ?_) (fun q => ?_)
      · have hw := hw.1 q
        refine zr_iload_n dX5_text_97 rfl rfl ?_
        exact zr_ret rfl rfl dX5_text_98 hw
      · have hw := hw.2 q
        refine zr_aload_n dX5_text_86 rfl rfl ?_
        refine zr_callVv zz_cX5 zz_M0 (ctX5_putsBack h9 _ hw) zy_X5_putsBack zm_X5_149 (by decide) rfl rfl (Nat.le_of_ble_eq_true rfl) dX5_text_87 (fun h10 hw => ?_)
        refine zr_iconst dX5_text_90 zqk_m1 ?_
        refine zr_aload_n dX5_text_91 rfl rfl ?_
        refine zr_getI zz_cX5 zz_M0 8 (by decide) rfl zf_X5_192 dX5_text_92 ?_
        refine zr_isub dX5_text_95 ?_
        exact zr_ret rfl rfl dX5_text_96 hw
    refine zr_if_ne 74 dX5_text_28 (by decide) (fun q => ?_) (fun q => ?_)
    · have hw := hw.1 q
      exact j74 hw
    · have hw := hw.2 q
      refine zr_aload_n dX5_text_31 rfl rfl ?_
      refine zr_getI zz_cX5 zz_M0 8 (by decide) rfl zf_X5_192 dX5_text_32 ?_
      refine zr_aload_n dX5_text_35 rfl rfl ?_
      refine zr_getI zz_cX5 zz_M0 7 (by decide) rfl zf_X5_177 dX5_text_36 ?_
      refine zr_icmp_ge 74 dX5_text_39 (by decide) (fun q => ?_) (fun q => ?_)
      · have hw := hw.1 q
        exact j74 hw
      · have hw := hw.2 q
        refine zr_aload_n dX5_text_42 rfl rfl ?_
        refine zr_aload_n dX5_text_43 rfl rfl ?_
        refine zr_aload_n dX5_text_44 rfl rfl ?_
        refine zr_getI zz_cX5 zz_M0 8 (by decide) rfl zf_X5_192 dX5_text_45 ?_
        refine zr_pVi zz_cX5 zz_M0 (ctX5_byteAt (h7 0 8) h7 _ hw) zy_X5_byteAt zm_X5_195 (by decide) rfl rfl (Nat.le_of_ble_eq_true rfl) dX5_text_48 (fun r11 hw => ?_)
        refine zr_bipush dX5_text_51 zbk_59 ?_
        refine zr_icmp_ne 60 dX5_text_53 (by decide) (fun q => ?_) (fun q => ?_)
        · have hw := hw.1 q
          refine zr_iconst dX5_text_60 zqk_0 ?_
          refine zr_callVv zz_cX5 zz_M0 (ctX5_needs (0 : Int32) h7 _ hw) zy_X5_needs zm_X5_218 (by decide) rfl rfl (Nat.le_of_ble_eq_true rfl) dX5_text_61 (fun h12 hw => ?_)
          refine zr_aload_n dX5_text_64 rfl rfl ?_
          refine zr_callVv zz_cX5 zz_M0 (ctX5_item h12 _ hw) zy_X5_item zm_X5_237 (by decide) rfl rfl (Nat.le_of_ble_eq_true rfl) dX5_text_65 (fun h13 hw => ?_)
          refine zr_iinc (x6 + 1) [.ref 0, .int (x6 + 1)] dX5_text_68 rfl (zok_1 _) (by decide) rfl rfl ?_
          refine zr_goto 24 dX5_text_71 (by decide) ?_
          exact ih24 _ _ hw
        · have hw := hw.2 q
          refine zr_iconst dX5_text_56 zqk_1 ?_
          refine zr_goto 61 dX5_text_57 (by decide) ?_
          refine zr_callVv zz_cX5 zz_M0 (ctX5_needs (1 : Int32) h7 _ hw) zy_X5_needs zm_X5_218 (by decide) rfl rfl (Nat.le_of_ble_eq_true rfl) dX5_text_61 (fun h14 hw => ?_)
          refine zr_aload_n dX5_text_64 rfl rfl ?_
          refine zr_callVv zz_cX5 zz_M0 (ctX5_item h14 _ hw) zy_X5_item zm_X5_237 (by decide) rfl rfl (Nat.le_of_ble_eq_true rfl) dX5_text_65 (fun h15 hw => ?_)
          refine zr_iinc (x6 + 1) [.ref 0, .int (x6 + 1)] dX5_text_68 rfl (zok_1 _) (by decide) rfl rfl ?_
          refine zr_goto 24 dX5_text_71 (by decide) ?_
          exact ih24 _ _ hw
  have key24 : ∀ (t9 : Nat) (x6 : Int32) (h7 : zz_H), zz_lp (fun K (s : Int32 × zz_H) => wX5_text_b24 post K s.1 s.2) t9 (x6, h7) → zz_Go zz_M 7 cX5_text RX5 2 (some .int) post 24 [] [.ref 0, .int x6] h7 := by
    intro t9
    induction t9 with
    | zero => intro x6 h7 hw; exact hw.elim
    | succ t9 ih => intro x6 h7 hw; exact step24 _ ih _ _ hw
  exact key24 t9 _ _ hw
