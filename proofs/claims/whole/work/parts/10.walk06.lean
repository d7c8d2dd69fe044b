def wX5_hold_j32 (p1 : Int32) (p2 : Int32) (h0 : zz_H) (post : Int32 → zz_H → Prop) : Prop :=
  vp_in ((235 : Int32) + p1) 245 ∧ zz_sto h0 1 (upd (h0 1) ((235 : Int32) + p1).toNatClampNeg p2) (fun h4 => post (1 : Int32) h4)
def wX5_hold (p1 : Int32) (p2 : Int32) (h0 : zz_H) (post : Int32 → zz_H → Prop) : Prop :=
  wX5_in (p1.toInt64) (0 : Int64) (9 : Int64) h0 (fun r1 => ((r1 = 0) → (wX5_finds ((-1000001) : Int32) h0 (fun r3 h2 => post r3 h2))) ∧ ((¬ r1 = 0) → (((p2 = ((-1) : Int32)) → (wX5_hold_j32 p1 p2 h0 post)) ∧ ((¬ p2 = ((-1) : Int32)) → (wX5_isCurve p2 h0 (fun r5 => ((¬ r5 = 0) → (wX5_hold_j32 p1 p2 h0 post)) ∧ ((r5 = 0) → (wX5_finds ((-1000001) : Int32) h0 (fun r7 h6 => post r7 h6)))))))))
set_option maxRecDepth 20000 in
set_option maxHeartbeats 4000000 in
theorem ctX5_hold (p1 : Int32) (p2 : Int32) (h0 : zz_H) (post : Int32 → zz_H → Prop) (hw : wX5_hold p1 p2 h0 post) : zz_Ct zz_M 2 yX5_hold cX5_hold 3 (some .int) [.ref 0, .int p1, .int p2] h0 post := by
  refine zz_ct (L := [.ref 0, .int p1, .int p2]) (by decide +kernel) (Nat.le_of_ble_eq_true rfl) (fun ad q hq => hq) ?_
  show zz_Go zz_M 2 cX5_hold RX5 3 (some .int) post 0 [] [.ref 0, .int p1, .int p2] h0
  unfold wX5_hold at hw
  refine zr_iload_n dX5_hold_0 rfl rfl ?_
  refine zr_i2l dX5_hold_1 ?_
  refine zr_lconst (v := 0) dX5_hold_2 (by decide) ?_
  refine zr_ldc2 zl_X5_82 dX5_hold_3 ?_
  refine zr_pSi (ctX5_in (p1.toInt64) (0 : Int64) (9 : Int64) h0 _ hw) zy_X5_in zm_X5_43 (by decide) rfl rfl (Nat.le_of_ble_eq_true rfl) dX5_hold_6 (fun r1 hw => ?_)
  refine zr_if_eq 25 dX5_hold_9 (by decide) (fun q => ?_) (fun q => ?_)
  · have hw := hw.1 q
    refine zr_aload_n dX5_hold_25 rfl rfl ?_
    refine zr_ldc zk_X5_40 dX5_hold_26 ?_
    refine zr_callVi zz_cX5 zz_M0 (ctX5_finds ((-1000001) : Int32) h0 _ hw) zy_X5_finds zm_X5_59 (by decide) rfl rfl (Nat.le_of_ble_eq_true rfl) dX5_hold_28 (fun r3 h2 hw => ?_)
    exact zr_ret rfl rfl dX5_hold_31 hw
  · have hw := hw.2 q
    refine zr_iload_n dX5_hold_12 rfl rfl ?_
    refine zr_iconst dX5_hold_13 zqk_m1 ?_
    have j32 : wX5_hold_j32 p1 p2 h0 post → zz_Go zz_M 2 cX5_hold RX5 3 (some .int) post 32 [] [.ref 0, .int p1, .int p2] h0 := by
      intro hw
      unfold wX5_hold_j32 at hw
      refine zr_aload_n dX5_hold_32 rfl rfl ?_
      refine zr_getR zz_cX5 zz_M0 0 (by decide) rfl zf_X5_7 dX5_hold_33 ?_
      refine zr_sipush dX5_hold_36 zhk_235 ?_
      refine zr_iload_n dX5_hold_39 rfl rfl ?_
      refine zr_iadd dX5_hold_40 ?_
      refine zr_iload_n dX5_hold_41 rfl rfl ?_
      obtain ⟨hi, hw⟩ := hw
      refine zr_iast zz_M1 hi rfl dX5_hold_42 hw (fun h4 hw => ?_)
      refine zr_iconst dX5_hold_43 zqk_1 ?_
      exact zr_ret rfl rfl dX5_hold_44 hw
    refine zr_icmp_eq 32 dX5_hold_14 (by decide) (fun q => ?_) (fun q => ?_)
    · have hw := hw.1 q
      exact j32 hw
    · have hw := hw.2 q
      refine zr_aload_n dX5_hold_17 rfl rfl ?_
      refine zr_iload_n dX5_hold_18 rfl rfl ?_
      refine zr_pVi zz_cX5 zz_M0 (ctX5_isCurve p2 h0 _ hw) zy_X5_isCurve zm_X5_114 (by decide) rfl rfl (Nat.le_of_ble_eq_true rfl) dX5_hold_19 (fun r5 hw => ?_)
      refine zr_if_ne 32 dX5_hold_22 (by decide) (fun q => ?_) (fun q => ?_)
      · have hw := hw.1 q
        exact j32 hw
      · have hw := hw.2 q
        refine zr_aload_n dX5_hold_25 rfl rfl ?_
        refine zr_ldc zk_X5_40 dX5_hold_26 ?_
        refine zr_callVi zz_cX5 zz_M0 (ctX5_finds ((-1000001) : Int32) h0 _ hw) zy_X5_finds zm_X5_59 (by decide) rfl rfl (Nat.le_of_ble_eq_true rfl) dX5_hold_28 (fun r7 h6 hw => ?_)
        exact zr_ret rfl rfl dX5_hold_31 hw
def wX5_as_j104 (p1 : Int32) (h0 : zz_H) (post : Int32 → zz_H → Prop) (y5 : Int32) : Prop :=
  ((y5 = 0) → (wX5_finds ((-1000003) : Int32) h0 (fun r7 h6 => post r7 h6))) ∧ ((¬ y5 = 0) → (post (h0 1 ((235 : Int32) + p1).toNatClampNeg) h0))
def wX5_as_j99 (p1 : Int32) (h0 : zz_H) (post : Int32 → zz_H → Prop) : Prop :=
  wX5_as_j104 p1 h0 post (1 : Int32)
def wX5_as_j103 (p1 : Int32) (h0 : zz_H) (post : Int32 → zz_H → Prop) : Prop :=
  wX5_as_j104 p1 h0 post (0 : Int32)
def wX5_as_j88 (p1 : Int32) (p2 : Int32) (h0 : zz_H) (post : Int32 → zz_H → Prop) : Prop :=
  ((¬ p2 = (2 : Int32)) → (wX5_as_j103 p1 h0 post)) ∧ ((p2 = (2 : Int32)) → (((¬ (h0 1 ((223 : Int32) + ((2 : Int32) * (h0 1 ((235 : Int32) + p1).toNatClampNeg))).toNatClampNeg) = (3 : Int32)) → (wX5_as_j103 p1 h0 post)) ∧ (((h0 1 ((223 : Int32) + ((2 : Int32) * (h0 1 ((235 : Int32) + p1).toNatClampNeg))).toNatClampNeg) = (3 : Int32)) → (wX5_as_j99 p1 h0 post))))
def wX5_as (p1 : Int32) (p2 : Int32) (h0 : zz_H) (post : Int32 → zz_H → Prop) : Prop :=
  wX5_in (p1.toInt64) (0 : Int64) (9 : Int64) h0 (fun r1 => ((r1 = 0) → (wX5_finds ((-1000001) : Int32) h0 (fun r3 h2 => post r3 h2))) ∧ ((¬ r1 = 0) → (wX5_in (p2.toInt64) (0 : Int64) (6 : Int64) h0 (fun r4 => ((¬ r4 = 0) → (vp_in ((235 : Int32) + p1) 245 ∧ (((0 ≤ (h0 1 ((235 : Int32) + p1).toNatClampNeg)) → (vp_in ((223 : Int32) + ((2 : Int32) * (h0 1 ((235 : Int32) + p1).toNatClampNeg))) 245 ∧ (((p2 = 0) → (wX5_as_j99 p1 h0 post)) ∧ ((¬ p2 = 0) → ((((h0 1 ((223 : Int32) + ((2 : Int32) * (h0 1 ((235 : Int32) + p1).toNatClampNeg))).toNatClampNeg) = p2) → (wX5_as_j99 p1 h0 post)) ∧ ((¬ (h0 1 ((223 : Int32) + ((2 : Int32) * (h0 1 ((235 : Int32) + p1).toNatClampNeg))).toNatClampNeg) = p2) → (((¬ p2 = (1 : Int32)) → (wX5_as_j88 p1 p2 h0 post)) ∧ ((p2 = (1 : Int32)) → ((((h0 1 ((223 : Int32) + ((2 : Int32) * (h0 1 ((235 : Int32) + p1).toNatClampNeg))).toNatClampNeg) = (5 : Int32)) → (wX5_as_j99 p1 h0 post)) ∧ ((¬ (h0 1 ((223 : Int32) + ((2 : Int32) * (h0 1 ((235 : Int32) + p1).toNatClampNeg))).toNatClampNeg) = (5 : Int32)) → (wX5_as_j88 p1 p2 h0 post))))))))))) ∧ ((¬ 0 ≤ (h0 1 ((235 : Int32) + p1).toNatClampNeg)) → (wX5_finds ((-1000006) : Int32) h0 (fun r9 h8 => post r9 h8)))))) ∧ ((r4 = 0) → (wX5_finds ((-1000001) : Int32) h0 (fun r11 h10 => post r11 h10)))))))
set_option maxRecDepth 20000 in
set_option maxHeartbeats 4000000 in
theorem ctX5_as (p1 : Int32) (p2 : Int32) (h0 : zz_H) (post : Int32 → zz_H → Prop) (hw : wX5_as p1 p2 h0 post) : zz_Ct zz_M 1 yX5_as cX5_as 6 (some .int) [.ref 0, .int p1, .int p2] h0 post := by
  refine zz_ct (L := [.ref 0, .int p1, .int p2, .null, .null, .null]) (by decide +kernel) (Nat.le_of_ble_eq_true rfl) (fun ad q hq => hq) ?_
  show zz_Go zz_M 1 cX5_as RX5 6 (some .int) post 0 [] [.ref 0, .int p1, .int p2, .null, .null, .null] h0
  unfold wX5_as at hw
  refine zr_iload_n dX5_as_0 rfl rfl ?_
  refine zr_i2l dX5_as_1 ?_
  refine zr_lconst (v := 0) dX5_as_2 (by decide) ?_
  refine zr_ldc2 zl_X5_82 dX5_as_3 ?_
  refine zr_pSi (ctX5_in (p1.toInt64) (0 : Int64) (9 : Int64) h0 _ hw) zy_X5_in zm_X5_43 (by decide) rfl rfl (Nat.le_of_ble_eq_true rfl) dX5_as_6 (fun r1 hw => ?_)
  refine zr_if_eq 24 dX5_as_9 (by decide) (fun q => ?_) (fun q => ?_)
  · have hw := hw.1 q
    refine zr_aload_n dX5_as_24 rfl rfl ?_
    refine zr_ldc zk_X5_40 dX5_as_25 ?_
    refine zr_callVi zz_cX5 zz_M0 (ctX5_finds ((-1000001) : Int32) h0 _ hw) zy_X5_finds zm_X5_59 (by decide) rfl rfl (Nat.le_of_ble_eq_true rfl) dX5_as_27 (fun r3 h2 hw => ?_)
    exact zr_ret rfl rfl dX5_as_30 hw
  · have hw := hw.2 q
    refine zr_iload_n dX5_as_12 rfl rfl ?_
    refine zr_i2l dX5_as_13 ?_
    refine zr_lconst (v := 0) dX5_as_14 (by decide) ?_
    refine zr_ldc2 zl_X5_107 dX5_as_15 ?_
    refine zr_pSi (ctX5_in (p2.toInt64) (0 : Int64) (6 : Int64) h0 _ hw) zy_X5_in zm_X5_43 (by decide) rfl rfl (Nat.le_of_ble_eq_true rfl) dX5_as_18 (fun r4 hw => ?_)
    refine zr_if_ne 31 dX5_as_21 (by decide) (fun q => ?_) (fun q => ?_)
    · have hw := hw.1 q
      refine zr_aload_n dX5_as_31 rfl rfl ?_
      refine zr_getR zz_cX5 zz_M0 0 (by decide) rfl zf_X5_7 dX5_as_32 ?_
      refine zr_sipush dX5_as_35 zhk_235 ?_
      refine zr_iload_n dX5_as_38 rfl rfl ?_
      refine zr_iadd dX5_as_39 ?_
      obtain ⟨hi, hw⟩ := hw
      refine zr_iald zz_M1 hi rfl dX5_as_40 ?_
      refine zr_istore_n [.ref 0, .int p1, .int p2, .int (h0 1 ((235 : Int32) + p1).toNatClampNeg), .null, .null] dX5_as_41 rfl (by decide) rfl rfl ?_
      refine zr_iload_n dX5_as_42 rfl rfl ?_
      refine zr_if_ge 53 dX5_as_43 (by decide) (fun q => ?_) (fun q => ?_)
      · have hw := hw.1 q
        refine zr_aload_n dX5_as_53 rfl rfl ?_
        refine zr_getR zz_cX5 zz_M0 0 (by decide) rfl zf_X5_7 dX5_as_54 ?_
        refine zr_sipush dX5_as_57 zhk_223 ?_
        refine zr_iconst dX5_as_60 zqk_2 ?_
        refine zr_iload_n dX5_as_61 rfl rfl ?_
        refine zr_imul dX5_as_62 ?_
        refine zr_iadd dX5_as_63 ?_
        obtain ⟨hi, hw⟩ := hw
        refine zr_iald zz_M1 hi rfl dX5_as_64 ?_
        refine zr_istore [.ref 0, .int p1, .int p2, .int (h0 1 ((235 : Int32) + p1).toNatClampNeg), .int (h0 1 ((223 : Int32) + ((2 : Int32) * (h0 1 ((235 : Int32) + p1).toNatClampNeg))).toNatClampNeg), .null] dX5_as_65 (by decide) rfl rfl ?_
        refine zr_iload_n dX5_as_67 rfl rfl ?_
        have j104 : ∀ (y5 : Int32), wX5_as_j104 p1 h0 post y5 → zz_Go zz_M 1 cX5_as RX5 6 (some .int) post 104 [.int y5] [.ref 0, .null, .null, .int (h0 1 ((235 : Int32) + p1).toNatClampNeg), .null, .null] h0 := by
          intro y5 hw
          unfold wX5_as_j104 at hw
          refine zr_istore [.ref 0, .null, .null, .int (h0 1 ((235 : Int32) + p1).toNatClampNeg), .null, .int y5] dX5_as_104 (by decide) rfl rfl ?_
          refine zr_iload dX5_as_106 rfl ?_
          refine zr_if_eq 115 dX5_as_108 (by decide) (fun q => ?_) (fun q => ?_)
          · have hw := hw.1 q
            refine zr_aload_n dX5_as_115 rfl rfl ?_
            refine zr_ldc zk_X5_241 dX5_as_116 ?_
            refine zr_callVi zz_cX5 zz_M0 (ctX5_finds ((-1000003) : Int32) h0 _ hw) zy_X5_finds zm_X5_59 (by decide) rfl rfl (Nat.le_of_ble_eq_true rfl) dX5_as_118 (fun r7 h6 hw => ?_)
            exact zr_ret rfl rfl dX5_as_121 hw
          · have hw := hw.2 q
            refine zr_iload_n dX5_as_111 rfl rfl ?_
            refine zr_goto 121 dX5_as_112 (by decide) ?_
            exact zr_ret rfl rfl dX5_as_121 hw
        have j99 : wX5_as_j99 p1 h0 post → zz_Go zz_M 1 cX5_as RX5 6 (some .int) post 99 [] [.ref 0, .null, .null, .int (h0 1 ((235 : Int32) + p1).toNatClampNeg), .null, .null] h0 := by
          intro hw
          unfold wX5_as_j99 at hw
          refine zr_iconst dX5_as_99 zqk_1 ?_
          refine zr_goto 104 dX5_as_100 (by decide) ?_
          exact j104 _ hw
        refine zr_if_eq 99 dX5_as_68 (by decide) (fun q => ?_) (fun q => ?_)
        · have hw := hw.1 q
          refine zr_sub [.ref 0, .null, .null, .int (h0 1 ((235 : Int32) + p1).toNatClampNeg), .null, .null] ⟨Or.inr rfl, ⟨Or.inl rfl, ⟨Or.inl rfl, ⟨Or.inr rfl, ⟨Or.inl rfl, ⟨Or.inl rfl, trivial⟩⟩⟩⟩⟩⟩ ?_
          exact j99 hw
        · have hw := hw.2 q
          refine zr_iload dX5_as_71 rfl ?_
          refine zr_iload_n dX5_as_73 rfl rfl ?_
          refine zr_icmp_eq 99 dX5_as_74 (by decide) (fun q => ?_) (fun q => ?_)
          · have hw := hw.1 q
            refine zr_sub [.ref 0, .null, .null, .int (h0 1 ((235 : Int32) + p1).toNatClampNeg), .null, .null] ⟨Or.inr rfl, ⟨Or.inl rfl, ⟨Or.inl rfl, ⟨Or.inr rfl, ⟨Or.inl rfl, ⟨Or.inl rfl, trivial⟩⟩⟩⟩⟩⟩ ?_
            exact j99 hw
          · have hw := hw.2 q
            refine zr_iload_n dX5_as_77 rfl rfl ?_
            refine zr_iconst dX5_as_78 zqk_1 ?_
            have j88 : wX5_as_j88 p1 p2 h0 post → zz_Go zz_M 1 cX5_as RX5 6 (some .int) post 88 [] [.ref 0, .null, .int p2, .int (h0 1 ((235 : Int32) + p1).toNatClampNeg), .int (h0 1 ((223 : Int32) + ((2 : Int32) * (h0 1 ((235 : Int32) + p1).toNatClampNeg))).toNatClampNeg), .null] h0 := by
              intro hw
              unfold wX5_as_j88 at hw
              refine zr_iload_n dX5_as_88 rfl rfl ?_
              refine zr_iconst dX5_as_89 zqk_2 ?_
              have j103 : wX5_as_j103 p1 h0 post → zz_Go zz_M 1 cX5_as RX5 6 (some .int) post 103 [] [.ref 0, .null, .null, .int (h0 1 ((235 : Int32) + p1).toNatClampNeg), .null, .null] h0 := by
                intro hw
                unfold wX5_as_j103 at hw
                refine zr_iconst dX5_as_103 zqk_0 ?_
                exact j104 _ hw
              refine zr_icmp_ne 103 dX5_as_90 (by decide) (fun q => ?_) (fun q => ?_)
              · have hw := hw.1 q
                refine zr_sub [.ref 0, .null, .null, .int (h0 1 ((235 : Int32) + p1).toNatClampNeg), .null, .null] ⟨Or.inr rfl, ⟨Or.inl rfl, ⟨Or.inl rfl, ⟨Or.inr rfl, ⟨Or.inl rfl, ⟨Or.inl rfl, trivial⟩⟩⟩⟩⟩⟩ ?_
                exact j103 hw
              · have hw := hw.2 q
                refine zr_iload dX5_as_93 rfl ?_
                refine zr_iconst dX5_as_95 zqk_3 ?_
                refine zr_icmp_ne 103 dX5_as_96 (by decide) (fun q => ?_) (fun q => ?_)
                · have hw := hw.1 q
                  refine zr_sub [.ref 0, .null, .null, .int (h0 1 ((235 : Int32) + p1).toNatClampNeg), .null, .null] ⟨Or.inr rfl, ⟨Or.inl rfl, ⟨Or.inl rfl, ⟨Or.inr rfl, ⟨Or.inl rfl, ⟨Or.inl rfl, trivial⟩⟩⟩⟩⟩⟩ ?_
                  exact j103 hw
                · have hw := hw.2 q
                  refine zr_sub [.ref 0, .null, .null, .int (h0 1 ((235 : Int32) + p1).toNatClampNeg), .null, .null] ⟨Or.inr rfl, ⟨Or.inl rfl, ⟨Or.inl rfl, ⟨Or.inr rfl, ⟨Or.inl rfl, ⟨Or.inl rfl, trivial⟩⟩⟩⟩⟩⟩ ?_
                  exact j99 hw
            refine zr_icmp_ne 88 dX5_as_79 (by decide) (fun q => ?_) (fun q => ?_)
            · have hw := hw.1 q
              refine zr_sub [.ref 0, .null, .int p2, .int (h0 1 ((235 : Int32) + p1).toNatClampNeg), .int (h0 1 ((223 : Int32) + ((2 : Int32) * (h0 1 ((235 : Int32) + p1).toNatClampNeg))).toNatClampNeg), .null] ⟨Or.inr rfl, ⟨Or.inl rfl, ⟨Or.inr rfl, ⟨Or.inr rfl, ⟨Or.inr rfl, ⟨Or.inl rfl, trivial⟩⟩⟩⟩⟩⟩ ?_
              exact j88 hw
            · have hw := hw.2 q
              refine zr_iload dX5_as_82 rfl ?_
              refine zr_iconst dX5_as_84 zqk_5 ?_
              refine zr_icmp_eq 99 dX5_as_85 (by decide) (fun q => ?_) (fun q => ?_)
              · have hw := hw.1 q
                refine zr_sub [.ref 0, .null, .null, .int (h0 1 ((235 : Int32) + p1).toNatClampNeg), .null, .null] ⟨Or.inr rfl, ⟨Or.inl rfl, ⟨Or.inl rfl, ⟨Or.inr rfl, ⟨Or.inl rfl, ⟨Or.inl rfl, trivial⟩⟩⟩⟩⟩⟩ ?_
                exact j99 hw
              · have hw := hw.2 q
                refine zr_sub [.ref 0, .null, .int p2, .int (h0 1 ((235 : Int32) + p1).toNatClampNeg), .int (h0 1 ((223 : Int32) + ((2 : Int32) * (h0 1 ((235 : Int32) + p1).toNatClampNeg))).toNatClampNeg), .null] ⟨Or.inr rfl, ⟨Or.inl rfl, ⟨Or.inr rfl, ⟨Or.inr rfl, ⟨Or.inr rfl, ⟨Or.inl rfl, trivial⟩⟩⟩⟩⟩⟩ ?_
                exact j88 hw
      · have hw := hw.2 q
        refine zr_aload_n dX5_as_46 rfl rfl ?_
        refine zr_ldc zk_X5_240 dX5_as_47 ?_
        refine zr_callVi zz_cX5 zz_M0 (ctX5_finds ((-1000006) : Int32) h0 _ hw) zy_X5_finds zm_X5_59 (by decide) rfl rfl (Nat.le_of_ble_eq_true rfl) dX5_as_49 (fun r9 h8 hw => ?_)
        exact zr_ret rfl rfl dX5_as_52 hw
    · have hw := hw.2 q
      refine zr_aload_n dX5_as_24 rfl rfl ?_
      refine zr_ldc zk_X5_40 dX5_as_25 ?_
      refine zr_callVi zz_cX5 zz_M0 (ctX5_finds ((-1000001) : Int32) h0 _ hw) zy_X5_finds zm_X5_59 (by decide) rfl rfl (Nat.le_of_ble_eq_true rfl) dX5_as_27 (fun r11 h10 hw => ?_)
      exact zr_ret rfl rfl dX5_as_30 hw
def wX5_isOne (p1 : Int32) (h0 : zz_H) (post : Int32 → Prop) : Prop :=
  wX5_in (p1.toInt64) (0 : Int64) (3 : Int64) h0 (fun r1 => zz_z r1 ∧ post r1)
set_option maxRecDepth 20000 in
set_option maxHeartbeats 4000000 in
theorem ctX5_isOne (p1 : Int32) (h0 : zz_H) (post : Int32 → Prop) (hw : wX5_isOne p1 h0 post) : zz_Ct zz_M 1 yX5_isOne cX5_isOne 1 (some .boolean) [.int p1] h0 (zz_pu h0 post) := by
  refine zz_ct (L := [.int p1]) (by decide +kernel) (Nat.le_of_ble_eq_true rfl) (fun ad q hq => hq) ?_
  show zz_Go zz_M 1 cX5_isOne RX5 1 (some .boolean) (zz_pu h0 post) 0 [] [.int p1] h0
  unfold wX5_isOne at hw
  refine zr_iload_n dX5_isOne_0 rfl rfl ?_
  refine zr_i2l dX5_isOne_1 ?_
  refine zr_lconst (v := 0) dX5_isOne_2 (by decide) ?_
  refine zr_ldc2 zl_X5_69 dX5_isOne_3 ?_
  refine zr_pSi (ctX5_in (p1.toInt64) (0 : Int64) (3 : Int64) h0 _ hw) zy_X5_in zm_X5_43 (by decide) rfl rfl (Nat.le_of_ble_eq_true rfl) dX5_isOne_6 (fun r1 hw => ?_)
  exact zr_ret rfl hw.1 dX5_isOne_9 ⟨rfl, hw.2⟩
def wX5_sheet_b85 (p1 : Int32) (post : Int32 → zz_H → Prop) (K9 : Int32 × zz_H → Prop) (x7 : Int32) (h8 : zz_H) : Prop :=
  (((40 : Int32) ≤ x7) → (vp_in p1 4 ∧ (post (h8 8 p1.toNatClampNeg) h8))) ∧ ((¬ (40 : Int32) ≤ x7) → (vp_in (((40 : Int32) * p1) + x7) 160 ∧ zz_sto h8 9 (upd (h8 9) (((40 : Int32) * p1) + x7).toNatClampNeg (0 : Int32)) (fun h10 => K9 ((x7 + 1), h10))))
def wX5_sheet_j81 (p1 : Int32) (post : Int32 → zz_H → Prop) (h4 : zz_H) (y5 : Int32) : Prop :=
  vp_in p1 4 ∧ zz_sto h4 8 (upd (h4 8) p1.toNatClampNeg y5) (fun h6 => ∃ t9, zz_lp (fun K (s : Int32 × zz_H) => wX5_sheet_b85 p1 post K s.1 s.2) t9 ((0 : Int32), h6))
def wX5_sheet_j36 (p1 : Int32) (p2 : Int32) (p3 : Int32) (h0 : zz_H) (post : Int32 → zz_H → Prop) : Prop :=
  ((0 ≤ p3) → (((p3 ≤ (40 : Int32)) → (vp_in p1 4 ∧ zz_sto h0 7 (upd (h0 7) p1.toNatClampNeg p2) (fun h4 => ((¬ p2 = 0) → (wX5_sheet_j81 p1 post h4 p3)) ∧ ((p2 = 0) → (wX5_sheet_j81 p1 post h4 (0 : Int32)))))) ∧ ((¬ p3 ≤ (40 : Int32)) → (wX5_finds ((-1000001) : Int32) h0 (fun r12 h11 => post r12 h11))))) ∧ ((¬ 0 ≤ p3) → (wX5_finds ((-1000007) : Int32) h0 (fun r14 h13 => post r14 h13)))
def wX5_sheet (p1 : Int32) (p2 : Int32) (p3 : Int32) (h0 : zz_H) (post : Int32 → zz_H → Prop) : Prop :=
  wX5_isOne p1 h0 (fun r1 => ((r1 = 0) → (wX5_finds ((-1000001) : Int32) h0 (fun r3 h2 => post r3 h2))) ∧ ((¬ r1 = 0) → (((p2 = 0) → (wX5_sheet_j36 p1 p2 p3 h0 post)) ∧ ((¬ p2 = 0) → (((p2 = (8 : Int32)) → (wX5_sheet_j36 p1 p2 p3 h0 post)) ∧ ((¬ p2 = (8 : Int32)) → (((p2 = (16 : Int32)) → (wX5_sheet_j36 p1 p2 p3 h0 post)) ∧ ((¬ p2 = (16 : Int32)) → (((p2 = (32 : Int32)) → (wX5_sheet_j36 p1 p2 p3 h0 post)) ∧ ((¬ p2 = (32 : Int32)) → (wX5_finds ((-1000001) : Int32) h0 (fun r16 h15 => post r16 h15))))))))))))
set_option maxRecDepth 20000 in
set_option maxHeartbeats 4000000 in
theorem ctX5_sheet (p1 : Int32) (p2 : Int32) (p3 : Int32) (h0 : zz_H) (post : Int32 → zz_H → Prop) (hw : wX5_sheet p1 p2 p3 h0 post) : zz_Ct zz_M 2 yX5_sheet cX5_sheet 5 (some .int) [.ref 0, .int p1, .int p2, .int p3] h0 post := by
  refine zz_ct (L := [.ref 0, .int p1, .int p2, .int p3, .null]) (by decide +kernel) (Nat.le_of_ble_eq_true rfl) (fun ad q hq => hq) ?_
  show zz_Go zz_M 2 cX5_sheet RX5 5 (some .int) post 0 [] [.ref 0, .int p1, .int p2, .int p3, .null] h0
  unfold wX5_sheet at hw
  refine zr_iload_n dX5_sheet_0 rfl rfl ?_
  refine zr_pSi (ctX5_isOne p1 h0 _ hw) zy_X5_isOne zm_X5_242 (by decide) rfl rfl (Nat.le_of_ble_eq_true rfl) dX5_sheet_1 (fun r1 hw => ?_)
  refine zr_if_eq 29 dX5_sheet_4 (by decide) (fun q => ?_) (fun q => ?_)
  · have hw := hw.1 q
    refine zr_aload_n dX5_sheet_29 rfl rfl ?_
    refine zr_ldc zk_X5_40 dX5_sheet_30 ?_
    refine zr_callVi zz_cX5 zz_M0 (ctX5_finds ((-1000001) : Int32) h0 _ hw) zy_X5_finds zm_X5_59 (by decide) rfl rfl (Nat.le_of_ble_eq_true rfl) dX5_sheet_32 (fun r3 h2 hw => ?_)
    exact zr_ret rfl rfl dX5_sheet_35 hw
  · have hw := hw.2 q
    refine zr_iload_n dX5_sheet_7 rfl rfl ?_
    have j36 : wX5_sheet_j36 p1 p2 p3 h0 post → zz_Go zz_M 2 cX5_sheet RX5 5 (some .int) post 36 [] [.ref 0, .int p1, .int p2, .int p3, .null] h0 := by
      intro hw
      unfold wX5_sheet_j36 at hw
      refine zr_iload_n dX5_sheet_36 rfl rfl ?_
      refine zr_if_ge 47 dX5_sheet_37 (by decide) (fun q => ?_) (fun q => ?_)
      · have hw := hw.1 q
        refine zr_iload_n dX5_sheet_47 rfl rfl ?_
        refine zr_bipush dX5_sheet_48 zbk_40 ?_
        refine zr_icmp_le 60 dX5_sheet_50 (by decide) (fun q => ?_) (fun q => ?_)
        · have hw := hw.1 q
          refine zr_aload_n dX5_sheet_60 rfl rfl ?_
          refine zr_getR zz_cX5 zz_M0 12 (by decide) rfl zf_X5_28 dX5_sheet_61 ?_
          refine zr_iload_n dX5_sheet_64 rfl rfl ?_
          refine zr_iload_n dX5_sheet_65 rfl rfl ?_
          obtain ⟨hi, hw⟩ := hw
          refine zr_iast zz_M7 hi rfl dX5_sheet_66 hw (fun h4 hw => ?_)
          refine zr_aload_n dX5_sheet_67 rfl rfl ?_
          refine zr_getR zz_cX5 zz_M0 13 (by decide) rfl zf_X5_31 dX5_sheet_68 ?_
          refine zr_iload_n dX5_sheet_71 rfl rfl ?_
          refine zr_iload_n dX5_sheet_72 rfl rfl ?_
          have j81 : ∀ (y5 : Int32), wX5_sheet_j81 p1 post h4 y5 → zz_Go zz_M 2 cX5_sheet RX5 5 (some .int) post 81 [.int y5, .int p1, .ref 8] [.ref 0, .int p1, .null, .null, .null] h4 := by
            intro y5 hw
            unfold wX5_sheet_j81 at hw
            obtain ⟨hi, hw⟩ := hw
            refine zr_iast zz_M8 hi rfl dX5_sheet_81 hw (fun h6 hw => ?_)
            refine zr_iconst dX5_sheet_82 zqk_0 ?_
            refine zr_istore [.ref 0, .int p1, .null, .null, .int (0 : Int32)] dX5_sheet_83 (by decide) rfl rfl ?_
            obtain ⟨t9, hw⟩ := hw
            have step85 : ∀ (K9 : Int32 × zz_H → Prop), (∀ (x7 : Int32) (h8 : zz_H), K9 (x7, h8) → zz_Go zz_M 2 cX5_sheet RX5 5 (some .int) post 85 [] [.ref 0, .int p1, .null, .null, .int x7] h8) → ∀ (x7 : Int32) (h8 : zz_H), wX5_sheet_b85 p1 post K9 x7 h8 → zz_Go zz_M 2 cX5_sheet RX5 5 (some .int) post 85 [] [.ref 0, .int p1, .null, .null, .int x7] h8 := by
              intro K9 ih85 x7 h8 hw
              unfold wX5_sheet_b85 at hw
              refine zr_iload dX5_sheet_85 rfl ?_
              refine zr_bipush dX5_sheet_87 zbk_40 ?_
              refine zr_icmp_ge 111 dX5_sheet_89 (by decide) (fun q => ?_) (fun q => ?_)
              · have hw := hw.1 q
                refine zr_aload_n dX5_sheet_111 rfl rfl ?_
                refine zr_getR zz_cX5 zz_M0 13 (by decide) rfl zf_X5_31 dX5_sheet_112 ?_
                refine zr_iload_n dX5_sheet_115 rfl rfl ?_
                obtain ⟨hi, hw⟩ := hw
                refine zr_iald zz_M8 hi rfl dX5_sheet_116 ?_
                exact zr_ret rfl rfl dX5_sheet_117 hw
              · have hw := hw.2 q
                refine zr_aload_n dX5_sheet_92 rfl rfl ?_
                refine zr_getR zz_cX5 zz_M0 14 (by decide) rfl zf_X5_34 dX5_sheet_93 ?_
                refine zr_bipush dX5_sheet_96 zbk_40 ?_
                refine zr_iload_n dX5_sheet_98 rfl rfl ?_
                refine zr_imul dX5_sheet_99 ?_
                refine zr_iload dX5_sheet_100 rfl ?_
                refine zr_iadd dX5_sheet_102 ?_
                refine zr_iconst dX5_sheet_103 zqk_0 ?_
                obtain ⟨hi, hw⟩ := hw
                refine zr_iast zz_M9 hi rfl dX5_sheet_104 hw (fun h10 hw => ?_)
                refine zr_iinc (x7 + 1) [.ref 0, .int p1, .null, .null, .int (x7 + 1)] dX5_sheet_105 rfl (zok_1 _) (by decide) rfl rfl ?_
                refine zr_goto 85 dX5_sheet_108 (by decide) ?_
                exact ih85 _ _ hw
            have key85 : ∀ (t9 : Nat) (x7 : Int32) (h8 : zz_H), zz_lp (fun K (s : Int32 × zz_H) => wX5_sheet_b85 p1 post K s.1 s.2) t9 (x7, h8) → zz_Go zz_M 2 cX5_sheet RX5 5 (some .int) post 85 [] [.ref 0, .int p1, .null, .null, .int x7] h8 := by
              intro t9
              induction t9 with
              | zero => intro x7 h8 hw; exact hw.elim
              | succ t9 ih => intro x7 h8 hw; exact step85 _ ih _ _ hw
            exact key85 t9 _ _ hw
          refine zr_if_ne 80 dX5_sheet_73 (by decide) (fun q => ?_) (fun q => ?_)
          · have hw := hw.1 q
            refine zr_iload_n dX5_sheet_80 rfl rfl ?_
            refine zr_sub [.ref 0, .int p1, .null, .null, .null] ⟨Or.inr rfl, ⟨Or.inr rfl, ⟨Or.inl rfl, ⟨Or.inl rfl, ⟨Or.inl rfl, trivial⟩⟩⟩⟩⟩ ?_
            exact j81 _ hw
          · have hw := hw.2 q
            refine zr_iconst dX5_sheet_76 zqk_0 ?_
            refine zr_goto 81 dX5_sheet_77 (by decide) ?_
            refine zr_sub [.ref 0, .int p1, .null, .null, .null] ⟨Or.inr rfl, ⟨Or.inr rfl, ⟨Or.inl rfl, ⟨Or.inl rfl, ⟨Or.inl rfl, trivial⟩⟩⟩⟩⟩ ?_
            exact j81 _ hw
        · have hw := hw.2 q
          refine zr_aload_n dX5_sheet_53 rfl rfl ?_
          refine zr_ldc zk_X5_40 dX5_sheet_54 ?_
          refine zr_callVi zz_cX5 zz_M0 (ctX5_finds ((-1000001) : Int32) h0 _ hw) zy_X5_finds zm_X5_59 (by decide) rfl rfl (Nat.le_of_ble_eq_true rfl) dX5_sheet_56 (fun r12 h11 hw => ?_)
          exact zr_ret rfl rfl dX5_sheet_59 hw
      · have hw := hw.2 q
        refine zr_aload_n dX5_sheet_40 rfl rfl ?_
        refine zr_ldc zk_X5_245 dX5_sheet_41 ?_
        refine zr_callVi zz_cX5 zz_M0 (ctX5_finds ((-1000007) : Int32) h0 _ hw) zy_X5_finds zm_X5_59 (by decide) rfl rfl (Nat.le_of_ble_eq_true rfl) dX5_sheet_43 (fun r14 h13 hw => ?_)
        exact zr_ret rfl rfl dX5_sheet_46 hw
    refine zr_if_eq 36 dX5_sheet_8 (by decide) (fun q => ?_) (fun q => ?_)
    · have hw := hw.1 q
      exact j36 hw
    · have hw := hw.2 q
      refine zr_iload_n dX5_sheet_11 rfl rfl ?_
      refine zr_bipush dX5_sheet_12 zbk_8 ?_
      refine zr_icmp_eq 36 dX5_sheet_14 (by decide) (fun q => ?_) (fun q => ?_)
      · have hw := hw.1 q
        exact j36 hw
      · have hw := hw.2 q
        refine zr_iload_n dX5_sheet_17 rfl rfl ?_
        refine zr_bipush dX5_sheet_18 zbk_16 ?_
        refine zr_icmp_eq 36 dX5_sheet_20 (by decide) (fun q => ?_) (fun q => ?_)
        · have hw := hw.1 q
          exact j36 hw
        · have hw := hw.2 q
          refine zr_iload_n dX5_sheet_23 rfl rfl ?_
          refine zr_bipush dX5_sheet_24 zbk_32 ?_
          refine zr_icmp_eq 36 dX5_sheet_26 (by decide) (fun q => ?_) (fun q => ?_)
          · have hw := hw.1 q
            exact j36 hw
          · have hw := hw.2 q
            refine zr_aload_n dX5_sheet_29 rfl rfl ?_
            refine zr_ldc zk_X5_40 dX5_sheet_30 ?_
            refine zr_callVi zz_cX5 zz_M0 (ctX5_finds ((-1000001) : Int32) h0 _ hw) zy_X5_finds zm_X5_59 (by decide) rfl rfl (Nat.le_of_ble_eq_true rfl) dX5_sheet_32 (fun r16 h15 hw => ?_)
            exact zr_ret rfl rfl dX5_sheet_35 hw
def wX5_narrowed (p1 : Int32) (p2 : Int32) (h0 : zz_H) (post : Int32 → Prop) : Prop :=
  ((¬ p1 = (8 : Int32)) → (((¬ p1 = (16 : Int32)) → (post p2)) ∧ ((p1 = (16 : Int32)) → (post (p2.toInt16.toInt32))))) ∧ ((p1 = (8 : Int32)) → (post (p2.toInt8.toInt32)))
set_option maxRecDepth 20000 in
set_option maxHeartbeats 4000000 in
theorem ctX5_narrowed (p1 : Int32) (p2 : Int32) (h0 : zz_H) (post : Int32 → Prop) (hw : wX5_narrowed p1 p2 h0 post) : zz_Ct zz_M 0 yX5_narrowed cX5_narrowed 2 (some .int) [.int p1, .int p2] h0 (zz_pu h0 post) := by
  refine zz_ct (L := [.int p1, .int p2]) (by decide +kernel) (Nat.le_of_ble_eq_true rfl) (fun ad q hq => hq) ?_
  show zz_Go zz_M 0 cX5_narrowed RX5 2 (some .int) (zz_pu h0 post) 0 [] [.int p1, .int p2] h0
  unfold wX5_narrowed at hw
  refine zr_iload_n dX5_narrowed_0 rfl rfl ?_
  refine zr_bipush dX5_narrowed_1 zbk_8 ?_
  refine zr_icmp_ne 11 dX5_narrowed_3 (by decide) (fun q => ?_) (fun q => ?_)
  · have hw := hw.1 q
    refine zr_iload_n dX5_narrowed_11 rfl rfl ?_
    refine zr_bipush dX5_narrowed_12 zbk_16 ?_
    refine zr_icmp_ne 22 dX5_narrowed_14 (by decide) (fun q => ?_) (fun q => ?_)
    · have hw := hw.1 q
      refine zr_iload_n dX5_narrowed_22 rfl rfl ?_
      exact zr_ret rfl rfl dX5_narrowed_23 ⟨rfl, hw⟩
    · have hw := hw.2 q
      refine zr_iload_n dX5_narrowed_17 rfl rfl ?_
      refine zr_i2s dX5_narrowed_18 ?_
      refine zr_goto 23 dX5_narrowed_19 (by decide) ?_
      exact zr_ret rfl rfl dX5_narrowed_23 ⟨rfl, hw⟩
  · have hw := hw.2 q
    refine zr_iload_n dX5_narrowed_6 rfl rfl ?_
    refine zr_i2b dX5_narrowed_7 ?_
    refine zr_goto 23 dX5_narrowed_8 (by decide) ?_
    exact zr_ret rfl rfl dX5_narrowed_23 ⟨rfl, hw⟩
def wX5_wrong (p1 : Int32) (h0 : zz_H) (post : Int32 → Prop) : Prop :=
  wX5_isOne p1 h0 (fun r1 => ((¬ r1 = 0) → (vp_in p1 4 ∧ (((¬ (h0 7 p1.toNatClampNeg) = 0) → (post (0 : Int32))) ∧ (((h0 7 p1.toNatClampNeg) = 0) → (post ((-1000006) : Int32)))))) ∧ ((r1 = 0) → (post ((-1000001) : Int32))))
set_option maxRecDepth 20000 in
set_option maxHeartbeats 4000000 in
theorem ctX5_wrong (p1 : Int32) (h0 : zz_H) (post : Int32 → Prop) (hw : wX5_wrong p1 h0 post) : zz_Ct zz_M 2 yX5_wrong cX5_wrong 2 (some .int) [.ref 0, .int p1] h0 (zz_pu h0 post) := by
  refine zz_ct (L := [.ref 0, .int p1]) (by decide +kernel) (Nat.le_of_ble_eq_true rfl) (fun ad q hq => hq) ?_
  show zz_Go zz_M 2 cX5_wrong RX5 2 (some .int) (zz_pu h0 post) 0 [] [.ref 0, .int p1] h0
  unfold wX5_wrong at hw
  refine zr_iload_n dX5_wrong_0 rfl rfl ?_
  refine zr_pSi (ctX5_isOne p1 h0 _ hw) zy_X5_isOne zm_X5_242 (by decide) rfl rfl (Nat.le_of_ble_eq_true rfl) dX5_wrong_1 (fun r1 hw => ?_)
  refine zr_if_ne 12 dX5_wrong_4 (by decide) (fun q => ?_) (fun q => ?_)
  · have hw := hw.1 q
    refine zr_aload_n dX5_wrong_12 rfl rfl ?_
    refine zr_getR zz_cX5 zz_M0 12 (by decide) rfl zf_X5_28 dX5_wrong_13 ?_
    refine zr_iload_n dX5_wrong_16 rfl rfl ?_
    obtain ⟨hi, hw⟩ := hw
    refine zr_iald zz_M7 hi rfl dX5_wrong_17 ?_
    refine zr_if_ne 26 dX5_wrong_18 (by decide) (fun q => ?_) (fun q => ?_)
    · have hw := hw.1 q
      refine zr_iconst dX5_wrong_26 zqk_0 ?_
      exact zr_ret rfl rfl dX5_wrong_27 ⟨rfl, hw⟩
    · have hw := hw.2 q
      refine zr_ldc zk_X5_240 dX5_wrong_21 ?_
      refine zr_goto 27 dX5_wrong_23 (by decide) ?_
      exact zr_ret rfl rfl dX5_wrong_27 ⟨rfl, hw⟩
  · have hw := hw.2 q
    refine zr_ldc zk_X5_40 dX5_wrong_7 ?_
    refine zr_goto 27 dX5_wrong_9 (by decide) ?_
    exact zr_ret rfl rfl dX5_wrong_27 ⟨rfl, hw⟩
def wX5_write (p1 : Int32) (p2 : Int32) (p3 : Int32) (h0 : zz_H) (post : Int32 → zz_H → Prop) : Prop :=
  wX5_wrong p1 h0 (fun r1 => ((r1 = 0) → (vp_in p1 4 ∧ (wX5_in (p2.toInt64) (0 : Int64) (((h0 8 p1.toNatClampNeg) - (1 : Int32)).toInt64) h0 (fun r2 => ((¬ r2 = 0) → (vp_in p1 4 ∧ (wX5_narrowed (h0 7 p1.toNatClampNeg) p3 h0 (fun r3 => vp_in (((40 : Int32) * p1) + p2) 160 ∧ zz_sto h0 9 (upd (h0 9) (((40 : Int32) * p1) + p2).toNatClampNeg r3) (fun h4 => post (1 : Int32) h4))))) ∧ ((r2 = 0) → (wX5_finds ((-1000001) : Int32) h0 (fun r6 h5 => post r6 h5))))))) ∧ ((¬ r1 = 0) → (wX5_finds r1 h0 (fun r8 h7 => post r8 h7))))
set_option maxRecDepth 20000 in
set_option maxHeartbeats 4000000 in
theorem ctX5_write (p1 : Int32) (p2 : Int32) (p3 : Int32) (h0 : zz_H) (post : Int32 → zz_H → Prop) (hw : wX5_write p1 p2 p3 h0 post) : zz_Ct zz_M 3 yX5_write cX5_write 5 (some .int) [.ref 0, .int p1, .int p2, .int p3] h0 post := by
  refine zz_ct (L := [.ref 0, .int p1, .int p2, .int p3, .null]) (by decide +kernel) (Nat.le_of_ble_eq_true rfl) (fun ad q hq => hq) ?_
  show zz_Go zz_M 3 cX5_write RX5 5 (some .int) post 0 [] [.ref 0, .int p1, .int p2, .int p3, .null] h0
  unfold wX5_write at hw
  refine zr_aload_n dX5_write_0 rfl rfl ?_
  refine zr_iload_n dX5_write_1 rfl rfl ?_
  refine zr_pVi zz_cX5 zz_M0 (ctX5_wrong p1 h0 _ hw) zy_X5_wrong zm_X5_246 (by decide) rfl rfl (Nat.le_of_ble_eq_true rfl) dX5_write_2 (fun r1 hw => ?_)
  refine zr_istore [.ref 0, .int p1, .int p2, .int p3, .int r1] dX5_write_5 (by decide) rfl rfl ?_
  refine zr_iload dX5_write_7 rfl ?_
  refine zr_if_eq 19 dX5_write_9 (by decide) (fun q => ?_) (fun q => ?_)
  · have hw := hw.1 q
    refine zr_iload_n dX5_write_19 rfl rfl ?_
    refine zr_i2l dX5_write_20 ?_
    refine zr_lconst (v := 0) dX5_write_21 (by decide) ?_
    refine zr_aload_n dX5_write_22 rfl rfl ?_
    refine zr_getR zz_cX5 zz_M0 13 (by decide) rfl zf_X5_31 dX5_write_23 ?_
    refine zr_iload_n dX5_write_26 rfl rfl ?_
    obtain ⟨hi, hw⟩ := hw
    refine zr_iald zz_M8 hi rfl dX5_write_27 ?_
    refine zr_iconst dX5_write_28 zqk_1 ?_
    refine zr_isub dX5_write_29 ?_
    refine zr_i2l dX5_write_30 ?_
    refine zr_pSi (ctX5_in (p2.toInt64) (0 : Int64) (((h0 8 p1.toNatClampNeg) - (1 : Int32)).toInt64) h0 _ hw) zy_X5_in zm_X5_43 (by decide) rfl rfl (Nat.le_of_ble_eq_true rfl) dX5_write_31 (fun r2 hw => ?_)
    refine zr_if_ne 44 dX5_write_34 (by decide) (fun q => ?_) (fun q => ?_)
    · have hw := hw.1 q
      refine zr_aload_n dX5_write_44 rfl rfl ?_
      refine zr_getR zz_cX5 zz_M0 14 (by decide) rfl zf_X5_34 dX5_write_45 ?_
      refine zr_bipush dX5_write_48 zbk_40 ?_
      refine zr_iload_n dX5_write_50 rfl rfl ?_
      refine zr_imul dX5_write_51 ?_
      refine zr_iload_n dX5_write_52 rfl rfl ?_
      refine zr_iadd dX5_write_53 ?_
      refine zr_aload_n dX5_write_54 rfl rfl ?_
      refine zr_getR zz_cX5 zz_M0 12 (by decide) rfl zf_X5_28 dX5_write_55 ?_
      refine zr_iload_n dX5_write_58 rfl rfl ?_
      obtain ⟨hi, hw⟩ := hw
      refine zr_iald zz_M7 hi rfl dX5_write_59 ?_
      refine zr_iload_n dX5_write_60 rfl rfl ?_
      refine zr_pSi (ctX5_narrowed (h0 7 p1.toNatClampNeg) p3 h0 _ hw) zy_X5_narrowed zm_X5_249 (by decide) rfl rfl (Nat.le_of_ble_eq_true rfl) dX5_write_61 (fun r3 hw => ?_)
      obtain ⟨hi, hw⟩ := hw
      refine zr_iast zz_M9 hi rfl dX5_write_64 hw (fun h4 hw => ?_)
      refine zr_iconst dX5_write_65 zqk_1 ?_
      exact zr_ret rfl rfl dX5_write_66 hw
    · have hw := hw.2 q
      refine zr_aload_n dX5_write_37 rfl rfl ?_
      refine zr_ldc zk_X5_40 dX5_write_38 ?_
      refine zr_callVi zz_cX5 zz_M0 (ctX5_finds ((-1000001) : Int32) h0 _ hw) zy_X5_finds zm_X5_59 (by decide) rfl rfl (Nat.le_of_ble_eq_true rfl) dX5_write_40 (fun r6 h5 hw => ?_)
      exact zr_ret rfl rfl dX5_write_43 hw
  · have hw := hw.2 q
    refine zr_aload_n dX5_write_12 rfl rfl ?_
    refine zr_iload dX5_write_13 rfl ?_
    refine zr_callVi zz_cX5 zz_M0 (ctX5_finds r1 h0 _ hw) zy_X5_finds zm_X5_59 (by decide) rfl rfl (Nat.le_of_ble_eq_true rfl) dX5_write_15 (fun r8 h7 hw => ?_)
    exact zr_ret rfl rfl dX5_write_18 hw
def wX5_copy_b156 (p3 : Int32) (p4 : Int32) (p5 : Int32) (post : Int32 → zz_H → Prop) (K20 : Int32 × zz_H → Prop) (x18 : Int32) (h19 : zz_H) : Prop :=
  ((p5 ≤ x18) → (post p5 h19)) ∧ ((¬ p5 ≤ x18) → (vp_in x18 40 ∧ (vp_in ((((40 : Int32) * p3) + p4) + x18) 160 ∧ zz_sto h19 9 (upd (h19 9) ((((40 : Int32) * p3) + p4) + x18).toNatClampNeg (h19 10 x18.toNatClampNeg)) (fun h21 => K20 ((x18 + 1), h21)))))
def wX5_copy_j153 (p3 : Int32) (p4 : Int32) (p5 : Int32) (post : Int32 → zz_H → Prop) (h16 : zz_H) : Prop :=
  ∃ t9, zz_lp (fun K (s : Int32 × zz_H) => wX5_copy_b156 p3 p4 p5 post K s.1 s.2) t9 ((0 : Int32), h16)
def wX5_copy_b119 (p1 : Int32) (p2 : Int32) (p3 : Int32) (p4 : Int32) (p5 : Int32) (post : Int32 → zz_H → Prop) (K17 : Int32 × zz_H → Prop) (x15 : Int32) (h16 : zz_H) : Prop :=
  ((p5 ≤ x15) → (wX5_copy_j153 p3 p4 p5 post h16)) ∧ ((¬ p5 ≤ x15) → (vp_in ((((40 : Int32) * p1) + p2) + x15) 160 ∧ (vp_in x15 40 ∧ zz_sto h16 10 (upd (h16 10) x15.toNatClampNeg (h16 9 ((((40 : Int32) * p1) + p2) + x15).toNatClampNeg)) (fun h22 => K17 ((x15 + 1), h22)))))
def wX5_copy (p1 : Int32) (p2 : Int32) (p3 : Int32) (p4 : Int32) (p5 : Int32) (h0 : zz_H) (post : Int32 → zz_H → Prop) : Prop :=
  wX5_isOne p1 h0 (fun r1 => ((r1 = 0) → (wX5_finds ((-1000001) : Int32) h0 (fun r3 h2 => post r3 h2))) ∧ ((¬ r1 = 0) → (wX5_isOne p3 h0 (fun r4 => ((¬ r4 = 0) → (vp_in p1 4 ∧ ((((h0 7 p1.toNatClampNeg) = 0) → (wX5_finds ((-1000006) : Int32) h0 (fun r6 h5 => post r6 h5))) ∧ ((¬ (h0 7 p1.toNatClampNeg) = 0) → (vp_in p3 4 ∧ (((¬ (h0 7 p3.toNatClampNeg) = 0) → (vp_in p1 4 ∧ (vp_in p3 4 ∧ ((((h0 7 p1.toNatClampNeg) = (h0 7 p3.toNatClampNeg)) → (((p2 < 0) → (wX5_finds ((-1000001) : Int32) h0 (fun r8 h7 => post r8 h7))) ∧ ((¬ p2 < 0) → (((p4 < 0) → (wX5_finds ((-1000001) : Int32) h0 (fun r10 h9 => post r10 h9))) ∧ ((¬ p4 < 0) → (((p5 < 0) → (wX5_finds ((-1000001) : Int32) h0 (fun r12 h11 => post r12 h11))) ∧ ((¬ p5 < 0) → (vp_in p1 4 ∧ (((((h0 8 p1.toNatClampNeg) - p2) < p5) → (wX5_finds ((-1000001) : Int32) h0 (fun r14 h13 => post r14 h13))) ∧ ((¬ ((h0 8 p1.toNatClampNeg) - p2) < p5) → (vp_in p3 4 ∧ (((p5 ≤ ((h0 8 p3.toNatClampNeg) - p4)) → (∃ t9, zz_lp (fun K (s : Int32 × zz_H) => wX5_copy_b119 p1 p2 p3 p4 p5 post K s.1 s.2) t9 ((0 : Int32), h0))) ∧ ((¬ p5 ≤ ((h0 8 p3.toNatClampNeg) - p4)) → (wX5_finds ((-1000001) : Int32) h0 (fun r24 h23 => post r24 h23))))))))))))))) ∧ ((¬ (h0 7 p1.toNatClampNeg) = (h0 7 p3.toNatClampNeg)) → (wX5_finds ((-1000003) : Int32) h0 (fun r26 h25 => post r26 h25))))))) ∧ (((h0 7 p3.toNatClampNeg) = 0) → (wX5_finds ((-1000006) : Int32) h0 (fun r28 h27 => post r28 h27))))))))) ∧ ((r4 = 0) → (wX5_finds ((-1000001) : Int32) h0 (fun r30 h29 => post r30 h29)))))))
set_option maxRecDepth 20000 in
set_option maxHeartbeats 4000000 in
theorem ctX5_copy (p1 : Int32) (p2 : Int32) (p3 : Int32) (p4 : Int32) (p5 : Int32) (h0 : zz_H) (post : Int32 → zz_H → Prop) (hw : wX5_copy p1 p2 p3 p4 p5 h0 post) : zz_Ct zz_M 2 yX5_copy cX5_copy 7 (some .int) [.ref 0, .int p1, .int p2, .int p3, .int p4, .int p5] h0 post := by
  refine zz_ct (L := [.ref 0, .int p1, .int p2, .int p3, .int p4, .int p5, .null]) (by decide +kernel) (Nat.le_of_ble_eq_true rfl) (fun ad q hq => hq) ?_
  show zz_Go zz_M 2 cX5_copy RX5 7 (some .int) post 0 [] [.ref 0, .int p1, .int p2, .int p3, .int p4, .int p5, .null] h0
  unfold wX5_copy at hw
  refine zr_iload_n dX5_copy_0 rfl rfl ?_
  refine zr_pSi (ctX5_isOne p1 h0 _ hw) zy_X5_isOne zm_X5_242 (by decide) rfl rfl (Nat.le_of_ble_eq_true rfl) dX5_copy_1 (fun r1 hw => ?_)
  refine zr_if_eq 14 dX5_copy_4 (by decide) (fun q => ?_) (fun q => ?_)
  · have hw := hw.1 q
    refine zr_aload_n dX5_copy_14 rfl rfl ?_
    refine zr_ldc zk_X5_40 dX5_copy_15 ?_
    refine zr_callVi zz_cX5 zz_M0 (ctX5_finds ((-1000001) : Int32) h0 _ hw) zy_X5_finds zm_X5_59 (by decide) rfl rfl (Nat.le_of_ble_eq_true rfl) dX5_copy_17 (fun r3 h2 hw => ?_)
    exact zr_ret rfl rfl dX5_copy_20 hw
  · have hw := hw.2 q
    refine zr_iload_n dX5_copy_7 rfl rfl ?_
    refine zr_pSi (ctX5_isOne p3 h0 _ hw) zy_X5_isOne zm_X5_242 (by decide) rfl rfl (Nat.le_of_ble_eq_true rfl) dX5_copy_8 (fun r4 hw => ?_)
    refine zr_if_ne 21 dX5_copy_11 (by decide) (fun q => ?_) (fun q => ?_)
    · have hw := hw.1 q
      refine zr_aload_n dX5_copy_21 rfl rfl ?_
      refine zr_getR zz_cX5 zz_M0 12 (by decide) rfl zf_X5_28 dX5_copy_22 ?_
      refine zr_iload_n dX5_copy_25 rfl rfl ?_
      obtain ⟨hi, hw⟩ := hw
      refine zr_iald zz_M7 hi rfl dX5_copy_26 ?_
      refine zr_if_eq 39 dX5_copy_27 (by decide) (fun q => ?_) (fun q => ?_)
      · have hw := hw.1 q
        refine zr_aload_n dX5_copy_39 rfl rfl ?_
        refine zr_ldc zk_X5_240 dX5_copy_40 ?_
        refine zr_callVi zz_cX5 zz_M0 (ctX5_finds ((-1000006) : Int32) h0 _ hw) zy_X5_finds zm_X5_59 (by decide) rfl rfl (Nat.le_of_ble_eq_true rfl) dX5_copy_42 (fun r6 h5 hw => ?_)
        exact zr_ret rfl rfl dX5_copy_45 hw
      · have hw := hw.2 q
        refine zr_aload_n dX5_copy_30 rfl rfl ?_
        refine zr_getR zz_cX5 zz_M0 12 (by decide) rfl zf_X5_28 dX5_copy_31 ?_
        refine zr_iload_n dX5_copy_34 rfl rfl ?_
        obtain ⟨hi, hw⟩ := hw
        refine zr_iald zz_M7 hi rfl dX5_copy_35 ?_
        refine zr_if_ne 46 dX5_copy_36 (by decide) (fun q => ?_) (fun q => ?_)
        · have hw := hw.1 q
          refine zr_aload_n dX5_copy_46 rfl rfl ?_
          refine zr_getR zz_cX5 zz_M0 12 (by decide) rfl zf_X5_28 dX5_copy_47 ?_
          refine zr_iload_n dX5_copy_50 rfl rfl ?_
          obtain ⟨hi, hw⟩ := hw
          refine zr_iald zz_M7 hi rfl dX5_copy_51 ?_
          refine zr_aload_n dX5_copy_52 rfl rfl ?_
          refine zr_getR zz_cX5 zz_M0 12 (by decide) rfl zf_X5_28 dX5_copy_53 ?_
          refine zr_iload_n dX5_copy_56 rfl rfl ?_
          obtain ⟨hi, hw⟩ := hw
          refine zr_iald zz_M7 hi rfl dX5_copy_57 ?_
          refine zr_icmp_eq 68 dX5_copy_58 (by decide) (fun q => ?_) (fun q => ?_)
          · have hw := hw.1 q
            refine zr_iload_n dX5_copy_68 rfl rfl ?_
            refine zr_if_lt 109 dX5_copy_69 (by decide) (fun q => ?_) (fun q => ?_)
            · have hw := hw.1 q
              refine zr_aload_n dX5_copy_109 rfl rfl ?_
              refine zr_ldc zk_X5_40 dX5_copy_110 ?_
              refine zr_callVi zz_cX5 zz_M0 (ctX5_finds ((-1000001) : Int32) h0 _ hw) zy_X5_finds zm_X5_59 (by decide) rfl rfl (Nat.le_of_ble_eq_true rfl) dX5_copy_112 (fun r8 h7 hw => ?_)
              exact zr_ret rfl rfl dX5_copy_115 hw
            · have hw := hw.2 q
              refine zr_iload dX5_copy_72 rfl ?_
              refine zr_if_lt 109 dX5_copy_74 (by decide) (fun q => ?_) (fun q => ?_)
              · have hw := hw.1 q
                refine zr_aload_n dX5_copy_109 rfl rfl ?_
                refine zr_ldc zk_X5_40 dX5_copy_110 ?_
                refine zr_callVi zz_cX5 zz_M0 (ctX5_finds ((-1000001) : Int32) h0 _ hw) zy_X5_finds zm_X5_59 (by decide) rfl rfl (Nat.le_of_ble_eq_true rfl) dX5_copy_112 (fun r10 h9 hw => ?_)
                exact zr_ret rfl rfl dX5_copy_115 hw
              · have hw := hw.2 q
                refine zr_iload dX5_copy_77 rfl ?_
                refine zr_if_lt 109 dX5_copy_79 (by decide) (fun q => ?_) (fun q => ?_)
                · have hw := hw.1 q
                  refine zr_aload_n dX5_copy_109 rfl rfl ?_
                  refine zr_ldc zk_X5_40 dX5_copy_110 ?_
                  refine zr_callVi zz_cX5 zz_M0 (ctX5_finds ((-1000001) : Int32) h0 _ hw) zy_X5_finds zm_X5_59 (by decide) rfl rfl (Nat.le_of_ble_eq_true rfl) dX5_copy_112 (fun r12 h11 hw => ?_)
                  exact zr_ret rfl rfl dX5_copy_115 hw
                · have hw := hw.2 q
                  refine zr_iload dX5_copy_82 rfl ?_
                  refine zr_aload_n dX5_copy_84 rfl rfl ?_
                  refine zr_getR zz_cX5 zz_M0 13 (by decide) rfl zf_X5_31 dX5_copy_85 ?_
                  refine zr_iload_n dX5_copy_88 rfl rfl ?_
                  obtain ⟨hi, hw⟩ := hw
                  refine zr_iald zz_M8 hi rfl dX5_copy_89 ?_
                  refine zr_iload_n dX5_copy_90 rfl rfl ?_
                  refine zr_isub dX5_copy_91 ?_
                  refine zr_icmp_gt 109 dX5_copy_92 (by decide) (fun q => ?_) (fun q => ?_)
                  · have hw := hw.1 q
                    refine zr_aload_n dX5_copy_109 rfl rfl ?_
                    refine zr_ldc zk_X5_40 dX5_copy_110 ?_
                    refine zr_callVi zz_cX5 zz_M0 (ctX5_finds ((-1000001) : Int32) h0 _ hw) zy_X5_finds zm_X5_59 (by decide) rfl rfl (Nat.le_of_ble_eq_true rfl) dX5_copy_112 (fun r14 h13 hw => ?_)
                    exact zr_ret rfl rfl dX5_copy_115 hw
                  · have hw := hw.2 q
                    refine zr_iload dX5_copy_95 rfl ?_
                    refine zr_aload_n dX5_copy_97 rfl rfl ?_
                    refine zr_getR zz_cX5 zz_M0 13 (by decide) rfl zf_X5_31 dX5_copy_98 ?_
                    refine zr_iload_n dX5_copy_101 rfl rfl ?_
                    obtain ⟨hi, hw⟩ := hw
                    refine zr_iald zz_M8 hi rfl dX5_copy_102 ?_
                    refine zr_iload dX5_copy_103 rfl ?_
                    refine zr_isub dX5_copy_105 ?_
                    refine zr_icmp_le 116 dX5_copy_106 (by decide) (fun q => ?_) (fun q => ?_)
                    · have hw := hw.1 q
                      refine zr_iconst dX5_copy_116 zqk_0 ?_
                      refine zr_istore [.ref 0, .int p1, .int p2, .int p3, .int p4, .int p5, .int (0 : Int32)] dX5_copy_117 (by decide) rfl rfl ?_
                      obtain ⟨t9, hw⟩ := hw
                      have step119 : ∀ (K17 : Int32 × zz_H → Prop), (∀ (x15 : Int32) (h16 : zz_H), K17 (x15, h16) → zz_Go zz_M 2 cX5_copy RX5 7 (some .int) post 119 [] [.ref 0, .int p1, .int p2, .int p3, .int p4, .int p5, .int x15] h16) → ∀ (x15 : Int32) (h16 : zz_H), wX5_copy_b119 p1 p2 p3 p4 p5 post K17 x15 h16 → zz_Go zz_M 2 cX5_copy RX5 7 (some .int) post 119 [] [.ref 0, .int p1, .int p2, .int p3, .int p4, .int p5, .int x15] h16 := by
                        intro K17 ih119 x15 h16 hw
                        unfold wX5_copy_b119 at hw
                        refine zr_iload dX5_copy_119 rfl ?_
                        refine zr_iload dX5_copy_121 rfl ?_
                        have j153 : wX5_copy_j153 p3 p4 p5 post h16 → zz_Go zz_M 2 cX5_copy RX5 7 (some .int) post 153 [] [.ref 0, .null, .null, .int p3, .int p4, .int p5, .null] h16 := by
                          intro hw
                          unfold wX5_copy_j153 at hw
                          refine zr_iconst dX5_copy_153 zqk_0 ?_
                          refine zr_istore [.ref 0, .null, .null, .int p3, .int p4, .int p5, .int (0 : Int32)] dX5_copy_154 (by decide) rfl rfl ?_
                          obtain ⟨t9, hw⟩ := hw
                          have step156 : ∀ (K20 : Int32 × zz_H → Prop), (∀ (x18 : Int32) (h19 : zz_H), K20 (x18, h19) → zz_Go zz_M 2 cX5_copy RX5 7 (some .int) post 156 [] [.ref 0, .null, .null, .int p3, .int p4, .int p5, .int x18] h19) → ∀ (x18 : Int32) (h19 : zz_H), wX5_copy_b156 p3 p4 p5 post K20 x18 h19 → zz_Go zz_M 2 cX5_copy RX5 7 (some .int) post 156 [] [.ref 0, .null, .null, .int p3, .int p4, .int p5, .int x18] h19 := by
                            intro K20 ih156 x18 h19 hw
                            unfold wX5_copy_b156 at hw
                            refine zr_iload dX5_copy_156 rfl ?_
                            refine zr_iload dX5_copy_158 rfl ?_
                            refine zr_icmp_ge 191 dX5_copy_160 (by decide) (fun q => ?_) (fun q => ?_)
                            · have hw := hw.1 q
                              refine zr_iload dX5_copy_191 rfl ?_
                              exact zr_ret rfl rfl dX5_copy_193 hw
                            · have hw := hw.2 q
                              refine zr_aload_n dX5_copy_163 rfl rfl ?_
                              refine zr_getR zz_cX5 zz_M0 14 (by decide) rfl zf_X5_34 dX5_copy_164 ?_
                              refine zr_bipush dX5_copy_167 zbk_40 ?_
                              refine zr_iload_n dX5_copy_169 rfl rfl ?_
                              refine zr_imul dX5_copy_170 ?_
                              refine zr_iload dX5_copy_171 rfl ?_
                              refine zr_iadd dX5_copy_173 ?_
                              refine zr_iload dX5_copy_174 rfl ?_
                              refine zr_iadd dX5_copy_176 ?_
                              refine zr_aload_n dX5_copy_177 rfl rfl ?_
                              refine zr_getR zz_cX5 zz_M0 15 (by decide) rfl zf_X5_37 dX5_copy_178 ?_
                              refine zr_iload dX5_copy_181 rfl ?_
                              obtain ⟨hi, hw⟩ := hw
                              refine zr_iald zz_M10 hi rfl dX5_copy_183 ?_
                              obtain ⟨hi, hw⟩ := hw
                              refine zr_iast zz_M9 hi rfl dX5_copy_184 hw (fun h21 hw => ?_)
                              refine zr_iinc (x18 + 1) [.ref 0, .null, .null, .int p3, .int p4, .int p5, .int (x18 + 1)] dX5_copy_185 rfl (zok_1 _) (by decide) rfl rfl ?_
                              refine zr_goto 156 dX5_copy_188 (by decide) ?_
                              exact ih156 _ _ hw
                          have key156 : ∀ (t9 : Nat) (x18 : Int32) (h19 : zz_H), zz_lp (fun K (s : Int32 × zz_H) => wX5_copy_b156 p3 p4 p5 post K s.1 s.2) t9 (x18, h19) → zz_Go zz_M 2 cX5_copy RX5 7 (some .int) post 156 [] [.ref 0, .null, .null, .int p3, .int p4, .int p5, .int x18] h19 := by
                            intro t9
                            induction t9 with
                            | zero => intro x18 h19 hw; exact hw.elim
                            | succ t9 ih => intro x18 h19 hw; exact step156 _ ih _ _ hw
                          exact key156 t9 _ _ hw
                        refine zr_icmp_ge 153 dX5_copy_123 (by decide) (fun q => ?_) (fun q => ?_)
                        · have hw := hw.1 q
                          refine zr_sub [.ref 0, .null, .null, .int p3, .int p4, .int p5, .null] ⟨Or.inr rfl, ⟨Or.inl rfl, ⟨Or.inl rfl, ⟨Or.inr rfl, ⟨Or.inr rfl, ⟨Or.inr rfl, ⟨Or.inl rfl, trivial⟩⟩⟩⟩⟩⟩⟩ ?_
                          exact j153 hw
                        · have hw := hw.2 q
                          refine zr_aload_n dX5_copy_126 rfl rfl ?_
                          refine zr_getR zz_cX5 zz_M0 15 (by decide) rfl zf_X5_37 dX5_copy_127 ?_
                          refine zr_iload dX5_copy_130 rfl ?_
                          refine zr_aload_n dX5_copy_132 rfl rfl ?_
                          refine zr_getR zz_cX5 zz_M0 14 (by decide) rfl zf_X5_34 dX5_copy_133 ?_
                          refine zr_bipush dX5_copy_136 zbk_40 ?_
                          refine zr_iload_n dX5_copy_138 rfl rfl ?_
                          refine zr_imul dX5_copy_139 ?_
                          refine zr_iload_n dX5_copy_140 rfl rfl ?_
                          refine zr_iadd dX5_copy_141 ?_
                          refine zr_iload dX5_copy_142 rfl ?_
                          refine zr_iadd dX5_copy_144 ?_
                          obtain ⟨hi, hw⟩ := hw
                          refine zr_iald zz_M9 hi rfl dX5_copy_145 ?_
                          obtain ⟨hi, hw⟩ := hw
                          refine zr_iast zz_M10 hi rfl dX5_copy_146 hw (fun h22 hw => ?_)
                          refine zr_iinc (x15 + 1) [.ref 0, .int p1, .int p2, .int p3, .int p4, .int p5, .int (x15 + 1)] dX5_copy_147 rfl (zok_1 _) (by decide) rfl rfl ?_
                          refine zr_goto 119 dX5_copy_150 (by decide) ?_
                          exact ih119 _ _ hw
                      have key119 : ∀ (t9 : Nat) (x15 : Int32) (h16 : zz_H), zz_lp (fun K (s : Int32 × zz_H) => wX5_copy_b119 p1 p2 p3 p4 p5 post K s.1 s.2) t9 (x15, h16) → zz_Go zz_M 2 cX5_copy RX5 7 (some .int) post 119 [] [.ref 0, .int p1, .int p2, .int p3, .int p4, .int p5, .int x15] h16 := by
                        intro t9
                        induction t9 with
                        | zero => intro x15 h16 hw; exact hw.elim
                        | succ t9 ih => intro x15 h16 hw; exact step119 _ ih _ _ hw
                      exact key119 t9 _ _ hw
                    · have hw := hw.2 q
                      refine zr_aload_n dX5_copy_109 rfl rfl ?_
                      refine zr_ldc zk_X5_40 dX5_copy_110 ?_
                      refine zr_callVi zz_cX5 zz_M0 (ctX5_finds ((-1000001) : Int32) h0 _ hw) zy_X5_finds zm_X5_59 (by decide) rfl rfl (Nat.le_of_ble_eq_true rfl) dX5_copy_112 (fun r24 h23 hw => ?_)
                      exact zr_ret rfl rfl dX5_copy_115 hw
          · have hw := hw.2 q
            refine zr_aload_n dX5_copy_61 rfl rfl ?_
            refine zr_ldc zk_X5_241 dX5_copy_62 ?_
            refine zr_callVi zz_cX5 zz_M0 (ctX5_finds ((-1000003) : Int32) h0 _ hw) zy_X5_finds zm_X5_59 (by decide) rfl rfl (Nat.le_of_ble_eq_true rfl) dX5_copy_64 (fun r26 h25 hw => ?_)
            exact zr_ret rfl rfl dX5_copy_67 hw
        · have hw := hw.2 q
          refine zr_aload_n dX5_copy_39 rfl rfl ?_
          refine zr_ldc zk_X5_240 dX5_copy_40 ?_
          refine zr_callVi zz_cX5 zz_M0 (ctX5_finds ((-1000006) : Int32) h0 _ hw) zy_X5_finds zm_X5_59 (by decide) rfl rfl (Nat.le_of_ble_eq_true rfl) dX5_copy_42 (fun r28 h27 hw => ?_)
          exact zr_ret rfl rfl dX5_copy_45 hw
    · have hw := hw.2 q
      refine zr_aload_n dX5_copy_14 rfl rfl ?_
      refine zr_ldc zk_X5_40 dX5_copy_15 ?_
      refine zr_callVi zz_cX5 zz_M0 (ctX5_finds ((-1000001) : Int32) h0 _ hw) zy_X5_finds zm_X5_59 (by decide) rfl rfl (Nat.le_of_ble_eq_true rfl) dX5_copy_17 (fun r30 h29 hw => ?_)
      exact zr_ret rfl rfl dX5_copy_20 hw
def wX5_load_b50 (p1 : Int32) (p2 : Int32) (p3 : Int32) (post : Int32 → zz_H → Prop) (K9 : Int32 × Int32 × zz_H → Prop) (x6 : Int32) (x7 : Int32) (h8 : zz_H) : Prop :=
  vp_in p1 4 ∧ ((((h8 8 p1.toNatClampNeg) ≤ x7) → (post x6 h8)) ∧ ((¬ (h8 8 p1.toNatClampNeg) ≤ x7) → ((((8 : Int32) ≤ x7) → (post x6 h8)) ∧ ((¬ (8 : Int32) ≤ x7) → (vp_in (((40 : Int32) * p1) + x7) 160 ∧ (vp_in ((0 : Int32) + x7) 245 ∧ (wX5_in ((h8 9 (((40 : Int32) * p1) + x7).toNatClampNeg).toInt64) (0 : Int64) ((h8 1 ((0 : Int32) + x7).toNatClampNeg).toInt64) h8 (fun r10 => ((¬ r10 = 0) → (wX5_at p2 p3 x7 h8 (fun r11 => vp_in r11 245 ∧ zz_sto h8 1 (upd (h8 1) r11.toNatClampNeg (h8 9 (((40 : Int32) * p1) + x7).toNatClampNeg)) (fun h12 => K9 ((x6 + 1), (x7 + 1), h12))))) ∧ ((r10 = 0) → (post x6 h8))))))))))
def wX5_load (p1 : Int32) (p2 : Int32) (p3 : Int32) (h0 : zz_H) (post : Int32 → zz_H → Prop) : Prop :=
  wX5_wrong p1 h0 (fun r1 => ((r1 = 0) → (wX5_isPupil p2 h0 (fun r2 => ((r2 = 0) → (wX5_finds ((-1000001) : Int32) h0 (fun r4 h3 => post r4 h3))) ∧ ((¬ r2 = 0) → (wX5_in (p3.toInt64) (0 : Int64) (1 : Int64) h0 (fun r5 => ((¬ r5 = 0) → (∃ t9, zz_lp (fun K (s : Int32 × Int32 × zz_H) => wX5_load_b50 p1 p2 p3 post K s.1 s.2.1 s.2.2) t9 ((0 : Int32), (0 : Int32), h0))) ∧ ((r5 = 0) → (wX5_finds ((-1000001) : Int32) h0 (fun r14 h13 => post r14 h13))))))))) ∧ ((¬ r1 = 0) → (wX5_finds r1 h0 (fun r16 h15 => post r16 h15))))
set_option maxRecDepth 20000 in
set_option maxHeartbeats 4000000 in
theorem ctX5_load (p1 : Int32) (p2 : Int32) (p3 : Int32) (h0 : zz_H) (post : Int32 → zz_H → Prop) (hw : wX5_load p1 p2 p3 h0 post) : zz_Ct zz_M 3 yX5_load cX5_load 8 (some .int) [.ref 0, .int p1, .int p2, .int p3] h0 post := by
  refine zz_ct (L := [.ref 0, .int p1, .int p2, .int p3, .null, .null, .null, .null]) (by decide +kernel) (Nat.le_of_ble_eq_true rfl) (fun ad q hq => hq) ?_
  show zz_Go zz_M 3 cX5_load RX5 8 (some .int) post 0 [] [.ref 0, .int p1, .int p2, .int p3, .null, .null, .null, .null] h0
  unfold wX5_load at hw
  refine zr_aload_n dX5_load_0 rfl rfl ?_
  refine zr_iload_n dX5_load_1 rfl rfl ?_
  refine zr_pVi zz_cX5 zz_M0 (ctX5_wrong p1 h0 _ hw) zy_X5_wrong zm_X5_246 (by decide) rfl rfl (Nat.le_of_ble_eq_true rfl) dX5_load_2 (fun r1 hw => ?_)
  refine zr_istore [.ref 0, .int p1, .int p2, .int p3, .int r1, .null, .null, .null] dX5_load_5 (by decide) rfl rfl ?_
  refine zr_iload dX5_load_7 rfl ?_
  refine zr_if_eq 19 dX5_load_9 (by decide) (fun q => ?_) (fun q => ?_)
  · have hw := hw.1 q
    refine zr_aload_n dX5_load_19 rfl rfl ?_
    refine zr_iload_n dX5_load_20 rfl rfl ?_
    refine zr_pVi zz_cX5 zz_M0 (ctX5_isPupil p2 h0 _ hw) zy_X5_isPupil zm_X5_75 (by decide) rfl rfl (Nat.le_of_ble_eq_true rfl) dX5_load_21 (fun r2 hw => ?_)
    refine zr_if_eq 37 dX5_load_24 (by decide) (fun q => ?_) (fun q => ?_)
    · have hw := hw.1 q
      refine zr_aload_n dX5_load_37 rfl rfl ?_
      refine zr_ldc zk_X5_40 dX5_load_38 ?_
      refine zr_callVi zz_cX5 zz_M0 (ctX5_finds ((-1000001) : Int32) h0 _ hw) zy_X5_finds zm_X5_59 (by decide) rfl rfl (Nat.le_of_ble_eq_true rfl) dX5_load_40 (fun r4 h3 hw => ?_)
      exact zr_ret rfl rfl dX5_load_43 hw
    · have hw := hw.2 q
      refine zr_iload_n dX5_load_27 rfl rfl ?_
      refine zr_i2l dX5_load_28 ?_
      refine zr_lconst (v := 0) dX5_load_29 (by decide) ?_
      refine zr_lconst (v := 1) dX5_load_30 (by decide) ?_
      refine zr_pSi (ctX5_in (p3.toInt64) (0 : Int64) (1 : Int64) h0 _ hw) zy_X5_in zm_X5_43 (by decide) rfl rfl (Nat.le_of_ble_eq_true rfl) dX5_load_31 (fun r5 hw => ?_)
      refine zr_if_ne 44 dX5_load_34 (by decide) (fun q => ?_) (fun q => ?_)
      · have hw := hw.1 q
        refine zr_iconst dX5_load_44 zqk_0 ?_
        refine zr_istore [.ref 0, .int p1, .int p2, .int p3, .int r1, .int (0 : Int32), .null, .null] dX5_load_45 (by decide) rfl rfl ?_
        refine zr_iconst dX5_load_47 zqk_0 ?_
        refine zr_istore [.ref 0, .int p1, .int p2, .int p3, .int r1, .int (0 : Int32), .int (0 : Int32), .null] dX5_load_48 (by decide) rfl rfl ?_
        refine zr_sub [.ref 0, .int p1, .int p2, .int p3, .null, .int (0 : Int32), .int (0 : Int32), .null] ⟨Or.inr rfl, ⟨Or.inr rfl, ⟨Or.inr rfl, ⟨Or.inr rfl, ⟨Or.inl rfl, ⟨Or.inr rfl, ⟨Or.inr rfl, ⟨Or.inl rfl, trivial⟩⟩⟩⟩⟩⟩⟩⟩ ?_
        obtain ⟨t9, hw⟩ := hw
        have step50 : ∀ (K9 : Int32 × Int32 × zz_H → Prop), (∀ (x6 : Int32) (x7 : Int32) (h8 : zz_H), K9 (x6, x7, h8) → zz_Go zz_M 3 cX5_load RX5 8 (some .int) post 50 [] [.ref 0, .int p1, .int p2, .int p3, .null, .int x6, .int x7, .null] h8) → ∀ (x6 : Int32) (x7 : Int32) (h8 : zz_H), wX5_load_b50 p1 p2 p3 post K9 x6 x7 h8 → zz_Go zz_M 3 cX5_load RX5 8 (some .int) post 50 [] [.ref 0, .int p1, .int p2, .int p3, .null, .int x6, .int x7, .null] h8 := by
          intro K9 ih50 x6 x7 h8 hw
          unfold wX5_load_b50 at hw
          refine zr_iload dX5_load_50 rfl ?_
          refine zr_aload_n dX5_load_52 rfl rfl ?_
          refine zr_getR zz_cX5 zz_M0 13 (by decide) rfl zf_X5_31 dX5_load_53 ?_
          refine zr_iload_n dX5_load_56 rfl rfl ?_
          obtain ⟨hi, hw⟩ := hw
          refine zr_iald zz_M8 hi rfl dX5_load_57 ?_
          refine zr_icmp_ge 128 dX5_load_58 (by decide) (fun q => ?_) (fun q => ?_)
          · have hw := hw.1 q
            refine zr_iload dX5_load_128 rfl ?_
            exact zr_ret rfl rfl dX5_load_130 hw
          · have hw := hw.2 q
            refine zr_iload dX5_load_61 rfl ?_
            refine zr_bipush dX5_load_63 zbk_8 ?_
            refine zr_icmp_ge 128 dX5_load_65 (by decide) (fun q => ?_) (fun q => ?_)
            · have hw := hw.1 q
              refine zr_iload dX5_load_128 rfl ?_
              exact zr_ret rfl rfl dX5_load_130 hw
            · have hw := hw.2 q
              refine zr_aload_n dX5_load_68 rfl rfl ?_
              refine zr_getR zz_cX5 zz_M0 14 (by decide) rfl zf_X5_34 dX5_load_69 ?_
              refine zr_bipush dX5_load_72 zbk_40 ?_
              refine zr_iload_n dX5_load_74 rfl rfl ?_
              refine zr_imul dX5_load_75 ?_
              refine zr_iload dX5_load_76 rfl ?_
              refine zr_iadd dX5_load_78 ?_
              obtain ⟨hi, hw⟩ := hw
              refine zr_iald zz_M9 hi rfl dX5_load_79 ?_
              refine zr_istore [.ref 0, .int p1, .int p2, .int p3, .null, .int x6, .int x7, .int (h8 9 (((40 : Int32) * p1) + x7).toNatClampNeg)] dX5_load_80 (by decide) rfl rfl ?_
              refine zr_iload dX5_load_82 rfl ?_
              refine zr_i2l dX5_load_84 ?_
              refine zr_lconst (v := 0) dX5_load_85 (by decide) ?_
              refine zr_aload_n dX5_load_86 rfl rfl ?_
              refine zr_getR zz_cX5 zz_M0 0 (by decide) rfl zf_X5_7 dX5_load_87 ?_
              refine zr_iconst dX5_load_90 zqk_0 ?_
              refine zr_iload dX5_load_91 rfl ?_
              refine zr_iadd dX5_load_93 ?_
              obtain ⟨hi, hw⟩ := hw
              refine zr_iald zz_M1 hi rfl dX5_load_94 ?_
              refine zr_i2l dX5_load_95 ?_
              refine zr_pSi (ctX5_in ((h8 9 (((40 : Int32) * p1) + x7).toNatClampNeg).toInt64) (0 : Int64) ((h8 1 ((0 : Int32) + x7).toNatClampNeg).toInt64) h8 _ hw) zy_X5_in zm_X5_43 (by decide) rfl rfl (Nat.le_of_ble_eq_true rfl) dX5_load_96 (fun r10 hw => ?_)
              refine zr_if_ne 105 dX5_load_99 (by decide) (fun q => ?_) (fun q => ?_)
              · have hw := hw.1 q
                refine zr_aload_n dX5_load_105 rfl rfl ?_
                refine zr_getR zz_cX5 zz_M0 0 (by decide) rfl zf_X5_7 dX5_load_106 ?_
                refine zr_iload_n dX5_load_109 rfl rfl ?_
                refine zr_iload_n dX5_load_110 rfl rfl ?_
                refine zr_iload dX5_load_111 rfl ?_
                refine zr_pSi (ctX5_at p2 p3 x7 h8 _ hw) zy_X5_at zm_X5_49 (by decide) rfl rfl (Nat.le_of_ble_eq_true rfl) dX5_load_113 (fun r11 hw => ?_)
                refine zr_iload dX5_load_116 rfl ?_
                obtain ⟨hi, hw⟩ := hw
                refine zr_iast zz_M1 hi rfl dX5_load_118 hw (fun h12 hw => ?_)
                refine zr_iinc (x6 + 1) [.ref 0, .int p1, .int p2, .int p3, .null, .int (x6 + 1), .int x7, .int (h8 9 (((40 : Int32) * p1) + x7).toNatClampNeg)] dX5_load_119 rfl (zok_1 _) (by decide) rfl rfl ?_
                refine zr_iinc (x7 + 1) [.ref 0, .int p1, .int p2, .int p3, .null, .int (x6 + 1), .int (x7 + 1), .int (h8 9 (((40 : Int32) * p1) + x7).toNatClampNeg)] dX5_load_122 rfl (zok_1 _) (by decide) rfl rfl ?_
                refine zr_goto 50 dX5_load_125 (by decide) ?_
                refine zr_sub [.ref 0, .int p1, .int p2, .int p3, .null, .int (x6 + 1), .int (x7 + 1), .null] ⟨Or.inr rfl, ⟨Or.inr rfl, ⟨Or.inr rfl, ⟨Or.inr rfl, ⟨Or.inl rfl, ⟨Or.inr rfl, ⟨Or.inr rfl, ⟨Or.inl rfl, trivial⟩⟩⟩⟩⟩⟩⟩⟩ ?_
                exact ih50 _ _ _ hw
              · have hw := hw.2 q
                refine zr_iload dX5_load_102 rfl ?_
                exact zr_ret rfl rfl dX5_load_104 hw
        have key50 : ∀ (t9 : Nat) (x6 : Int32) (x7 : Int32) (h8 : zz_H), zz_lp (fun K (s : Int32 × Int32 × zz_H) => wX5_load_b50 p1 p2 p3 post K s.1 s.2.1 s.2.2) t9 (x6, x7, h8) → zz_Go zz_M 3 cX5_load RX5 8 (some .int) post 50 [] [.ref 0, .int p1, .int p2, .int p3, .null, .int x6, .int x7, .null] h8 := by
          intro t9
          induction t9 with
          | zero => intro x6 x7 h8 hw; exact hw.elim
          | succ t9 ih => intro x6 x7 h8 hw; exact step50 _ ih _ _ _ hw
        exact key50 t9 _ _ _ hw
      · have hw := hw.2 q
        refine zr_aload_n dX5_load_37 rfl rfl ?_
        refine zr_ldc zk_X5_40 dX5_load_38 ?_
        refine zr_callVi zz_cX5 zz_M0 (ctX5_finds ((-1000001) : Int32) h0 _ hw) zy_X5_finds zm_X5_59 (by decide) rfl rfl (Nat.le_of_ble_eq_true rfl) dX5_load_40 (fun r14 h13 hw => ?_)
        exact zr_ret rfl rfl dX5_load_43 hw
  · have hw := hw.2 q
    refine zr_aload_n dX5_load_12 rfl rfl ?_
    refine zr_iload dX5_load_13 rfl ?_
    refine zr_callVi zz_cX5 zz_M0 (ctX5_finds r1 h0 _ hw) zy_X5_finds zm_X5_59 (by decide) rfl rfl (Nat.le_of_ble_eq_true rfl) dX5_load_15 (fun r16 h15 hw => ?_)
    exact zr_ret rfl rfl dX5_load_18 hw
def wX5_judge_j90 (p1 : Int32) (post : Int32 → zz_H → Prop) (h3 : zz_H) (x4 : Int32) : Prop :=
  vp_in p1 4 ∧ (((¬ x4 = (h3 8 p1.toNatClampNeg)) → (post ((1 : Int32) + x4) h3)) ∧ ((x4 = (h3 8 p1.toNatClampNeg)) → (((¬ x4 = (h3 1 17)) → (post ((1 : Int32) + x4) h3)) ∧ ((x4 = (h3 1 17)) → (post (0 : Int32) h3)))))
def wX5_judge_b39 (p1 : Int32) (post : Int32 → zz_H → Prop) (h3 : zz_H) (K5 : Int32 → Prop) (x4 : Int32) : Prop :=
  vp_in p1 4 ∧ ((((h3 8 p1.toNatClampNeg) ≤ x4) → (wX5_judge_j90 p1 post h3 x4)) ∧ ((¬ (h3 8 p1.toNatClampNeg) ≤ x4) → ((((h3 1 17) ≤ x4) → (wX5_judge_j90 p1 post h3 x4)) ∧ ((¬ (h3 1 17) ≤ x4) → (vp_in (((40 : Int32) * p1) + x4) 160 ∧ (vp_in x4 12 ∧ (((¬ (h3 9 (((40 : Int32) * p1) + x4).toNatClampNeg) = (h3 5 x4.toNatClampNeg)) → (wX5_judge_j90 p1 post h3 x4)) ∧ (((h3 9 (((40 : Int32) * p1) + x4).toNatClampNeg) = (h3 5 x4.toNatClampNeg)) → (K5 (x4 + 1))))))))))
def wX5_judge (p1 : Int32) (p2 : Int32) (h0 : zz_H) (post : Int32 → zz_H → Prop) : Prop :=
  wX5_wrong p1 h0 (fun r1 => ((r1 = 0) → (wX5_isCurve p2 h0 (fun r2 => ((¬ r2 = 0) → (wX5_findMarks p2 h0 (fun _ h3 => ∃ t9, zz_lp (fun K (s : Int32) => wX5_judge_b39 p1 post h3 K s) t9 (0 : Int32)))) ∧ ((r2 = 0) → (wX5_finds ((-1000001) : Int32) h0 (fun r7 h6 => post r7 h6)))))) ∧ ((¬ r1 = 0) → (wX5_finds r1 h0 (fun r9 h8 => post r9 h8))))
set_option maxRecDepth 20000 in
set_option maxHeartbeats 4000000 in
theorem ctX5_judge (p1 : Int32) (p2 : Int32) (h0 : zz_H) (post : Int32 → zz_H → Prop) (hw : wX5_judge p1 p2 h0 post) : zz_Ct zz_M 7 yX5_judge cX5_judge 5 (some .int) [.ref 0, .int p1, .int p2] h0 post := by
  refine zz_ct (L := [.ref 0, .int p1, .int p2, .null, .null]) (by decide +kernel) (Nat.le_of_ble_eq_true rfl) (fun ad q hq => hq) ?_
  show zz_Go zz_M 7 cX5_judge RX5 5 (some .int) post 0 [] [.ref 0, .int p1, .int p2, .null, .null] h0
  unfold wX5_judge at hw
  refine zr_aload_n dX5_judge_0 rfl rfl ?_
  refine zr_iload_n dX5_judge_1 rfl rfl ?_
  refine zr_pVi zz_cX5 zz_M0 (ctX5_wrong p1 h0 _ hw) zy_X5_wrong zm_X5_246 (by decide) rfl rfl (Nat.le_of_ble_eq_true rfl) dX5_judge_2 (fun r1 hw => ?_)
  refine zr_istore_n [.ref 0, .int p1, .int p2, .int r1, .null] dX5_judge_5 rfl (by decide) rfl rfl ?_
  refine zr_iload_n dX5_judge_6 rfl rfl ?_
  refine zr_if_eq 16 dX5_judge_7 (by decide) (fun q => ?_) (fun q => ?_)
  · have hw := hw.1 q
    refine zr_aload_n dX5_judge_16 rfl rfl ?_
    refine zr_iload_n dX5_judge_17 rfl rfl ?_
    refine zr_pVi zz_cX5 zz_M0 (ctX5_isCurve p2 h0 _ hw) zy_X5_isCurve zm_X5_114 (by decide) rfl rfl (Nat.le_of_ble_eq_true rfl) dX5_judge_18 (fun r2 hw => ?_)
    refine zr_if_ne 31 dX5_judge_21 (by decide) (fun q => ?_) (fun q => ?_)
    · have hw := hw.1 q
      refine zr_aload_n dX5_judge_31 rfl rfl ?_
      refine zr_iload_n dX5_judge_32 rfl rfl ?_
      refine zr_callVv zz_cX5 zz_M0 (ctX5_findMarks p2 h0 _ hw) zy_X5_findMarks zm_X5_135 (by decide) rfl rfl (Nat.le_of_ble_eq_true rfl) dX5_judge_33 (fun h3 hw => ?_)
      refine zr_iconst dX5_judge_36 zqk_0 ?_
      refine zr_istore [.ref 0, .int p1, .int p2, .int r1, .int (0 : Int32)] dX5_judge_37 (by decide) rfl rfl ?_
      refine zr_sub [.ref 0, .int p1, .null, .null, .int (0 : Int32)] ⟨Or.inr rfl, ⟨Or.inr rfl, ⟨Or.inl rfl, ⟨Or.inl rfl, ⟨Or.inr rfl, trivial⟩⟩⟩⟩⟩ ?_
      obtain ⟨t9, hw⟩ := hw
      have step39 : ∀ (K5 : Int32 → Prop), (∀ (x4 : Int32), K5 x4 → zz_Go zz_M 7 cX5_judge RX5 5 (some .int) post 39 [] [.ref 0, .int p1, .null, .null, .int x4] h3) → ∀ (x4 : Int32), wX5_judge_b39 p1 post h3 K5 x4 → zz_Go zz_M 7 cX5_judge RX5 5 (some .int) post 39 [] [.ref 0, .int p1, .null, .null, .int x4] h3 := by
        intro K5 ih39 x4 hw
        unfold wX5_judge_b39 at hw
        refine zr_iload dX5_judge_39 rfl ?_
        refine zr_aload_n dX5_judge_41 rfl rfl ?_
        refine zr_getR zz_cX5 zz_M0 13 (by decide) rfl zf_X5_31 dX5_judge_42 ?_
        refine zr_iload_n dX5_judge_45 rfl rfl ?_
        obtain ⟨hi, hw⟩ := hw
        refine zr_iald zz_M8 hi rfl dX5_judge_46 ?_
        have j90 : wX5_judge_j90 p1 post h3 x4 → zz_Go zz_M 7 cX5_judge RX5 5 (some .int) post 90 [] [.ref 0, .int p1, .null, .null, .int x4] h3 := by
          intro hw
          unfold wX5_judge_j90 at hw
          refine zr_iload dX5_judge_90 rfl ?_
          refine zr_aload_n dX5_judge_92 rfl rfl ?_
          refine zr_getR zz_cX5 zz_M0 13 (by decide) rfl zf_X5_31 dX5_judge_93 ?_
          refine zr_iload_n dX5_judge_96 rfl rfl ?_
          obtain ⟨hi, hw⟩ := hw
          refine zr_iald zz_M8 hi rfl dX5_judge_97 ?_
          refine zr_icmp_ne 117 dX5_judge_98 (by decide) (fun q => ?_) (fun q => ?_)
          · have hw := hw.1 q
            refine zr_iconst dX5_judge_117 zqk_1 ?_
            refine zr_iload dX5_judge_118 rfl ?_
            refine zr_iadd dX5_judge_120 ?_
            exact zr_ret rfl rfl dX5_judge_121 hw
          · have hw := hw.2 q
            refine zr_iload dX5_judge_101 rfl ?_
            refine zr_aload_n dX5_judge_103 rfl rfl ?_
            refine zr_getR zz_cX5 zz_M0 0 (by decide) rfl zf_X5_7 dX5_judge_104 ?_
            refine zr_bipush dX5_judge_107 zbk_17 ?_
            refine zr_iald zz_M1 (zz_vin (by decide)) (j := 17) (by decide) dX5_judge_109 ?_
            refine zr_icmp_ne 117 dX5_judge_110 (by decide) (fun q => ?_) (fun q => ?_)
            · have hw := hw.1 q
              refine zr_iconst dX5_judge_117 zqk_1 ?_
              refine zr_iload dX5_judge_118 rfl ?_
              refine zr_iadd dX5_judge_120 ?_
              exact zr_ret rfl rfl dX5_judge_121 hw
            · have hw := hw.2 q
              refine zr_iconst dX5_judge_113 zqk_0 ?_
              refine zr_goto 121 dX5_judge_114 (by decide) ?_
              exact zr_ret rfl rfl dX5_judge_121 hw
        refine zr_icmp_ge 90 dX5_judge_47 (by decide) (fun q => ?_) (fun q => ?_)
        · have hw := hw.1 q
          exact j90 hw
        · have hw := hw.2 q
          refine zr_iload dX5_judge_50 rfl ?_
          refine zr_aload_n dX5_judge_52 rfl rfl ?_
          refine zr_getR zz_cX5 zz_M0 0 (by decide) rfl zf_X5_7 dX5_judge_53 ?_
          refine zr_bipush dX5_judge_56 zbk_17 ?_
          refine zr_iald zz_M1 (zz_vin (by decide)) (j := 17) (by decide) dX5_judge_58 ?_
          refine zr_icmp_ge 90 dX5_judge_59 (by decide) (fun q => ?_) (fun q => ?_)
          · have hw := hw.1 q
            exact j90 hw
          · have hw := hw.2 q
            refine zr_aload_n dX5_judge_62 rfl rfl ?_
            refine zr_getR zz_cX5 zz_M0 14 (by decide) rfl zf_X5_34 dX5_judge_63 ?_
            refine zr_bipush dX5_judge_66 zbk_40 ?_
            refine zr_iload_n dX5_judge_68 rfl rfl ?_
            refine zr_imul dX5_judge_69 ?_
            refine zr_iload dX5_judge_70 rfl ?_
            refine zr_iadd dX5_judge_72 ?_
            obtain ⟨hi, hw⟩ := hw
            refine zr_iald zz_M9 hi rfl dX5_judge_73 ?_
            refine zr_aload_n dX5_judge_74 rfl rfl ?_
            refine zr_getR zz_cX5 zz_M0 5 (by decide) rfl zf_X5_22 dX5_judge_75 ?_
            refine zr_iload dX5_judge_78 rfl ?_
            obtain ⟨hi, hw⟩ := hw
            refine zr_iald zz_M5 hi rfl dX5_judge_80 ?_
            refine zr_icmp_ne 90 dX5_judge_81 (by decide) (fun q => ?_) (fun q => ?_)
            · have hw := hw.1 q
              exact j90 hw
            · have hw := hw.2 q
              refine zr_iinc (x4 + 1) [.ref 0, .int p1, .null, .null, .int (x4 + 1)] dX5_judge_84 rfl (zok_1 _) (by decide) rfl rfl ?_
              refine zr_goto 39 dX5_judge_87 (by decide) ?_
              exact ih39 _ hw
      have key39 : ∀ (t9 : Nat) (x4 : Int32), zz_lp (fun K (s : Int32) => wX5_judge_b39 p1 post h3 K s) t9 x4 → zz_Go zz_M 7 cX5_judge RX5 5 (some .int) post 39 [] [.ref 0, .int p1, .null, .null, .int x4] h3 := by
        intro t9
        induction t9 with
        | zero => intro x4 hw; exact hw.elim
        | succ t9 ih => intro x4 hw; exact step39 _ ih _ hw
      exact key39 t9 _ hw
    · have hw := hw.2 q
      refine zr_aload_n dX5_judge_24 rfl rfl ?_
      refine zr_ldc zk_X5_40 dX5_judge_25 ?_
      refine zr_callVi zz_cX5 zz_M0 (ctX5_finds ((-1000001) : Int32) h0 _ hw) zy_X5_finds zm_X5_59 (by decide) rfl rfl (Nat.le_of_ble_eq_true rfl) dX5_judge_27 (fun r7 h6 hw => ?_)
      exact zr_ret rfl rfl dX5_judge_30 hw
  · have hw := hw.2 q
    refine zr_aload_n dX5_judge_10 rfl rfl ?_
    refine zr_iload_n dX5_judge_11 rfl rfl ?_
    refine zr_callVi zz_cX5 zz_M0 (ctX5_finds r1 h0 _ hw) zy_X5_finds zm_X5_59 (by decide) rfl rfl (Nat.le_of_ble_eq_true rfl) dX5_judge_12 (fun r9 h8 hw => ?_)
    exact zr_ret rfl rfl dX5_judge_15 hw
def wX5_image_b2 (post : Int32 → zz_H → Prop) (K3 : Int32 × zz_H → Prop) (x1 : Int32) (h2 : zz_H) : Prop :=
  (((245 : Int32) ≤ x1) → (zz_sto h2 0 (upd (h2 0) 4 (1 : Int32)) (fun h4 => post (1 : Int32) h4))) ∧ ((¬ (245 : Int32) ≤ x1) → (vp_in x1 245 ∧ (vp_in x1 245 ∧ zz_sto h2 2 (upd (h2 2) x1.toNatClampNeg (h2 1 x1.toNatClampNeg)) (fun h5 => K3 ((x1 + 1), h5)))))
def wX5_image (h0 : zz_H) (post : Int32 → zz_H → Prop) : Prop :=
  ∃ t9, zz_lp (fun K (s : Int32 × zz_H) => wX5_image_b2 post K s.1 s.2) t9 ((0 : Int32), h0)
set_option maxRecDepth 20000 in
set_option maxHeartbeats 4000000 in
theorem ctX5_image (h0 : zz_H) (post : Int32 → zz_H → Prop) (hw : wX5_image h0 post) : zz_Ct zz_M 0 yX5_image cX5_image 2 (some .int) [.ref 0] h0 post := by
  refine zz_ct (L := [.ref 0, .null]) (by decide +kernel) (Nat.le_of_ble_eq_true rfl) (fun ad q hq => hq) ?_
  show zz_Go zz_M 0 cX5_image RX5 2 (some .int) post 0 [] [.ref 0, .null] h0
  unfold wX5_image at hw
  refine zr_iconst dX5_image_0 zqk_0 ?_
  refine zr_istore_n [.ref 0, .int (0 : Int32)] dX5_image_1 rfl (by decide) rfl rfl ?_
  obtain ⟨t9, hw⟩ := hw
  have step2 : ∀ (K3 : Int32 × zz_H → Prop), (∀ (x1 : Int32) (h2 : zz_H), K3 (x1, h2) → zz_Go zz_M 0 cX5_image RX5 2 (some .int) post 2 [] [.ref 0, .int x1] h2) → ∀ (x1 : Int32) (h2 : zz_H), wX5_image_b2 post K3 x1 h2 → zz_Go zz_M 0 cX5_image RX5 2 (some .int) post 2 [] [.ref 0, .int x1] h2 := by
    intro K3 ih2 x1 h2 hw
    unfold wX5_image_b2 at hw
    refine zr_iload_n dX5_image_2 rfl rfl ?_
    refine zr_sipush dX5_image_3 zhk_245 ?_
    refine zr_icmp_ge 27 dX5_image_6 (by decide) (fun q => ?_) (fun q => ?_)
    · have hw := hw.1 q
      refine zr_aload_n dX5_image_27 rfl rfl ?_
      refine zr_iconst dX5_image_28 zqk_1 ?_
      refine zr_putI zz_cX5 zz_M0 4 (by decide) rfl rfl rfl rfl rfl zf_X5_252 dX5_image_29 hw (fun h4 hw => ?_)
      refine zr_iconst dX5_image_32 zqk_1 ?_
      exact zr_ret rfl rfl dX5_image_33 hw
    · have hw := hw.2 q
      refine zr_aload_n dX5_image_9 rfl rfl ?_
      refine zr_getR zz_cX5 zz_M0 1 (by decide) rfl zf_X5_13 dX5_image_10 ?_
      refine zr_iload_n dX5_image_13 rfl rfl ?_
      refine zr_aload_n dX5_image_14 rfl rfl ?_
      refine zr_getR zz_cX5 zz_M0 0 (by decide) rfl zf_X5_7 dX5_image_15 ?_
      refine zr_iload_n dX5_image_18 rfl rfl ?_
      obtain ⟨hi, hw⟩ := hw
      refine zr_iald zz_M1 hi rfl dX5_image_19 ?_
      obtain ⟨hi, hw⟩ := hw
      refine zr_iast zz_M2 hi rfl dX5_image_20 hw (fun h5 hw => ?_)
      refine zr_iinc (x1 + 1) [.ref 0, .int (x1 + 1)] dX5_image_21 rfl (zok_1 _) (by decide) rfl rfl ?_
      refine zr_goto 2 dX5_image_24 (by decide) ?_
      exact ih2 _ _ hw
  have key2 : ∀ (t9 : Nat) (x1 : Int32) (h2 : zz_H), zz_lp (fun K (s : Int32 × zz_H) => wX5_image_b2 post K s.1 s.2) t9 (x1, h2) → zz_Go zz_M 0 cX5_image RX5 2 (some .int) post 2 [] [.ref 0, .int x1] h2 := by
    intro t9
    induction t9 with
    | zero => intro x1 h2 hw; exact hw.elim
    | succ t9 ih => intro x1 h2 hw; exact step2 _ ih _ _ hw
  exact key2 t9 _ _ hw
def wX5_undo_b16 (post : Int32 → zz_H → Prop) (K3 : Int32 × zz_H → Prop) (x1 : Int32) (h2 : zz_H) : Prop :=
  (((245 : Int32) ≤ x1) → (post (h2 1 17) h2)) ∧ ((¬ (245 : Int32) ≤ x1) → (vp_in x1 245 ∧ (vp_in x1 245 ∧ zz_sto h2 1 (upd (h2 1) x1.toNatClampNeg (h2 2 x1.toNatClampNeg)) (fun h4 => K3 ((x1 + 1), h4)))))
def wX5_undo (h0 : zz_H) (post : Int32 → zz_H → Prop) : Prop :=
  ((¬ (h0 0 4) = 0) → (∃ t9, zz_lp (fun K (s : Int32 × zz_H) => wX5_undo_b16 post K s.1 s.2) t9 ((0 : Int32), h0))) ∧ (((h0 0 4) = 0) → (wX5_finds ((-1000004) : Int32) h0 (fun r6 h5 => post r6 h5)))
set_option maxRecDepth 20000 in
set_option maxHeartbeats 4000000 in
theorem ctX5_undo (h0 : zz_H) (post : Int32 → zz_H → Prop) (hw : wX5_undo h0 post) : zz_Ct zz_M 1 yX5_undo cX5_undo 2 (some .int) [.ref 0] h0 post := by
  refine zz_ct (L := [.ref 0, .null]) (by decide +kernel) (Nat.le_of_ble_eq_true rfl) (fun ad q hq => hq) ?_
  show zz_Go zz_M 1 cX5_undo RX5 2 (some .int) post 0 [] [.ref 0, .null] h0
  unfold wX5_undo at hw
  refine zr_aload_n dX5_undo_0 rfl rfl ?_
  refine zr_getI zz_cX5 zz_M0 4 (by decide) rfl zf_X5_252 dX5_undo_1 ?_
  refine zr_if_ne 14 dX5_undo_4 (by decide) (fun q => ?_) (fun q => ?_)
  · have hw := hw.1 q
    refine zr_iconst dX5_undo_14 zqk_0 ?_
    refine zr_istore_n [.ref 0, .int (0 : Int32)] dX5_undo_15 rfl (by decide) rfl rfl ?_
    obtain ⟨t9, hw⟩ := hw
    have step16 : ∀ (K3 : Int32 × zz_H → Prop), (∀ (x1 : Int32) (h2 : zz_H), K3 (x1, h2) → zz_Go zz_M 1 cX5_undo RX5 2 (some .int) post 16 [] [.ref 0, .int x1] h2) → ∀ (x1 : Int32) (h2 : zz_H), wX5_undo_b16 post K3 x1 h2 → zz_Go zz_M 1 cX5_undo RX5 2 (some .int) post 16 [] [.ref 0, .int x1] h2 := by
      intro K3 ih16 x1 h2 hw
      unfold wX5_undo_b16 at hw
      refine zr_iload_n dX5_undo_16 rfl rfl ?_
      refine zr_sipush dX5_undo_17 zhk_245 ?_
      refine zr_icmp_ge 41 dX5_undo_20 (by decide) (fun q => ?_) (fun q => ?_)
      · have hw := hw.1 q
        refine zr_aload_n dX5_undo_41 rfl rfl ?_
        refine zr_getR zz_cX5 zz_M0 0 (by decide) rfl zf_X5_7 dX5_undo_42 ?_
        refine zr_bipush dX5_undo_45 zbk_17 ?_
        refine zr_iald zz_M1 (zz_vin (by decide)) (j := 17) (by decide) dX5_undo_47 ?_
        exact zr_ret rfl rfl dX5_undo_48 hw
      · have hw := hw.2 q
        refine zr_aload_n dX5_undo_23 rfl rfl ?_
        refine zr_getR zz_cX5 zz_M0 0 (by decide) rfl zf_X5_7 dX5_undo_24 ?_
        refine zr_iload_n dX5_undo_27 rfl rfl ?_
        refine zr_aload_n dX5_undo_28 rfl rfl ?_
        refine zr_getR zz_cX5 zz_M0 1 (by decide) rfl zf_X5_13 dX5_undo_29 ?_
        refine zr_iload_n dX5_undo_32 rfl rfl ?_
        obtain ⟨hi, hw⟩ := hw
        refine zr_iald zz_M2 hi rfl dX5_undo_33 ?_
        obtain ⟨hi, hw⟩ := hw
        refine zr_iast zz_M1 hi rfl dX5_undo_34 hw (fun h4 hw => ?_)
        refine zr_iinc (x1 + 1) [.ref 0, .int (x1 + 1)] dX5_undo_35 rfl (zok_1 _) (by decide) rfl rfl ?_
        refine zr_goto 16 dX5_undo_38 (by decide) ?_
        exact ih16 _ _ hw
    have key16 : ∀ (t9 : Nat) (x1 : Int32) (h2 : zz_H), zz_lp (fun K (s : Int32 × zz_H) => wX5_undo_b16 post K s.1 s.2) t9 (x1, h2) → zz_Go zz_M 1 cX5_undo RX5 2 (some .int) post 16 [] [.ref 0, .int x1] h2 := by
      intro t9
      induction t9 with
      | zero => intro x1 h2 hw; exact hw.elim
      | succ t9 ih => intro x1 h2 hw; exact step16 _ ih _ _ hw
    exact key16 t9 _ _ hw
  · have hw := hw.2 q
    refine zr_aload_n dX5_undo_7 rfl rfl ?_
    refine zr_ldc zk_X5_89 dX5_undo_8 ?_
    refine zr_callVi zz_cX5 zz_M0 (ctX5_finds ((-1000004) : Int32) h0 _ hw) zy_X5_finds zm_X5_59 (by decide) rfl rfl (Nat.le_of_ble_eq_true rfl) dX5_undo_10 (fun r6 h5 hw => ?_)
    exact zr_ret rfl rfl dX5_undo_13 hw
def wX5_tear (h0 : zz_H) (post : Int32 → zz_H → Prop) : Prop :=
  (((h0 0 4) = 0) → (zz_sto h0 0 (upd (h0 0) 4 (0 : Int32)) (fun h1 => post (0 : Int32) h1))) ∧ ((¬ (h0 0 4) = 0) → (zz_sto h0 0 (upd (h0 0) 4 (0 : Int32)) (fun h2 => post (1 : Int32) h2)))
set_option maxRecDepth 20000 in
set_option maxHeartbeats 4000000 in
theorem ctX5_tear (h0 : zz_H) (post : Int32 → zz_H → Prop) (hw : wX5_tear h0 post) : zz_Ct zz_M 0 yX5_tear cX5_tear 2 (some .int) [.ref 0] h0 post := by
  refine zz_ct (L := [.ref 0, .null]) (by decide +kernel) (Nat.le_of_ble_eq_true rfl) (fun ad q hq => hq) ?_
  show zz_Go zz_M 0 cX5_tear RX5 2 (some .int) post 0 [] [.ref 0, .null] h0
  unfold wX5_tear at hw
  refine zr_aload_n dX5_tear_0 rfl rfl ?_
  refine zr_getI zz_cX5 zz_M0 4 (by decide) rfl zf_X5_252 dX5_tear_1 ?_
  refine zr_if_eq 11 dX5_tear_4 (by decide) (fun q => ?_) (fun q => ?_)
  · have hw := hw.1 q
    refine zr_iconst dX5_tear_11 zqk_0 ?_
    refine zr_istore_n [.ref 0, .int (0 : Int32)] dX5_tear_12 rfl (by decide) rfl rfl ?_
    refine zr_aload_n dX5_tear_13 rfl rfl ?_
    refine zr_iconst dX5_tear_14 zqk_0 ?_
    refine zr_putI zz_cX5 zz_M0 4 (by decide) rfl rfl rfl rfl rfl zf_X5_252 dX5_tear_15 hw (fun h1 hw => ?_)
    refine zr_iload_n dX5_tear_18 rfl rfl ?_
    exact zr_ret rfl rfl dX5_tear_19 hw
  · have hw := hw.2 q
    refine zr_iconst dX5_tear_7 zqk_1 ?_
    refine zr_goto 12 dX5_tear_8 (by decide) ?_
    refine zr_istore_n [.ref 0, .int (1 : Int32)] dX5_tear_12 rfl (by decide) rfl rfl ?_
    refine zr_aload_n dX5_tear_13 rfl rfl ?_
    refine zr_iconst dX5_tear_14 zqk_0 ?_
    refine zr_putI zz_cX5 zz_M0 4 (by decide) rfl rfl rfl rfl rfl zf_X5_252 dX5_tear_15 hw (fun h2 hw => ?_)
    refine zr_iload_n dX5_tear_18 rfl rfl ?_
    exact zr_ret rfl rfl dX5_tear_19 hw
def wX5_count_b79 (h0 : zz_H) (post : Int32 → zz_H → Prop) (K5 : Int32 × Int32 → Prop) (x3 : Int32) (x4 : Int32) : Prop :=
  (((10 : Int32) ≤ x4) → (post x3 h0)) ∧ ((¬ (10 : Int32) ≤ x4) → (vp_in ((235 : Int32) + x4) 245 ∧ (((0 ≤ (h0 1 ((235 : Int32) + x4).toNatClampNeg)) → (K5 ((x3 + (1 : Int32)), (x4 + 1)))) ∧ ((¬ 0 ≤ (h0 1 ((235 : Int32) + x4).toNatClampNeg)) → (K5 ((x3 + (0 : Int32)), (x4 + 1)))))))
def wX5_count (p1 : Int32) (h0 : zz_H) (post : Int32 → zz_H → Prop) : Prop :=
  (p1 = (0 : Int32) → (post (h0 1 17) h0)) ∧ (p1 = (1 : Int32) → (post (h0 1 18) h0)) ∧ (p1 = (2 : Int32) → (wX5_commons h0 (fun r1 => wX5_ones r1 h0 (fun r2 => post r2 h0)))) ∧ (p1 = (3 : Int32) → (post (h0 0 7) h0)) ∧ (p1 = (4 : Int32) → (post (h0 1 16) h0)) ∧ (p1 = (5 : Int32) → (∃ t9, zz_lp (fun K (s : Int32 × Int32) => wX5_count_b79 h0 post K s.1 s.2) t9 ((0 : Int32), (0 : Int32)))) ∧ ((¬ p1 = (0 : Int32)) → (¬ p1 = (1 : Int32)) → (¬ p1 = (2 : Int32)) → (¬ p1 = (3 : Int32)) → (¬ p1 = (4 : Int32)) → (¬ p1 = (5 : Int32)) → (wX5_finds ((-1000001) : Int32) h0 (fun r7 h6 => post r7 h6)))
set_option maxRecDepth 20000 in
set_option maxHeartbeats 4000000 in
theorem ctX5_count (p1 : Int32) (h0 : zz_H) (post : Int32 → zz_H → Prop) (hw : wX5_count p1 h0 post) : zz_Ct zz_M 1 yX5_count cX5_count 4 (some .int) [.ref 0, .int p1] h0 post := by
  refine zz_ct (L := [.ref 0, .int p1, .null, .null]) (by decide +kernel) (Nat.le_of_ble_eq_true rfl) (fun ad q hq => hq) ?_
  show zz_Go zz_M 1 cX5_count RX5 4 (some .int) post 0 [] [.ref 0, .int p1, .null, .null] h0
  unfold wX5_count at hw
  refine zr_iconst dX5_count_0 zqk_0 ?_
  refine zr_istore_n [.ref 0, .int p1, .int (0 : Int32), .null] dX5_count_1 rfl (by decide) rfl rfl ?_
  refine zr_iload_n dX5_count_2 rfl rfl ?_
  by_cases q0 : p1 = (0 : Int32)
  · have hw := hw.1 q0
    refine zr_tabIn 40 dX5_count_3 (by rw [q0]; decide) (by rw [q0]; decide) (off := 37) (by rw [q0]; decide) (by decide) ?_
    refine zr_aload_n dX5_count_40 rfl rfl ?_
    refine zr_getR zz_cX5 zz_M0 0 (by decide) rfl zf_X5_7 dX5_count_41 ?_
    refine zr_bipush dX5_count_44 zbk_17 ?_
    refine zr_iald zz_M1 (zz_vin (by decide)) (j := 17) (by decide) dX5_count_46 ?_
    exact zr_ret rfl rfl dX5_count_47 hw
  by_cases q1 : p1 = (1 : Int32)
  · have hw := hw.2.1 q1
    refine zr_tabIn 48 dX5_count_3 (by rw [q1]; decide) (by rw [q1]; decide) (off := 45) (by rw [q1]; decide) (by decide) ?_
    refine zr_aload_n dX5_count_48 rfl rfl ?_
    refine zr_getR zz_cX5 zz_M0 0 (by decide) rfl zf_X5_7 dX5_count_49 ?_
    refine zr_bipush dX5_count_52 zbk_18 ?_
    refine zr_iald zz_M1 (zz_vin (by decide)) (j := 18) (by decide) dX5_count_54 ?_
    exact zr_ret rfl rfl dX5_count_55 hw
  by_cases q2 : p1 = (2 : Int32)
  · have hw := hw.2.2.1 q2
    refine zr_tabIn 56 dX5_count_3 (by rw [q2]; decide) (by rw [q2]; decide) (off := 53) (by rw [q2]; decide) (by decide) ?_
    refine zr_aload_n dX5_count_56 rfl rfl ?_
    refine zr_pVi zz_cX5 zz_M0 (ctX5_commons h0 _ hw) zy_X5_commons zm_X5_103 (by decide) rfl rfl (Nat.le_of_ble_eq_true rfl) dX5_count_57 (fun r1 hw => ?_)
    refine zr_pSi (ctX5_ones r1 h0 _ hw) zy_X5_ones zm_X5_160 (by decide) rfl rfl (Nat.le_of_ble_eq_true rfl) dX5_count_60 (fun r2 hw => ?_)
    exact zr_ret rfl rfl dX5_count_63 hw
  by_cases q3 : p1 = (3 : Int32)
  · have hw := hw.2.2.2.1 q3
    refine zr_tabIn 64 dX5_count_3 (by rw [q3]; decide) (by rw [q3]; decide) (off := 61) (by rw [q3]; decide) (by decide) ?_
    refine zr_aload_n dX5_count_64 rfl rfl ?_
    refine zr_getI zz_cX5 zz_M0 7 (by decide) rfl zf_X5_177 dX5_count_65 ?_
    exact zr_ret rfl rfl dX5_count_68 hw
  by_cases q4 : p1 = (4 : Int32)
  · have hw := hw.2.2.2.2.1 q4
    refine zr_tabIn 69 dX5_count_3 (by rw [q4]; decide) (by rw [q4]; decide) (off := 66) (by rw [q4]; decide) (by decide) ?_
    refine zr_aload_n dX5_count_69 rfl rfl ?_
    refine zr_getR zz_cX5 zz_M0 0 (by decide) rfl zf_X5_7 dX5_count_70 ?_
    refine zr_bipush dX5_count_73 zbk_16 ?_
    refine zr_iald zz_M1 (zz_vin (by decide)) (j := 16) (by decide) dX5_count_75 ?_
    exact zr_ret rfl rfl dX5_count_76 hw
  by_cases q5 : p1 = (5 : Int32)
  · have hw := hw.2.2.2.2.2.1 q5
    refine zr_tabIn 77 dX5_count_3 (by rw [q5]; decide) (by rw [q5]; decide) (off := 74) (by rw [q5]; decide) (by decide) ?_
    refine zr_iconst dX5_count_77 zqk_0 ?_
    refine zr_istore_n [.ref 0, .int p1, .int (0 : Int32), .int (0 : Int32)] dX5_count_78 rfl (by decide) rfl rfl ?_
    refine zr_sub [.ref 0, .null, .int (0 : Int32), .int (0 : Int32)] ⟨Or.inr rfl, ⟨Or.inl rfl, ⟨Or.inr rfl, ⟨Or.inr rfl, trivial⟩⟩⟩⟩ ?_
    obtain ⟨t9, hw⟩ := hw
    have step79 : ∀ (K5 : Int32 × Int32 → Prop), (∀ (x3 : Int32) (x4 : Int32), K5 (x3, x4) → zz_Go zz_M 1 cX5_count RX5 4 (some .int) post 79 [] [.ref 0, .null, .int x3, .int x4] h0) → ∀ (x3 : Int32) (x4 : Int32), wX5_count_b79 h0 post K5 x3 x4 → zz_Go zz_M 1 cX5_count RX5 4 (some .int) post 79 [] [.ref 0, .null, .int x3, .int x4] h0 := by
      intro K5 ih79 x3 x4 hw
      unfold wX5_count_b79 at hw
      refine zr_iload_n dX5_count_79 rfl rfl ?_
      refine zr_bipush dX5_count_80 zbk_10 ?_
      refine zr_icmp_ge 112 dX5_count_82 (by decide) (fun q => ?_) (fun q => ?_)
      · have hw := hw.1 q
        refine zr_iload_n dX5_count_112 rfl rfl ?_
        exact zr_ret rfl rfl dX5_count_113 hw
      · have hw := hw.2 q
        refine zr_iload_n dX5_count_85 rfl rfl ?_
        refine zr_aload_n dX5_count_86 rfl rfl ?_
        refine zr_getR zz_cX5 zz_M0 0 (by decide) rfl zf_X5_7 dX5_count_87 ?_
        refine zr_sipush dX5_count_90 zhk_235 ?_
        refine zr_iload_n dX5_count_93 rfl rfl ?_
        refine zr_iadd dX5_count_94 ?_
        obtain ⟨hi, hw⟩ := hw
        refine zr_iald zz_M1 hi rfl dX5_count_95 ?_
        refine zr_if_ge 103 dX5_count_96 (by decide) (fun q => ?_) (fun q => ?_)
        · have hw := hw.1 q
          refine zr_iconst dX5_count_103 zqk_1 ?_
          refine zr_iadd dX5_count_104 ?_
          refine zr_istore_n [.ref 0, .null, .int (x3 + (1 : Int32)), .int x4] dX5_count_105 rfl (by decide) rfl rfl ?_
          refine zr_iinc (x4 + 1) [.ref 0, .null, .int (x3 + (1 : Int32)), .int (x4 + 1)] dX5_count_106 rfl (zok_1 _) (by decide) rfl rfl ?_
          refine zr_goto 79 dX5_count_109 (by decide) ?_
          exact ih79 _ _ hw
        · have hw := hw.2 q
          refine zr_iconst dX5_count_99 zqk_0 ?_
          refine zr_goto 104 dX5_count_100 (by decide) ?_
          refine zr_iadd dX5_count_104 ?_
          refine zr_istore_n [.ref 0, .null, .int (x3 + (0 : Int32)), .int x4] dX5_count_105 rfl (by decide) rfl rfl ?_
          refine zr_iinc (x4 + 1) [.ref 0, .null, .int (x3 + (0 : Int32)), .int (x4 + 1)] dX5_count_106 rfl (zok_1 _) (by decide) rfl rfl ?_
          refine zr_goto 79 dX5_count_109 (by decide) ?_
          exact ih79 _ _ hw
    have key79 : ∀ (t9 : Nat) (x3 : Int32) (x4 : Int32), zz_lp (fun K (s : Int32 × Int32) => wX5_count_b79 h0 post K s.1 s.2) t9 (x3, x4) → zz_Go zz_M 1 cX5_count RX5 4 (some .int) post 79 [] [.ref 0, .null, .int x3, .int x4] h0 := by
      intro t9
      induction t9 with
      | zero => intro x3 x4 hw; exact hw.elim
      | succ t9 ih => intro x3 x4 hw; exact step79 _ ih _ _ hw
    exact key79 t9 _ _ hw
  have hw := hw.2.2.2.2.2.2 q0 q1 q2 q3 q4 q5
  refine zr_tabOut 114 dX5_count_3 (zz_tout (fun j h1 h2 => by rcases (show j = 0 ∨ j = 1 ∨ j = 2 ∨ j = 3 ∨ j = 4 ∨ j = 5 by omega) with rfl | rfl | rfl | rfl | rfl | rfl <;> first | exact fun e => q0 (e.trans zqk_0) | exact fun e => q1 (e.trans zqk_1) | exact fun e => q2 (e.trans zqk_2) | exact fun e => q3 (e.trans zqk_3) | exact fun e => q4 (e.trans zqk_4) | exact fun e => q5 (e.trans zqk_5))) (by decide) ?_
  refine zr_aload_n dX5_count_114 rfl rfl ?_
  refine zr_ldc zk_X5_40 dX5_count_115 ?_
  refine zr_callVi zz_cX5 zz_M0 (ctX5_finds ((-1000001) : Int32) h0 _ hw) zy_X5_finds zm_X5_59 (by decide) rfl rfl (Nat.le_of_ble_eq_true rfl) dX5_count_117 (fun r7 h6 hw => ?_)
  exact zr_ret rfl rfl dX5_count_120 hw
def wX5_status_j41 (h0 : zz_H) (x2 : Int32) (x3 : Int32) (K4 : Int32 × Int32 → Prop) : Prop :=
  vp_in x3 7 ∧ (K4 ((x2 + (h0 4 x3.toNatClampNeg)), (x3 + 1)))
def wX5_status_b25 (p1 : Int32) (h0 : zz_H) (post : Int32 → zz_H → Prop) (K4 : Int32 × Int32 → Prop) (x2 : Int32) (x3 : Int32) : Prop :=
  (((7 : Int32) ≤ x3) → (post x2 h0)) ∧ ((¬ (7 : Int32) ≤ x3) → (((p1 < 0) → (wX5_status_j41 h0 x2 x3 K4)) ∧ ((¬ p1 < 0) → (((¬ x3 = p1) → (K4 ((x2 + (0 : Int32)), (x3 + 1)))) ∧ ((x3 = p1) → (wX5_status_j41 h0 x2 x3 K4))))))
def wX5_status (p1 : Int32) (h0 : zz_H) (post : Int32 → zz_H → Prop) : Prop :=
  wX5_in (p1.toInt64) ((-1) : Int64) (6 : Int64) h0 (fun r1 => ((¬ r1 = 0) → (∃ t9, zz_lp (fun K (s : Int32 × Int32) => wX5_status_b25 p1 h0 post K s.1 s.2) t9 ((0 : Int32), (0 : Int32)))) ∧ ((r1 = 0) → (wX5_finds ((-1000001) : Int32) h0 (fun r6 h5 => post r6 h5))))
set_option maxRecDepth 20000 in
set_option maxHeartbeats 4000000 in
theorem ctX5_status (p1 : Int32) (h0 : zz_H) (post : Int32 → zz_H → Prop) (hw : wX5_status p1 h0 post) : zz_Ct zz_M 1 yX5_status cX5_status 4 (some .int) [.ref 0, .int p1] h0 post := by
  refine zz_ct (L := [.ref 0, .int p1, .null, .null]) (by decide +kernel) (Nat.le_of_ble_eq_true rfl) (fun ad q hq => hq) ?_
  show zz_Go zz_M 1 cX5_status RX5 4 (some .int) post 0 [] [.ref 0, .int p1, .null, .null] h0
  unfold wX5_status at hw
  refine zr_iload_n dX5_status_0 rfl rfl ?_
  refine zr_i2l dX5_status_1 ?_
  refine zr_ldc2 zl_X5_67 dX5_status_2 ?_
  refine zr_ldc2 zl_X5_107 dX5_status_5 ?_
  refine zr_pSi (ctX5_in (p1.toInt64) ((-1) : Int64) (6 : Int64) h0 _ hw) zy_X5_in zm_X5_43 (by decide) rfl rfl (Nat.le_of_ble_eq_true rfl) dX5_status_8 (fun r1 hw => ?_)
  refine zr_if_ne 21 dX5_status_11 (by decide) (fun q => ?_) (fun q => ?_)
  · have hw := hw.1 q
    refine zr_iconst dX5_status_21 zqk_0 ?_
    refine zr_istore_n [.ref 0, .int p1, .int (0 : Int32), .null] dX5_status_22 rfl (by decide) rfl rfl ?_
    refine zr_iconst dX5_status_23 zqk_0 ?_
    refine zr_istore_n [.ref 0, .int p1, .int (0 : Int32), .int (0 : Int32)] dX5_status_24 rfl (by decide) rfl rfl ?_
    obtain ⟨t9, hw⟩ := hw
    have step25 : ∀ (K4 : Int32 × Int32 → Prop), (∀ (x2 : Int32) (x3 : Int32), K4 (x2, x3) → zz_Go zz_M 1 cX5_status RX5 4 (some .int) post 25 [] [.ref 0, .int p1, .int x2, .int x3] h0) → ∀ (x2 : Int32) (x3 : Int32), wX5_status_b25 p1 h0 post K4 x2 x3 → zz_Go zz_M 1 cX5_status RX5 4 (some .int) post 25 [] [.ref 0, .int p1, .int x2, .int x3] h0 := by
      intro K4 ih25 x2 x3 hw
      unfold wX5_status_b25 at hw
      refine zr_iload_n dX5_status_25 rfl rfl ?_
      refine zr_bipush dX5_status_26 zbk_7 ?_
      refine zr_icmp_ge 59 dX5_status_28 (by decide) (fun q => ?_) (fun q => ?_)
      · have hw := hw.1 q
        refine zr_iload_n dX5_status_59 rfl rfl ?_
        exact zr_ret rfl rfl dX5_status_60 hw
      · have hw := hw.2 q
        refine zr_iload_n dX5_status_31 rfl rfl ?_
        refine zr_iload_n dX5_status_32 rfl rfl ?_
        have j41 : wX5_status_j41 h0 x2 x3 K4 → zz_Go zz_M 1 cX5_status RX5 4 (some .int) post 41 [.int x2] [.ref 0, .int p1, .null, .int x3] h0 := by
          intro hw
          unfold wX5_status_j41 at hw
          refine zr_aload_n dX5_status_41 rfl rfl ?_
          refine zr_getR zz_cX5 zz_M0 3 (by decide) rfl zf_X5_19 dX5_status_42 ?_
          refine zr_iload_n dX5_status_45 rfl rfl ?_
          obtain ⟨hi, hw⟩ := hw
          refine zr_iald zz_M4 hi rfl dX5_status_46 ?_
          refine zr_goto 51 dX5_status_47 (by decide) ?_
          refine zr_iadd dX5_status_51 ?_
          refine zr_istore_n [.ref 0, .int p1, .int (x2 + (h0 4 x3.toNatClampNeg)), .int x3] dX5_status_52 rfl (by decide) rfl rfl ?_
          refine zr_iinc (x3 + 1) [.ref 0, .int p1, .int (x2 + (h0 4 x3.toNatClampNeg)), .int (x3 + 1)] dX5_status_53 rfl (zok_1 _) (by decide) rfl rfl ?_
          refine zr_goto 25 dX5_status_56 (by decide) ?_
          exact ih25 _ _ hw
        refine zr_if_lt 41 dX5_status_33 (by decide) (fun q => ?_) (fun q => ?_)
        · have hw := hw.1 q
          refine zr_sub [.ref 0, .int p1, .null, .int x3] ⟨Or.inr rfl, ⟨Or.inr rfl, ⟨Or.inl rfl, ⟨Or.inr rfl, trivial⟩⟩⟩⟩ ?_
          exact j41 hw
        · have hw := hw.2 q
          refine zr_iload_n dX5_status_36 rfl rfl ?_
          refine zr_iload_n dX5_status_37 rfl rfl ?_
          refine zr_icmp_ne 50 dX5_status_38 (by decide) (fun q => ?_) (fun q => ?_)
          · have hw := hw.1 q
            refine zr_iconst dX5_status_50 zqk_0 ?_
            refine zr_iadd dX5_status_51 ?_
            refine zr_istore_n [.ref 0, .int p1, .int (x2 + (0 : Int32)), .int x3] dX5_status_52 rfl (by decide) rfl rfl ?_
            refine zr_iinc (x3 + 1) [.ref 0, .int p1, .int (x2 + (0 : Int32)), .int (x3 + 1)] dX5_status_53 rfl (zok_1 _) (by decide) rfl rfl ?_
            refine zr_goto 25 dX5_status_56 (by decide) ?_
            exact ih25 _ _ hw
          · have hw := hw.2 q
            refine zr_sub [.ref 0, .int p1, .null, .int x3] ⟨Or.inr rfl, ⟨Or.inr rfl, ⟨Or.inl rfl, ⟨Or.inr rfl, trivial⟩⟩⟩⟩ ?_
            exact j41 hw
    have key25 : ∀ (t9 : Nat) (x2 : Int32) (x3 : Int32), zz_lp (fun K (s : Int32 × Int32) => wX5_status_b25 p1 h0 post K s.1 s.2) t9 (x2, x3) → zz_Go zz_M 1 cX5_status RX5 4 (some .int) post 25 [] [.ref 0, .int p1, .int x2, .int x3] h0 := by
      intro t9
      induction t9 with
      | zero => intro x2 x3 hw; exact hw.elim
      | succ t9 ih => intro x2 x3 hw; exact step25 _ ih _ _ hw
    exact key25 t9 _ _ hw
  · have hw := hw.2 q
    refine zr_aload_n dX5_status_14 rfl rfl ?_
    refine zr_ldc zk_X5_40 dX5_status_15 ?_
    refine zr_callVi zz_cX5 zz_M0 (ctX5_finds ((-1000001) : Int32) h0 _ hw) zy_X5_finds zm_X5_59 (by decide) rfl rfl (Nat.le_of_ble_eq_true rfl) dX5_status_17 (fun r6 h5 hw => ?_)
    exact zr_ret rfl rfl dX5_status_20 hw
