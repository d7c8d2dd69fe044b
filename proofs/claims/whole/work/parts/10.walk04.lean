def wX5_linked (p1 : Int32) (h0 : zz_H) (post : Int32 → Prop) : Prop :=
  wX5_raw p1 h0 (fun r1 => wX5_oldMean h0 (fun r2 => wX5_newMean h0 (fun r3 => ((0 ≤ (r1 + ((r2 - r3) / (10 : Int32)))) → (wX5_full h0 (fun r4 => (((r1 + ((r2 - r3) / (10 : Int32))) ≤ r4) → (post (r1 + ((r2 - r3) / (10 : Int32))))) ∧ ((¬ (r1 + ((r2 - r3) / (10 : Int32))) ≤ r4) → (wX5_full h0 (fun r5 => post r5)))))) ∧ ((¬ 0 ≤ (r1 + ((r2 - r3) / (10 : Int32)))) → (post (0 : Int32))))))
set_option maxRecDepth 20000 in
set_option maxHeartbeats 4000000 in
theorem ctX5_linked (p1 : Int32) (h0 : zz_H) (post : Int32 → Prop) (hw : wX5_linked p1 h0 post) : zz_Ct zz_M 3 yX5_linked cX5_linked 3 (some .int) [.ref 0, .int p1] h0 (zz_pu h0 post) := by
  refine zz_ct (L := [.ref 0, .int p1, .null]) (by decide +kernel) (Nat.le_of_ble_eq_true rfl) (fun ad q hq => hq) ?_
  show zz_Go zz_M 3 cX5_linked RX5 3 (some .int) (zz_pu h0 post) 0 [] [.ref 0, .int p1, .null] h0
  unfold wX5_linked at hw
  refine zr_aload_n dX5_linked_0 rfl rfl ?_
  refine zr_iload_n dX5_linked_1 rfl rfl ?_
  refine zr_pVi zz_cX5 zz_M0 (ctX5_raw p1 h0 _ hw) zy_X5_raw zm_X5_84 (by decide) rfl rfl (Nat.le_of_ble_eq_true rfl) dX5_linked_2 (fun r1 hw => ?_)
  refine zr_aload_n dX5_linked_5 rfl rfl ?_
  refine zr_pVi zz_cX5 zz_M0 (ctX5_oldMean h0 _ hw) zy_X5_oldMean zm_X5_97 (by decide) rfl rfl (Nat.le_of_ble_eq_true rfl) dX5_linked_6 (fun r2 hw => ?_)
  refine zr_aload_n dX5_linked_9 rfl rfl ?_
  refine zr_pVi zz_cX5 zz_M0 (ctX5_newMean h0 _ hw) zy_X5_newMean zm_X5_100 (by decide) rfl rfl (Nat.le_of_ble_eq_true rfl) dX5_linked_10 (fun r3 hw => ?_)
  refine zr_isub dX5_linked_13 ?_
  refine zr_bipush dX5_linked_14 zbk_10 ?_
  refine zr_idiv dX5_linked_16 (by decide) ?_
  refine zr_iadd dX5_linked_17 ?_
  refine zr_istore_n [.ref 0, .int p1, .int (r1 + ((r2 - r3) / (10 : Int32)))] dX5_linked_18 rfl (by decide) rfl rfl ?_
  refine zr_iload_n dX5_linked_19 rfl rfl ?_
  refine zr_if_ge 27 dX5_linked_20 (by decide) (fun q => ?_) (fun q => ?_)
  · have hw := hw.1 q
    refine zr_iload_n dX5_linked_27 rfl rfl ?_
    refine zr_aload_n dX5_linked_28 rfl rfl ?_
    refine zr_pVi zz_cX5 zz_M0 (ctX5_full h0 _ hw) zy_X5_full zm_X5_90 (by decide) rfl rfl (Nat.le_of_ble_eq_true rfl) dX5_linked_29 (fun r4 hw => ?_)
    refine zr_icmp_le 42 dX5_linked_32 (by decide) (fun q => ?_) (fun q => ?_)
    · have hw := hw.1 q
      refine zr_iload_n dX5_linked_42 rfl rfl ?_
      exact zr_ret rfl rfl dX5_linked_43 ⟨rfl, hw⟩
    · have hw := hw.2 q
      refine zr_aload_n dX5_linked_35 rfl rfl ?_
      refine zr_pVi zz_cX5 zz_M0 (ctX5_full h0 _ hw) zy_X5_full zm_X5_90 (by decide) rfl rfl (Nat.le_of_ble_eq_true rfl) dX5_linked_36 (fun r5 hw => ?_)
      refine zr_goto 43 dX5_linked_39 (by decide) ?_
      exact zr_ret rfl rfl dX5_linked_43 ⟨rfl, hw⟩
  · have hw := hw.2 q
    refine zr_iconst dX5_linked_23 zqk_0 ?_
    refine zr_goto 43 dX5_linked_24 (by decide) ?_
    exact zr_ret rfl rfl dX5_linked_43 ⟨rfl, hw⟩
def wX5_dropped (p1 : Int32) (p2 : Int32) (h0 : zz_H) (post : Int32 → Prop) : Prop :=
  wX5_full h0 (fun r1 => vp_in ((0 : Int32) + p2) 245 ∧ (((¬ (r1 - (h0 1 ((0 : Int32) + p2).toNatClampNeg)) = 0) → (wX5_full h0 (fun r2 => wX5_raw p1 h0 (fun r3 => wX5_score p1 p2 h0 (fun r4 => ¬ (r1 - (h0 1 ((0 : Int32) + p2).toNatClampNeg)) = 0 ∧ (post ((r2 * (r3 - r4)) / (r1 - (h0 1 ((0 : Int32) + p2).toNatClampNeg))))))))) ∧ (((r1 - (h0 1 ((0 : Int32) + p2).toNatClampNeg)) = 0) → (post (0 : Int32)))))
set_option maxRecDepth 20000 in
set_option maxHeartbeats 4000000 in
theorem ctX5_dropped (p1 : Int32) (p2 : Int32) (h0 : zz_H) (post : Int32 → Prop) (hw : wX5_dropped p1 p2 h0 post) : zz_Ct zz_M 3 yX5_dropped cX5_dropped 4 (some .int) [.ref 0, .int p1, .int p2] h0 (zz_pu h0 post) := by
  refine zz_ct (L := [.ref 0, .int p1, .int p2, .null]) (by decide +kernel) (Nat.le_of_ble_eq_true rfl) (fun ad q hq => hq) ?_
  show zz_Go zz_M 3 cX5_dropped RX5 4 (some .int) (zz_pu h0 post) 0 [] [.ref 0, .int p1, .int p2, .null] h0
  unfold wX5_dropped at hw
  refine zr_aload_n dX5_dropped_0 rfl rfl ?_
  refine zr_pVi zz_cX5 zz_M0 (ctX5_full h0 _ hw) zy_X5_full zm_X5_90 (by decide) rfl rfl (Nat.le_of_ble_eq_true rfl) dX5_dropped_1 (fun r1 hw => ?_)
  refine zr_aload_n dX5_dropped_4 rfl rfl ?_
  refine zr_getR zz_cX5 zz_M0 0 (by decide) rfl zf_X5_7 dX5_dropped_5 ?_
  refine zr_iconst dX5_dropped_8 zqk_0 ?_
  refine zr_iload_n dX5_dropped_9 rfl rfl ?_
  refine zr_iadd dX5_dropped_10 ?_
  obtain ⟨hi, hw⟩ := hw
  refine zr_iald zz_M1 hi rfl dX5_dropped_11 ?_
  refine zr_isub dX5_dropped_12 ?_
  refine zr_istore_n [.ref 0, .int p1, .int p2, .int (r1 - (h0 1 ((0 : Int32) + p2).toNatClampNeg))] dX5_dropped_13 rfl (by decide) rfl rfl ?_
  refine zr_iload_n dX5_dropped_14 rfl rfl ?_
  refine zr_if_ne 22 dX5_dropped_15 (by decide) (fun q => ?_) (fun q => ?_)
  · have hw := hw.1 q
    refine zr_aload_n dX5_dropped_22 rfl rfl ?_
    refine zr_pVi zz_cX5 zz_M0 (ctX5_full h0 _ hw) zy_X5_full zm_X5_90 (by decide) rfl rfl (Nat.le_of_ble_eq_true rfl) dX5_dropped_23 (fun r2 hw => ?_)
    refine zr_aload_n dX5_dropped_26 rfl rfl ?_
    refine zr_iload_n dX5_dropped_27 rfl rfl ?_
    refine zr_pVi zz_cX5 zz_M0 (ctX5_raw p1 h0 _ hw) zy_X5_raw zm_X5_84 (by decide) rfl rfl (Nat.le_of_ble_eq_true rfl) dX5_dropped_28 (fun r3 hw => ?_)
    refine zr_aload_n dX5_dropped_31 rfl rfl ?_
    refine zr_iload_n dX5_dropped_32 rfl rfl ?_
    refine zr_iload_n dX5_dropped_33 rfl rfl ?_
    refine zr_pVi zz_cX5 zz_M0 (ctX5_score p1 p2 h0 _ hw) zy_X5_score zm_X5_78 (by decide) rfl rfl (Nat.le_of_ble_eq_true rfl) dX5_dropped_34 (fun r4 hw => ?_)
    refine zr_isub dX5_dropped_37 ?_
    refine zr_imul dX5_dropped_38 ?_
    refine zr_iload_n dX5_dropped_39 rfl rfl ?_
    obtain ⟨hne, hw⟩ := hw
    refine zr_idiv dX5_dropped_40 hne ?_
    exact zr_ret rfl rfl dX5_dropped_41 ⟨rfl, hw⟩
  · have hw := hw.2 q
    refine zr_iconst dX5_dropped_18 zqk_0 ?_
    refine zr_goto 41 dX5_dropped_19 (by decide) ?_
    exact zr_ret rfl rfl dX5_dropped_41 ⟨rfl, hw⟩
def wX5_markOf (p1 : Int32) (p2 : Int32) (h0 : zz_H) (post : Int32 → Prop) : Prop :=
  vp_in (((223 : Int32) + ((2 : Int32) * p1)) + (1 : Int32)) 245 ∧ (wX5_raw p2 h0 (fun r1 => vp_in ((223 : Int32) + ((2 : Int32) * p1)) 245 ∧ (((h0 1 ((223 : Int32) + ((2 : Int32) * p1)).toNatClampNeg) = (1 : Int32) → (wX5_full h0 (fun r2 => (((r1 + (h0 1 (((223 : Int32) + ((2 : Int32) * p1)) + (1 : Int32)).toNatClampNeg)) ≤ r2) → (post (r1 + (h0 1 (((223 : Int32) + ((2 : Int32) * p1)) + (1 : Int32)).toNatClampNeg)))) ∧ ((¬ (r1 + (h0 1 (((223 : Int32) + ((2 : Int32) * p1)) + (1 : Int32)).toNatClampNeg)) ≤ r2) → (wX5_full h0 (fun r3 => post r3)))))) ∧ ((h0 1 ((223 : Int32) + ((2 : Int32) * p1)).toNatClampNeg) = (2 : Int32) → (wX5_stretched p2 h0 (fun r4 => post r4))) ∧ ((h0 1 ((223 : Int32) + ((2 : Int32) * p1)).toNatClampNeg) = (3 : Int32) → (wX5_stretched p2 h0 (fun r5 => wX5_root ((100 : Int32) * r5) h0 (fun r6 => post r6)))) ∧ ((h0 1 ((223 : Int32) + ((2 : Int32) * p1)).toNatClampNeg) = (4 : Int32) → (wX5_shared p2 (h0 1 (((223 : Int32) + ((2 : Int32) * p1)) + (1 : Int32)).toNatClampNeg) h0 (fun r7 => post r7))) ∧ ((h0 1 ((223 : Int32) + ((2 : Int32) * p1)).toNatClampNeg) = (5 : Int32) → (wX5_linked p2 h0 (fun r8 => post r8))) ∧ ((h0 1 ((223 : Int32) + ((2 : Int32) * p1)).toNatClampNeg) = (6 : Int32) → (wX5_dropped p2 (zz_rem (h0 1 (((223 : Int32) + ((2 : Int32) * p1)) + (1 : Int32)).toNatClampNeg) (8 : Int32)) h0 (fun r9 => post r9))) ∧ ((¬ (h0 1 ((223 : Int32) + ((2 : Int32) * p1)).toNatClampNeg) = (1 : Int32)) → (¬ (h0 1 ((223 : Int32) + ((2 : Int32) * p1)).toNatClampNeg) = (2 : Int32)) → (¬ (h0 1 ((223 : Int32) + ((2 : Int32) * p1)).toNatClampNeg) = (3 : Int32)) → (¬ (h0 1 ((223 : Int32) + ((2 : Int32) * p1)).toNatClampNeg) = (4 : Int32)) → (¬ (h0 1 ((223 : Int32) + ((2 : Int32) * p1)).toNatClampNeg) = (5 : Int32)) → (¬ (h0 1 ((223 : Int32) + ((2 : Int32) * p1)).toNatClampNeg) = (6 : Int32)) → (post r1)))))
set_option maxRecDepth 20000 in
set_option maxHeartbeats 4000000 in
theorem ctX5_markOf (p1 : Int32) (p2 : Int32) (h0 : zz_H) (post : Int32 → Prop) (hw : wX5_markOf p1 p2 h0 post) : zz_Ct zz_M 5 yX5_markOf cX5_markOf 5 (some .int) [.ref 0, .int p1, .int p2] h0 (zz_pu h0 post) := by
  refine zz_ct (L := [.ref 0, .int p1, .int p2, .null, .null]) (by decide +kernel) (Nat.le_of_ble_eq_true rfl) (fun ad q hq => hq) ?_
  show zz_Go zz_M 5 cX5_markOf RX5 5 (some .int) (zz_pu h0 post) 0 [] [.ref 0, .int p1, .int p2, .null, .null] h0
  unfold wX5_markOf at hw
  refine zr_aload_n dX5_markOf_0 rfl rfl ?_
  refine zr_getR zz_cX5 zz_M0 0 (by decide) rfl zf_X5_7 dX5_markOf_1 ?_
  refine zr_sipush dX5_markOf_4 zhk_223 ?_
  refine zr_iconst dX5_markOf_7 zqk_2 ?_
  refine zr_iload_n dX5_markOf_8 rfl rfl ?_
  refine zr_imul dX5_markOf_9 ?_
  refine zr_iadd dX5_markOf_10 ?_
  refine zr_iconst dX5_markOf_11 zqk_1 ?_
  refine zr_iadd dX5_markOf_12 ?_
  obtain ⟨hi, hw⟩ := hw
  refine zr_iald zz_M1 hi rfl dX5_markOf_13 ?_
  refine zr_istore_n [.ref 0, .int p1, .int p2, .int (h0 1 (((223 : Int32) + ((2 : Int32) * p1)) + (1 : Int32)).toNatClampNeg), .null] dX5_markOf_14 rfl (by decide) rfl rfl ?_
  refine zr_aload_n dX5_markOf_15 rfl rfl ?_
  refine zr_iload_n dX5_markOf_16 rfl rfl ?_
  refine zr_pVi zz_cX5 zz_M0 (ctX5_raw p2 h0 _ hw) zy_X5_raw zm_X5_84 (by decide) rfl rfl (Nat.le_of_ble_eq_true rfl) dX5_markOf_17 (fun r1 hw => ?_)
  refine zr_istore [.ref 0, .int p1, .int p2, .int (h0 1 (((223 : Int32) + ((2 : Int32) * p1)) + (1 : Int32)).toNatClampNeg), .int r1] dX5_markOf_20 (by decide) rfl rfl ?_
  refine zr_aload_n dX5_markOf_22 rfl rfl ?_
  refine zr_getR zz_cX5 zz_M0 0 (by decide) rfl zf_X5_7 dX5_markOf_23 ?_
  refine zr_sipush dX5_markOf_26 zhk_223 ?_
  refine zr_iconst dX5_markOf_29 zqk_2 ?_
  refine zr_iload_n dX5_markOf_30 rfl rfl ?_
  refine zr_imul dX5_markOf_31 ?_
  refine zr_iadd dX5_markOf_32 ?_
  obtain ⟨hi, hw⟩ := hw
  refine zr_iald zz_M1 hi rfl dX5_markOf_33 ?_
  by_cases q1 : (h0 1 ((223 : Int32) + ((2 : Int32) * p1)).toNatClampNeg) = (1 : Int32)
  · have hw := hw.1 q1
    refine zr_tabIn 72 dX5_markOf_34 (by rw [q1]; decide) (by rw [q1]; decide) (off := 38) (by rw [q1]; decide) (by decide) ?_
    refine zr_iload dX5_markOf_72 rfl ?_
    refine zr_iload_n dX5_markOf_74 rfl rfl ?_
    refine zr_iadd dX5_markOf_75 ?_
    refine zr_aload_n dX5_markOf_76 rfl rfl ?_
    refine zr_pVi zz_cX5 zz_M0 (ctX5_full h0 _ hw) zy_X5_full zm_X5_90 (by decide) rfl rfl (Nat.le_of_ble_eq_true rfl) dX5_markOf_77 (fun r2 hw => ?_)
    refine zr_icmp_le 90 dX5_markOf_80 (by decide) (fun q => ?_) (fun q => ?_)
    · have hw := hw.1 q
      refine zr_iload dX5_markOf_90 rfl ?_
      refine zr_iload_n dX5_markOf_92 rfl rfl ?_
      refine zr_iadd dX5_markOf_93 ?_
      exact zr_ret rfl rfl dX5_markOf_94 ⟨rfl, hw⟩
    · have hw := hw.2 q
      refine zr_aload_n dX5_markOf_83 rfl rfl ?_
      refine zr_pVi zz_cX5 zz_M0 (ctX5_full h0 _ hw) zy_X5_full zm_X5_90 (by decide) rfl rfl (Nat.le_of_ble_eq_true rfl) dX5_markOf_84 (fun r3 hw => ?_)
      refine zr_goto 94 dX5_markOf_87 (by decide) ?_
      exact zr_ret rfl rfl dX5_markOf_94 ⟨rfl, hw⟩
  by_cases q2 : (h0 1 ((223 : Int32) + ((2 : Int32) * p1)).toNatClampNeg) = (2 : Int32)
  · have hw := hw.2.1 q2
    refine zr_tabIn 95 dX5_markOf_34 (by rw [q2]; decide) (by rw [q2]; decide) (off := 61) (by rw [q2]; decide) (by decide) ?_
    refine zr_aload_n dX5_markOf_95 rfl rfl ?_
    refine zr_iload_n dX5_markOf_96 rfl rfl ?_
    refine zr_pVi zz_cX5 zz_M0 (ctX5_stretched p2 h0 _ hw) zy_X5_stretched zm_X5_117 (by decide) rfl rfl (Nat.le_of_ble_eq_true rfl) dX5_markOf_97 (fun r4 hw => ?_)
    exact zr_ret rfl rfl dX5_markOf_100 ⟨rfl, hw⟩
  by_cases q3 : (h0 1 ((223 : Int32) + ((2 : Int32) * p1)).toNatClampNeg) = (3 : Int32)
  · have hw := hw.2.2.1 q3
    refine zr_tabIn 101 dX5_markOf_34 (by rw [q3]; decide) (by rw [q3]; decide) (off := 67) (by rw [q3]; decide) (by decide) ?_
    refine zr_bipush dX5_markOf_101 zbk_100 ?_
    refine zr_aload_n dX5_markOf_103 rfl rfl ?_
    refine zr_iload_n dX5_markOf_104 rfl rfl ?_
    refine zr_pVi zz_cX5 zz_M0 (ctX5_stretched p2 h0 _ hw) zy_X5_stretched zm_X5_117 (by decide) rfl rfl (Nat.le_of_ble_eq_true rfl) dX5_markOf_105 (fun r5 hw => ?_)
    refine zr_imul dX5_markOf_108 ?_
    refine zr_pSi (ctX5_root ((100 : Int32) * r5) h0 _ hw) zy_X5_root zm_X5_120 (by decide) rfl rfl (Nat.le_of_ble_eq_true rfl) dX5_markOf_109 (fun r6 hw => ?_)
    exact zr_ret rfl rfl dX5_markOf_112 ⟨rfl, hw⟩
  by_cases q4 : (h0 1 ((223 : Int32) + ((2 : Int32) * p1)).toNatClampNeg) = (4 : Int32)
  · have hw := hw.2.2.2.1 q4
    refine zr_tabIn 113 dX5_markOf_34 (by rw [q4]; decide) (by rw [q4]; decide) (off := 79) (by rw [q4]; decide) (by decide) ?_
    refine zr_aload_n dX5_markOf_113 rfl rfl ?_
    refine zr_iload_n dX5_markOf_114 rfl rfl ?_
    refine zr_iload_n dX5_markOf_115 rfl rfl ?_
    refine zr_pVi zz_cX5 zz_M0 (ctX5_shared p2 (h0 1 (((223 : Int32) + ((2 : Int32) * p1)) + (1 : Int32)).toNatClampNeg) h0 _ hw) zy_X5_shared zm_X5_123 (by decide) rfl rfl (Nat.le_of_ble_eq_true rfl) dX5_markOf_116 (fun r7 hw => ?_)
    exact zr_ret rfl rfl dX5_markOf_119 ⟨rfl, hw⟩
  by_cases q5 : (h0 1 ((223 : Int32) + ((2 : Int32) * p1)).toNatClampNeg) = (5 : Int32)
  · have hw := hw.2.2.2.2.1 q5
    refine zr_tabIn 120 dX5_markOf_34 (by rw [q5]; decide) (by rw [q5]; decide) (off := 86) (by rw [q5]; decide) (by decide) ?_
    refine zr_aload_n dX5_markOf_120 rfl rfl ?_
    refine zr_iload_n dX5_markOf_121 rfl rfl ?_
    refine zr_pVi zz_cX5 zz_M0 (ctX5_linked p2 h0 _ hw) zy_X5_linked zm_X5_126 (by decide) rfl rfl (Nat.le_of_ble_eq_true rfl) dX5_markOf_122 (fun r8 hw => ?_)
    exact zr_ret rfl rfl dX5_markOf_125 ⟨rfl, hw⟩
  by_cases q6 : (h0 1 ((223 : Int32) + ((2 : Int32) * p1)).toNatClampNeg) = (6 : Int32)
  · have hw := hw.2.2.2.2.2.1 q6
    refine zr_tabIn 126 dX5_markOf_34 (by rw [q6]; decide) (by rw [q6]; decide) (off := 92) (by rw [q6]; decide) (by decide) ?_
    refine zr_aload_n dX5_markOf_126 rfl rfl ?_
    refine zr_iload_n dX5_markOf_127 rfl rfl ?_
    refine zr_iload_n dX5_markOf_128 rfl rfl ?_
    refine zr_bipush dX5_markOf_129 zbk_8 ?_
    refine zr_irem dX5_markOf_131 (by decide) ?_
    refine zr_pVi zz_cX5 zz_M0 (ctX5_dropped p2 (zz_rem (h0 1 (((223 : Int32) + ((2 : Int32) * p1)) + (1 : Int32)).toNatClampNeg) (8 : Int32)) h0 _ hw) zy_X5_dropped zm_X5_129 (by decide) rfl rfl (Nat.le_of_ble_eq_true rfl) dX5_markOf_132 (fun r9 hw => ?_)
    exact zr_ret rfl rfl dX5_markOf_135 ⟨rfl, hw⟩
  have hw := hw.2.2.2.2.2.2 q1 q2 q3 q4 q5 q6
  refine zr_tabOut 136 dX5_markOf_34 (zz_tout (fun j h1 h2 => by rcases (show j = 1 ∨ j = 2 ∨ j = 3 ∨ j = 4 ∨ j = 5 ∨ j = 6 by omega) with rfl | rfl | rfl | rfl | rfl | rfl <;> first | exact fun e => q1 (e.trans zqk_1) | exact fun e => q2 (e.trans zqk_2) | exact fun e => q3 (e.trans zqk_3) | exact fun e => q4 (e.trans zqk_4) | exact fun e => q5 (e.trans zqk_5) | exact fun e => q6 (e.trans zqk_6))) (by decide) ?_
  refine zr_iload dX5_markOf_136 rfl ?_
  exact zr_ret rfl rfl dX5_markOf_138 ⟨rfl, hw⟩
def wX5_findMarks_b2 (p1 : Int32) (post : Int32 → zz_H → Prop) (K3 : Int32 × zz_H → Prop) (x1 : Int32) (h2 : zz_H) : Prop :=
  (((h2 1 17) ≤ x1) → (post 0 h2)) ∧ ((¬ (h2 1 17) ≤ x1) → (wX5_markOf p1 x1 h2 (fun r4 => vp_in x1 12 ∧ zz_sto h2 5 (upd (h2 5) x1.toNatClampNeg r4) (fun h5 => K3 ((x1 + 1), h5)))))
def wX5_findMarks (p1 : Int32) (h0 : zz_H) (post : Int32 → zz_H → Prop) : Prop :=
  ∃ t9, zz_lp (fun K (s : Int32 × zz_H) => wX5_findMarks_b2 p1 post K s.1 s.2) t9 ((0 : Int32), h0)
set_option maxRecDepth 20000 in
set_option maxHeartbeats 4000000 in
theorem ctX5_findMarks (p1 : Int32) (h0 : zz_H) (post : Int32 → zz_H → Prop) (hw : wX5_findMarks p1 h0 post) : zz_Ct zz_M 6 yX5_findMarks cX5_findMarks 3 none [.ref 0, .int p1] h0 post := by
  refine zz_ct (L := [.ref 0, .int p1, .null]) (by decide +kernel) (Nat.le_of_ble_eq_true rfl) (fun ad q hq => hq) ?_
  show zz_Go zz_M 6 cX5_findMarks RX5 3 none post 0 [] [.ref 0, .int p1, .null] h0
  unfold wX5_findMarks at hw
  refine zr_iconst dX5_findMarks_0 zqk_0 ?_
  refine zr_istore_n [.ref 0, .int p1, .int (0 : Int32)] dX5_findMarks_1 rfl (by decide) rfl rfl ?_
  obtain ⟨t9, hw⟩ := hw
  have step2 : ∀ (K3 : Int32 × zz_H → Prop), (∀ (x1 : Int32) (h2 : zz_H), K3 (x1, h2) → zz_Go zz_M 6 cX5_findMarks RX5 3 none post 2 [] [.ref 0, .int p1, .int x1] h2) → ∀ (x1 : Int32) (h2 : zz_H), wX5_findMarks_b2 p1 post K3 x1 h2 → zz_Go zz_M 6 cX5_findMarks RX5 3 none post 2 [] [.ref 0, .int p1, .int x1] h2 := by
    intro K3 ih2 x1 h2 hw
    unfold wX5_findMarks_b2 at hw
    refine zr_iload_n dX5_findMarks_2 rfl rfl ?_
    refine zr_aload_n dX5_findMarks_3 rfl rfl ?_
    refine zr_getR zz_cX5 zz_M0 0 (by decide) rfl zf_X5_7 dX5_findMarks_4 ?_
    refine zr_bipush dX5_findMarks_7 zbk_17 ?_
    refine zr_iald zz_M1 (zz_vin (by decide)) (j := 17) (by decide) dX5_findMarks_9 ?_
    refine zr_icmp_ge 31 dX5_findMarks_10 (by decide) (fun q => ?_) (fun q => ?_)
    · have hw := hw.1 q
      exact zr_vret rfl dX5_findMarks_31 hw
    · have hw := hw.2 q
      refine zr_aload_n dX5_findMarks_13 rfl rfl ?_
      refine zr_getR zz_cX5 zz_M0 5 (by decide) rfl zf_X5_22 dX5_findMarks_14 ?_
      refine zr_iload_n dX5_findMarks_17 rfl rfl ?_
      refine zr_aload_n dX5_findMarks_18 rfl rfl ?_
      refine zr_iload_n dX5_findMarks_19 rfl rfl ?_
      refine zr_iload_n dX5_findMarks_20 rfl rfl ?_
      refine zr_pVi zz_cX5 zz_M0 (ctX5_markOf p1 x1 h2 _ hw) zy_X5_markOf zm_X5_132 (by decide) rfl rfl (Nat.le_of_ble_eq_true rfl) dX5_findMarks_21 (fun r4 hw => ?_)
      obtain ⟨hi, hw⟩ := hw
      refine zr_iast zz_M5 hi rfl dX5_findMarks_24 hw (fun h5 hw => ?_)
      refine zr_iinc (x1 + 1) [.ref 0, .int p1, .int (x1 + 1)] dX5_findMarks_25 rfl (zok_1 _) (by decide) rfl rfl ?_
      refine zr_goto 2 dX5_findMarks_28 (by decide) ?_
      exact ih2 _ _ hw
  have key2 : ∀ (t9 : Nat) (x1 : Int32) (h2 : zz_H), zz_lp (fun K (s : Int32 × zz_H) => wX5_findMarks_b2 p1 post K s.1 s.2) t9 (x1, h2) → zz_Go zz_M 6 cX5_findMarks RX5 3 none post 2 [] [.ref 0, .int p1, .int x1] h2 := by
    intro t9
    induction t9 with
    | zero => intro x1 h2 hw; exact hw.elim
    | succ t9 ih => intro x1 h2 hw; exact step2 _ ih _ _ hw
  exact key2 t9 _ _ hw
def wX5_mark (p1 : Int32) (p2 : Int32) (h0 : zz_H) (post : Int32 → zz_H → Prop) : Prop :=
  wX5_isCurve p1 h0 (fun r1 => ((r1 = 0) → (wX5_finds ((-1000001) : Int32) h0 (fun r3 h2 => post r3 h2))) ∧ ((¬ r1 = 0) → (wX5_isPupil p2 h0 (fun r4 => ((r4 = 0) → (wX5_finds ((-1000001) : Int32) h0 (fun r6 h5 => post r6 h5))) ∧ ((¬ r4 = 0) → (wX5_markOf p1 p2 h0 (fun r7 => post r7 h0)))))))
set_option maxRecDepth 20000 in
set_option maxHeartbeats 4000000 in
theorem ctX5_mark (p1 : Int32) (p2 : Int32) (h0 : zz_H) (post : Int32 → zz_H → Prop) (hw : wX5_mark p1 p2 h0 post) : zz_Ct zz_M 6 yX5_mark cX5_mark 3 (some .int) [.ref 0, .int p1, .int p2] h0 post := by
  refine zz_ct (L := [.ref 0, .int p1, .int p2]) (by decide +kernel) (Nat.le_of_ble_eq_true rfl) (fun ad q hq => hq) ?_
  show zz_Go zz_M 6 cX5_mark RX5 3 (some .int) post 0 [] [.ref 0, .int p1, .int p2] h0
  unfold wX5_mark at hw
  refine zr_aload_n dX5_mark_0 rfl rfl ?_
  refine zr_iload_n dX5_mark_1 rfl rfl ?_
  refine zr_pVi zz_cX5 zz_M0 (ctX5_isCurve p1 h0 _ hw) zy_X5_isCurve zm_X5_114 (by decide) rfl rfl (Nat.le_of_ble_eq_true rfl) dX5_mark_2 (fun r1 hw => ?_)
  refine zr_if_eq 25 dX5_mark_5 (by decide) (fun q => ?_) (fun q => ?_)
  · have hw := hw.1 q
    refine zr_aload_n dX5_mark_25 rfl rfl ?_
    refine zr_ldc zk_X5_40 dX5_mark_26 ?_
    refine zr_callVi zz_cX5 zz_M0 (ctX5_finds ((-1000001) : Int32) h0 _ hw) zy_X5_finds zm_X5_59 (by decide) rfl rfl (Nat.le_of_ble_eq_true rfl) dX5_mark_28 (fun r3 h2 hw => ?_)
    exact zr_ret rfl rfl dX5_mark_31 hw
  · have hw := hw.2 q
    refine zr_aload_n dX5_mark_8 rfl rfl ?_
    refine zr_iload_n dX5_mark_9 rfl rfl ?_
    refine zr_pVi zz_cX5 zz_M0 (ctX5_isPupil p2 h0 _ hw) zy_X5_isPupil zm_X5_75 (by decide) rfl rfl (Nat.le_of_ble_eq_true rfl) dX5_mark_10 (fun r4 hw => ?_)
    refine zr_if_eq 25 dX5_mark_13 (by decide) (fun q => ?_) (fun q => ?_)
    · have hw := hw.1 q
      refine zr_aload_n dX5_mark_25 rfl rfl ?_
      refine zr_ldc zk_X5_40 dX5_mark_26 ?_
      refine zr_callVi zz_cX5 zz_M0 (ctX5_finds ((-1000001) : Int32) h0 _ hw) zy_X5_finds zm_X5_59 (by decide) rfl rfl (Nat.le_of_ble_eq_true rfl) dX5_mark_28 (fun r6 h5 hw => ?_)
      exact zr_ret rfl rfl dX5_mark_31 hw
    · have hw := hw.2 q
      refine zr_aload_n dX5_mark_16 rfl rfl ?_
      refine zr_iload_n dX5_mark_17 rfl rfl ?_
      refine zr_iload_n dX5_mark_18 rfl rfl ?_
      refine zr_pVi zz_cX5 zz_M0 (ctX5_markOf p1 p2 h0 _ hw) zy_X5_markOf zm_X5_132 (by decide) rfl rfl (Nat.le_of_ble_eq_true rfl) dX5_mark_19 (fun r7 hw => ?_)
      refine zr_goto 31 dX5_mark_22 (by decide) ?_
      exact zr_ret rfl rfl dX5_mark_31 hw
def wX5_place_b33 (p2 : Int32) (post : Int32 → zz_H → Prop) (h5 : zz_H) (K8 : Int32 × Int32 → Prop) (x6 : Int32) (x7 : Int32) : Prop :=
  (((h5 1 17) ≤ x7) → (post x6 h5)) ∧ ((¬ (h5 1 17) ≤ x7) → (vp_in x7 12 ∧ (vp_in p2 12 ∧ ((((h5 5 x7.toNatClampNeg) ≤ (h5 5 p2.toNatClampNeg)) → (K8 ((x6 + (0 : Int32)), (x7 + 1)))) ∧ ((¬ (h5 5 x7.toNatClampNeg) ≤ (h5 5 p2.toNatClampNeg)) → (K8 ((x6 + (1 : Int32)), (x7 + 1))))))))
def wX5_place (p1 : Int32) (p2 : Int32) (h0 : zz_H) (post : Int32 → zz_H → Prop) : Prop :=
  wX5_isCurve p1 h0 (fun r1 => ((r1 = 0) → (wX5_finds ((-1000001) : Int32) h0 (fun r3 h2 => post r3 h2))) ∧ ((¬ r1 = 0) → (wX5_isPupil p2 h0 (fun r4 => ((¬ r4 = 0) → (wX5_findMarks p1 h0 (fun _ h5 => ∃ t9, zz_lp (fun K (s : Int32 × Int32) => wX5_place_b33 p2 post h5 K s.1 s.2) t9 ((1 : Int32), (0 : Int32))))) ∧ ((r4 = 0) → (wX5_finds ((-1000001) : Int32) h0 (fun r10 h9 => post r10 h9)))))))
set_option maxRecDepth 20000 in
set_option maxHeartbeats 4000000 in
theorem ctX5_place (p1 : Int32) (p2 : Int32) (h0 : zz_H) (post : Int32 → zz_H → Prop) (hw : wX5_place p1 p2 h0 post) : zz_Ct zz_M 7 yX5_place cX5_place 5 (some .int) [.ref 0, .int p1, .int p2] h0 post := by
  refine zz_ct (L := [.ref 0, .int p1, .int p2, .null, .null]) (by decide +kernel) (Nat.le_of_ble_eq_true rfl) (fun ad q hq => hq) ?_
  show zz_Go zz_M 7 cX5_place RX5 5 (some .int) post 0 [] [.ref 0, .int p1, .int p2, .null, .null] h0
  unfold wX5_place at hw
  refine zr_aload_n dX5_place_0 rfl rfl ?_
  refine zr_iload_n dX5_place_1 rfl rfl ?_
  refine zr_pVi zz_cX5 zz_M0 (ctX5_isCurve p1 h0 _ hw) zy_X5_isCurve zm_X5_114 (by decide) rfl rfl (Nat.le_of_ble_eq_true rfl) dX5_place_2 (fun r1 hw => ?_)
  refine zr_if_eq 16 dX5_place_5 (by decide) (fun q => ?_) (fun q => ?_)
  · have hw := hw.1 q
    refine zr_aload_n dX5_place_16 rfl rfl ?_
    refine zr_ldc zk_X5_40 dX5_place_17 ?_
    refine zr_callVi zz_cX5 zz_M0 (ctX5_finds ((-1000001) : Int32) h0 _ hw) zy_X5_finds zm_X5_59 (by decide) rfl rfl (Nat.le_of_ble_eq_true rfl) dX5_place_19 (fun r3 h2 hw => ?_)
    exact zr_ret rfl rfl dX5_place_22 hw
  · have hw := hw.2 q
    refine zr_aload_n dX5_place_8 rfl rfl ?_
    refine zr_iload_n dX5_place_9 rfl rfl ?_
    refine zr_pVi zz_cX5 zz_M0 (ctX5_isPupil p2 h0 _ hw) zy_X5_isPupil zm_X5_75 (by decide) rfl rfl (Nat.le_of_ble_eq_true rfl) dX5_place_10 (fun r4 hw => ?_)
    refine zr_if_ne 23 dX5_place_13 (by decide) (fun q => ?_) (fun q => ?_)
    · have hw := hw.1 q
      refine zr_aload_n dX5_place_23 rfl rfl ?_
      refine zr_iload_n dX5_place_24 rfl rfl ?_
      refine zr_callVv zz_cX5 zz_M0 (ctX5_findMarks p1 h0 _ hw) zy_X5_findMarks zm_X5_135 (by decide) rfl rfl (Nat.le_of_ble_eq_true rfl) dX5_place_25 (fun h5 hw => ?_)
      refine zr_iconst dX5_place_28 zqk_1 ?_
      refine zr_istore_n [.ref 0, .int p1, .int p2, .int (1 : Int32), .null] dX5_place_29 rfl (by decide) rfl rfl ?_
      refine zr_iconst dX5_place_30 zqk_0 ?_
      refine zr_istore [.ref 0, .int p1, .int p2, .int (1 : Int32), .int (0 : Int32)] dX5_place_31 (by decide) rfl rfl ?_
      refine zr_sub [.ref 0, .null, .int p2, .int (1 : Int32), .int (0 : Int32)] ⟨Or.inr rfl, ⟨Or.inl rfl, ⟨Or.inr rfl, ⟨Or.inr rfl, ⟨Or.inr rfl, trivial⟩⟩⟩⟩⟩ ?_
      obtain ⟨t9, hw⟩ := hw
      have step33 : ∀ (K8 : Int32 × Int32 → Prop), (∀ (x6 : Int32) (x7 : Int32), K8 (x6, x7) → zz_Go zz_M 7 cX5_place RX5 5 (some .int) post 33 [] [.ref 0, .null, .int p2, .int x6, .int x7] h5) → ∀ (x6 : Int32) (x7 : Int32), wX5_place_b33 p2 post h5 K8 x6 x7 → zz_Go zz_M 7 cX5_place RX5 5 (some .int) post 33 [] [.ref 0, .null, .int p2, .int x6, .int x7] h5 := by
        intro K8 ih33 x6 x7 hw
        unfold wX5_place_b33 at hw
        refine zr_iload dX5_place_33 rfl ?_
        refine zr_aload_n dX5_place_35 rfl rfl ?_
        refine zr_getR zz_cX5 zz_M0 0 (by decide) rfl zf_X5_7 dX5_place_36 ?_
        refine zr_bipush dX5_place_39 zbk_17 ?_
        refine zr_iald zz_M1 (zz_vin (by decide)) (j := 17) (by decide) dX5_place_41 ?_
        refine zr_icmp_ge 75 dX5_place_42 (by decide) (fun q => ?_) (fun q => ?_)
        · have hw := hw.1 q
          refine zr_iload_n dX5_place_75 rfl rfl ?_
          exact zr_ret rfl rfl dX5_place_76 hw
        · have hw := hw.2 q
          refine zr_iload_n dX5_place_45 rfl rfl ?_
          refine zr_aload_n dX5_place_46 rfl rfl ?_
          refine zr_getR zz_cX5 zz_M0 5 (by decide) rfl zf_X5_22 dX5_place_47 ?_
          refine zr_iload dX5_place_50 rfl ?_
          obtain ⟨hi, hw⟩ := hw
          refine zr_iald zz_M5 hi rfl dX5_place_52 ?_
          refine zr_aload_n dX5_place_53 rfl rfl ?_
          refine zr_getR zz_cX5 zz_M0 5 (by decide) rfl zf_X5_22 dX5_place_54 ?_
          refine zr_iload_n dX5_place_57 rfl rfl ?_
          obtain ⟨hi, hw⟩ := hw
          refine zr_iald zz_M5 hi rfl dX5_place_58 ?_
          refine zr_icmp_le 66 dX5_place_59 (by decide) (fun q => ?_) (fun q => ?_)
          · have hw := hw.1 q
            refine zr_iconst dX5_place_66 zqk_0 ?_
            refine zr_iadd dX5_place_67 ?_
            refine zr_istore_n [.ref 0, .null, .int p2, .int (x6 + (0 : Int32)), .int x7] dX5_place_68 rfl (by decide) rfl rfl ?_
            refine zr_iinc (x7 + 1) [.ref 0, .null, .int p2, .int (x6 + (0 : Int32)), .int (x7 + 1)] dX5_place_69 rfl (zok_1 _) (by decide) rfl rfl ?_
            refine zr_goto 33 dX5_place_72 (by decide) ?_
            exact ih33 _ _ hw
          · have hw := hw.2 q
            refine zr_iconst dX5_place_62 zqk_1 ?_
            refine zr_goto 67 dX5_place_63 (by decide) ?_
            refine zr_iadd dX5_place_67 ?_
            refine zr_istore_n [.ref 0, .null, .int p2, .int (x6 + (1 : Int32)), .int x7] dX5_place_68 rfl (by decide) rfl rfl ?_
            refine zr_iinc (x7 + 1) [.ref 0, .null, .int p2, .int (x6 + (1 : Int32)), .int (x7 + 1)] dX5_place_69 rfl (zok_1 _) (by decide) rfl rfl ?_
            refine zr_goto 33 dX5_place_72 (by decide) ?_
            exact ih33 _ _ hw
      have key33 : ∀ (t9 : Nat) (x6 : Int32) (x7 : Int32), zz_lp (fun K (s : Int32 × Int32) => wX5_place_b33 p2 post h5 K s.1 s.2) t9 (x6, x7) → zz_Go zz_M 7 cX5_place RX5 5 (some .int) post 33 [] [.ref 0, .null, .int p2, .int x6, .int x7] h5 := by
        intro t9
        induction t9 with
        | zero => intro x6 x7 hw; exact hw.elim
        | succ t9 ih => intro x6 x7 hw; exact step33 _ ih _ _ hw
      exact key33 t9 _ _ hw
    · have hw := hw.2 q
      refine zr_aload_n dX5_place_16 rfl rfl ?_
      refine zr_ldc zk_X5_40 dX5_place_17 ?_
      refine zr_callVi zz_cX5 zz_M0 (ctX5_finds ((-1000001) : Int32) h0 _ hw) zy_X5_finds zm_X5_59 (by decide) rfl rfl (Nat.le_of_ble_eq_true rfl) dX5_place_19 (fun r10 h9 hw => ?_)
      exact zr_ret rfl rfl dX5_place_22 hw
def wX5_sum_j73 (h5 : zz_H) (x6 : Int32) (x7 : Int32) (K8 : Int32 × Int32 → Prop) : Prop :=
  vp_in x7 12 ∧ (K8 ((x6 + (h5 5 x7.toNatClampNeg)), (x7 + 1)))
def wX5_sum_b39 (p2 : Int32) (post : Int32 → zz_H → Prop) (h5 : zz_H) (K8 : Int32 × Int32 → Prop) (x6 : Int32) (x7 : Int32) : Prop :=
  (((h5 1 17) ≤ x7) → (post x6 h5)) ∧ ((¬ (h5 1 17) ≤ x7) → (((p2 < 0) → (wX5_sum_j73 h5 x6 x7 K8)) ∧ ((¬ p2 < 0) → (vp_in ((19 : Int32) + ((17 : Int32) * x7)) 245 ∧ (((¬ (h5 1 ((19 : Int32) + ((17 : Int32) * x7)).toNatClampNeg) = p2) → (K8 ((x6 + (0 : Int32)), (x7 + 1)))) ∧ (((h5 1 ((19 : Int32) + ((17 : Int32) * x7)).toNatClampNeg) = p2) → (wX5_sum_j73 h5 x6 x7 K8)))))))
def wX5_sum (p1 : Int32) (p2 : Int32) (h0 : zz_H) (post : Int32 → zz_H → Prop) : Prop :=
  wX5_isCurve p1 h0 (fun r1 => ((r1 = 0) → (wX5_finds ((-1000001) : Int32) h0 (fun r3 h2 => post r3 h2))) ∧ ((¬ r1 = 0) → (wX5_in (p2.toInt64) ((-1) : Int64) (3 : Int64) h0 (fun r4 => ((¬ r4 = 0) → (wX5_findMarks p1 h0 (fun _ h5 => ∃ t9, zz_lp (fun K (s : Int32 × Int32) => wX5_sum_b39 p2 post h5 K s.1 s.2) t9 ((0 : Int32), (0 : Int32))))) ∧ ((r4 = 0) → (wX5_finds ((-1000001) : Int32) h0 (fun r10 h9 => post r10 h9)))))))
set_option maxRecDepth 20000 in
set_option maxHeartbeats 4000000 in
theorem ctX5_sum (p1 : Int32) (p2 : Int32) (h0 : zz_H) (post : Int32 → zz_H → Prop) (hw : wX5_sum p1 p2 h0 post) : zz_Ct zz_M 7 yX5_sum cX5_sum 5 (some .int) [.ref 0, .int p1, .int p2] h0 post := by
  refine zz_ct (L := [.ref 0, .int p1, .int p2, .null, .null]) (by decide +kernel) (Nat.le_of_ble_eq_true rfl) (fun ad q hq => hq) ?_
  show zz_Go zz_M 7 cX5_sum RX5 5 (some .int) post 0 [] [.ref 0, .int p1, .int p2, .null, .null] h0
  unfold wX5_sum at hw
  refine zr_aload_n dX5_sum_0 rfl rfl ?_
  refine zr_iload_n dX5_sum_1 rfl rfl ?_
  refine zr_pVi zz_cX5 zz_M0 (ctX5_isCurve p1 h0 _ hw) zy_X5_isCurve zm_X5_114 (by decide) rfl rfl (Nat.le_of_ble_eq_true rfl) dX5_sum_2 (fun r1 hw => ?_)
  refine zr_if_eq 22 dX5_sum_5 (by decide) (fun q => ?_) (fun q => ?_)
  · have hw := hw.1 q
    refine zr_aload_n dX5_sum_22 rfl rfl ?_
    refine zr_ldc zk_X5_40 dX5_sum_23 ?_
    refine zr_callVi zz_cX5 zz_M0 (ctX5_finds ((-1000001) : Int32) h0 _ hw) zy_X5_finds zm_X5_59 (by decide) rfl rfl (Nat.le_of_ble_eq_true rfl) dX5_sum_25 (fun r3 h2 hw => ?_)
    exact zr_ret rfl rfl dX5_sum_28 hw
  · have hw := hw.2 q
    refine zr_iload_n dX5_sum_8 rfl rfl ?_
    refine zr_i2l dX5_sum_9 ?_
    refine zr_ldc2 zl_X5_67 dX5_sum_10 ?_
    refine zr_ldc2 zl_X5_69 dX5_sum_13 ?_
    refine zr_pSi (ctX5_in (p2.toInt64) ((-1) : Int64) (3 : Int64) h0 _ hw) zy_X5_in zm_X5_43 (by decide) rfl rfl (Nat.le_of_ble_eq_true rfl) dX5_sum_16 (fun r4 hw => ?_)
    refine zr_if_ne 29 dX5_sum_19 (by decide) (fun q => ?_) (fun q => ?_)
    · have hw := hw.1 q
      refine zr_aload_n dX5_sum_29 rfl rfl ?_
      refine zr_iload_n dX5_sum_30 rfl rfl ?_
      refine zr_callVv zz_cX5 zz_M0 (ctX5_findMarks p1 h0 _ hw) zy_X5_findMarks zm_X5_135 (by decide) rfl rfl (Nat.le_of_ble_eq_true rfl) dX5_sum_31 (fun h5 hw => ?_)
      refine zr_iconst dX5_sum_34 zqk_0 ?_
      refine zr_istore_n [.ref 0, .int p1, .int p2, .int (0 : Int32), .null] dX5_sum_35 rfl (by decide) rfl rfl ?_
      refine zr_iconst dX5_sum_36 zqk_0 ?_
      refine zr_istore [.ref 0, .int p1, .int p2, .int (0 : Int32), .int (0 : Int32)] dX5_sum_37 (by decide) rfl rfl ?_
      refine zr_sub [.ref 0, .null, .int p2, .int (0 : Int32), .int (0 : Int32)] ⟨Or.inr rfl, ⟨Or.inl rfl, ⟨Or.inr rfl, ⟨Or.inr rfl, ⟨Or.inr rfl, trivial⟩⟩⟩⟩⟩ ?_
      obtain ⟨t9, hw⟩ := hw
      have step39 : ∀ (K8 : Int32 × Int32 → Prop), (∀ (x6 : Int32) (x7 : Int32), K8 (x6, x7) → zz_Go zz_M 7 cX5_sum RX5 5 (some .int) post 39 [] [.ref 0, .null, .int p2, .int x6, .int x7] h5) → ∀ (x6 : Int32) (x7 : Int32), wX5_sum_b39 p2 post h5 K8 x6 x7 → zz_Go zz_M 7 cX5_sum RX5 5 (some .int) post 39 [] [.ref 0, .null, .int p2, .int x6, .int x7] h5 := by
        intro K8 ih39 x6 x7 hw
        unfold wX5_sum_b39 at hw
        refine zr_iload dX5_sum_39 rfl ?_
        refine zr_aload_n dX5_sum_41 rfl rfl ?_
        refine zr_getR zz_cX5 zz_M0 0 (by decide) rfl zf_X5_7 dX5_sum_42 ?_
        refine zr_bipush dX5_sum_45 zbk_17 ?_
        refine zr_iald zz_M1 (zz_vin (by decide)) (j := 17) (by decide) dX5_sum_47 ?_
        refine zr_icmp_ge 92 dX5_sum_48 (by decide) (fun q => ?_) (fun q => ?_)
        · have hw := hw.1 q
          refine zr_iload_n dX5_sum_92 rfl rfl ?_
          exact zr_ret rfl rfl dX5_sum_93 hw
        · have hw := hw.2 q
          refine zr_iload_n dX5_sum_51 rfl rfl ?_
          refine zr_iload_n dX5_sum_52 rfl rfl ?_
          have j73 : wX5_sum_j73 h5 x6 x7 K8 → zz_Go zz_M 7 cX5_sum RX5 5 (some .int) post 73 [.int x6] [.ref 0, .null, .int p2, .null, .int x7] h5 := by
            intro hw
            unfold wX5_sum_j73 at hw
            refine zr_aload_n dX5_sum_73 rfl rfl ?_
            refine zr_getR zz_cX5 zz_M0 5 (by decide) rfl zf_X5_22 dX5_sum_74 ?_
            refine zr_iload dX5_sum_77 rfl ?_
            obtain ⟨hi, hw⟩ := hw
            refine zr_iald zz_M5 hi rfl dX5_sum_79 ?_
            refine zr_goto 84 dX5_sum_80 (by decide) ?_
            refine zr_iadd dX5_sum_84 ?_
            refine zr_istore_n [.ref 0, .null, .int p2, .int (x6 + (h5 5 x7.toNatClampNeg)), .int x7] dX5_sum_85 rfl (by decide) rfl rfl ?_
            refine zr_iinc (x7 + 1) [.ref 0, .null, .int p2, .int (x6 + (h5 5 x7.toNatClampNeg)), .int (x7 + 1)] dX5_sum_86 rfl (zok_1 _) (by decide) rfl rfl ?_
            refine zr_goto 39 dX5_sum_89 (by decide) ?_
            exact ih39 _ _ hw
          refine zr_if_lt 73 dX5_sum_53 (by decide) (fun q => ?_) (fun q => ?_)
          · have hw := hw.1 q
            refine zr_sub [.ref 0, .null, .int p2, .null, .int x7] ⟨Or.inr rfl, ⟨Or.inl rfl, ⟨Or.inr rfl, ⟨Or.inl rfl, ⟨Or.inr rfl, trivial⟩⟩⟩⟩⟩ ?_
            exact j73 hw
          · have hw := hw.2 q
            refine zr_aload_n dX5_sum_56 rfl rfl ?_
            refine zr_getR zz_cX5 zz_M0 0 (by decide) rfl zf_X5_7 dX5_sum_57 ?_
            refine zr_bipush dX5_sum_60 zbk_19 ?_
            refine zr_bipush dX5_sum_62 zbk_17 ?_
            refine zr_iload dX5_sum_64 rfl ?_
            refine zr_imul dX5_sum_66 ?_
            refine zr_iadd dX5_sum_67 ?_
            obtain ⟨hi, hw⟩ := hw
            refine zr_iald zz_M1 hi rfl dX5_sum_68 ?_
            refine zr_iload_n dX5_sum_69 rfl rfl ?_
            refine zr_icmp_ne 83 dX5_sum_70 (by decide) (fun q => ?_) (fun q => ?_)
            · have hw := hw.1 q
              refine zr_iconst dX5_sum_83 zqk_0 ?_
              refine zr_iadd dX5_sum_84 ?_
              refine zr_istore_n [.ref 0, .null, .int p2, .int (x6 + (0 : Int32)), .int x7] dX5_sum_85 rfl (by decide) rfl rfl ?_
              refine zr_iinc (x7 + 1) [.ref 0, .null, .int p2, .int (x6 + (0 : Int32)), .int (x7 + 1)] dX5_sum_86 rfl (zok_1 _) (by decide) rfl rfl ?_
              refine zr_goto 39 dX5_sum_89 (by decide) ?_
              exact ih39 _ _ hw
            · have hw := hw.2 q
              refine zr_sub [.ref 0, .null, .int p2, .null, .int x7] ⟨Or.inr rfl, ⟨Or.inl rfl, ⟨Or.inr rfl, ⟨Or.inl rfl, ⟨Or.inr rfl, trivial⟩⟩⟩⟩⟩ ?_
              exact j73 hw
      have key39 : ∀ (t9 : Nat) (x6 : Int32) (x7 : Int32), zz_lp (fun K (s : Int32 × Int32) => wX5_sum_b39 p2 post h5 K s.1 s.2) t9 (x6, x7) → zz_Go zz_M 7 cX5_sum RX5 5 (some .int) post 39 [] [.ref 0, .null, .int p2, .int x6, .int x7] h5 := by
        intro t9
        induction t9 with
        | zero => intro x6 x7 hw; exact hw.elim
        | succ t9 ih => intro x6 x7 hw; exact step39 _ ih _ _ hw
      exact key39 t9 _ _ hw
    · have hw := hw.2 q
      refine zr_aload_n dX5_sum_22 rfl rfl ?_
      refine zr_ldc zk_X5_40 dX5_sum_23 ?_
      refine zr_callVi zz_cX5 zz_M0 (ctX5_finds ((-1000001) : Int32) h0 _ hw) zy_X5_finds zm_X5_59 (by decide) rfl rfl (Nat.le_of_ble_eq_true rfl) dX5_sum_25 (fun r10 h9 hw => ?_)
      exact zr_ret rfl rfl dX5_sum_28 hw
def wX5_middle_j125 (h0 : zz_H) (h2 : zz_H) (x3 : Int32) (x4 : Int32) (K5 : Int32 × Int32 → Prop) (x6 : Int32) (x7 : Int32) : Prop :=
  (((((h0 1 17) - (1 : Int32)) / (2 : Int32)) < x6) → (K5 (x3, (x4 + 1)))) ∧ ((¬ (((h0 1 17) - (1 : Int32)) / (2 : Int32)) < x6) → ((((x6 + x7) ≤ (((h0 1 17) - (1 : Int32)) / (2 : Int32))) → (K5 (x3, (x4 + 1)))) ∧ ((¬ (x6 + x7) ≤ (((h0 1 17) - (1 : Int32)) / (2 : Int32))) → (vp_in x4 12 ∧ (K5 ((h2 5 x4.toNatClampNeg), (x4 + 1)))))))
def wX5_middle_j89 (h2 : zz_H) (x4 : Int32) (x6 : Int32) (x7 : Int32) (x8 : Int32) (K9 : Int32 × Int32 × Int32 → Prop) (y10 : Int32) : Prop :=
  vp_in x8 12 ∧ (vp_in x4 12 ∧ (((¬ (h2 5 x8.toNatClampNeg) = (h2 5 x4.toNatClampNeg)) → (K9 ((x6 + y10), (x7 + (0 : Int32)), (x8 + 1)))) ∧ (((h2 5 x8.toNatClampNeg) = (h2 5 x4.toNatClampNeg)) → (K9 ((x6 + y10), (x7 + (1 : Int32)), (x8 + 1))))))
def wX5_middle_b59 (h0 : zz_H) (h2 : zz_H) (x3 : Int32) (x4 : Int32) (K5 : Int32 × Int32 → Prop) (K9 : Int32 × Int32 × Int32 → Prop) (x6 : Int32) (x7 : Int32) (x8 : Int32) : Prop :=
  (((h0 1 17) ≤ x8) → (wX5_middle_j125 h0 h2 x3 x4 K5 x6 x7)) ∧ ((¬ (h0 1 17) ≤ x8) → (vp_in x8 12 ∧ (vp_in x4 12 ∧ ((((h2 5 x4.toNatClampNeg) ≤ (h2 5 x8.toNatClampNeg)) → (wX5_middle_j89 h2 x4 x6 x7 x8 K9 (0 : Int32))) ∧ ((¬ (h2 5 x4.toNatClampNeg) ≤ (h2 5 x8.toNatClampNeg)) → (wX5_middle_j89 h2 x4 x6 x7 x8 K9 (1 : Int32)))))))
def wX5_middle_b44 (h0 : zz_H) (post : Int32 → zz_H → Prop) (h2 : zz_H) (K5 : Int32 × Int32 → Prop) (x3 : Int32) (x4 : Int32) : Prop :=
  (((h0 1 17) ≤ x4) → (post x3 h2)) ∧ ((¬ (h0 1 17) ≤ x4) → (∃ t9, zz_lp (fun K (s : Int32 × Int32 × Int32) => wX5_middle_b59 h0 h2 x3 x4 K5 K s.1 s.2.1 s.2.2) t9 ((0 : Int32), (0 : Int32), (0 : Int32))))
def wX5_middle (p1 : Int32) (h0 : zz_H) (post : Int32 → zz_H → Prop) : Prop :=
  wX5_isCurve p1 h0 (fun r1 => ((¬ r1 = 0) → (((¬ (h0 1 17) = 0) → (wX5_findMarks p1 h0 (fun _ h2 => ∃ t9, zz_lp (fun K (s : Int32 × Int32) => wX5_middle_b44 h0 post h2 K s.1 s.2) t9 ((0 : Int32), (0 : Int32))))) ∧ (((h0 1 17) = 0) → (wX5_finds ((-1000004) : Int32) h0 (fun r12 h11 => post r12 h11))))) ∧ ((r1 = 0) → (wX5_finds ((-1000001) : Int32) h0 (fun r14 h13 => post r14 h13))))
set_option maxRecDepth 20000 in
set_option maxHeartbeats 4000000 in
theorem ctX5_middle (p1 : Int32) (h0 : zz_H) (post : Int32 → zz_H → Prop) (hw : wX5_middle p1 h0 post) : zz_Ct zz_M 7 yX5_middle cX5_middle 8 (some .int) [.ref 0, .int p1] h0 post := by
  refine zz_ct (L := [.ref 0, .int p1, .null, .null, .null, .null, .null, .null]) (by decide +kernel) (Nat.le_of_ble_eq_true rfl) (fun ad q hq => hq) ?_
  show zz_Go zz_M 7 cX5_middle RX5 8 (some .int) post 0 [] [.ref 0, .int p1, .null, .null, .null, .null, .null, .null] h0
  unfold wX5_middle at hw
  refine zr_aload_n dX5_middle_0 rfl rfl ?_
  refine zr_iload_n dX5_middle_1 rfl rfl ?_
  refine zr_pVi zz_cX5 zz_M0 (ctX5_isCurve p1 h0 _ hw) zy_X5_isCurve zm_X5_114 (by decide) rfl rfl (Nat.le_of_ble_eq_true rfl) dX5_middle_2 (fun r1 hw => ?_)
  refine zr_if_ne 15 dX5_middle_5 (by decide) (fun q => ?_) (fun q => ?_)
  · have hw := hw.1 q
    refine zr_aload_n dX5_middle_15 rfl rfl ?_
    refine zr_getR zz_cX5 zz_M0 0 (by decide) rfl zf_X5_7 dX5_middle_16 ?_
    refine zr_bipush dX5_middle_19 zbk_17 ?_
    refine zr_iald zz_M1 (zz_vin (by decide)) (j := 17) (by decide) dX5_middle_21 ?_
    refine zr_istore_n [.ref 0, .int p1, .int (h0 1 17), .null, .null, .null, .null, .null] dX5_middle_22 rfl (by decide) rfl rfl ?_
    refine zr_iload_n dX5_middle_23 rfl rfl ?_
    refine zr_if_ne 34 dX5_middle_24 (by decide) (fun q => ?_) (fun q => ?_)
    · have hw := hw.1 q
      refine zr_aload_n dX5_middle_34 rfl rfl ?_
      refine zr_iload_n dX5_middle_35 rfl rfl ?_
      refine zr_callVv zz_cX5 zz_M0 (ctX5_findMarks p1 h0 _ hw) zy_X5_findMarks zm_X5_135 (by decide) rfl rfl (Nat.le_of_ble_eq_true rfl) dX5_middle_36 (fun h2 hw => ?_)
      refine zr_iconst dX5_middle_39 zqk_0 ?_
      refine zr_istore_n [.ref 0, .int p1, .int (h0 1 17), .int (0 : Int32), .null, .null, .null, .null] dX5_middle_40 rfl (by decide) rfl rfl ?_
      refine zr_iconst dX5_middle_41 zqk_0 ?_
      refine zr_istore [.ref 0, .int p1, .int (h0 1 17), .int (0 : Int32), .int (0 : Int32), .null, .null, .null] dX5_middle_42 (by decide) rfl rfl ?_
      refine zr_sub [.ref 0, .null, .int (h0 1 17), .int (0 : Int32), .int (0 : Int32), .null, .null, .null] ⟨Or.inr rfl, ⟨Or.inl rfl, ⟨Or.inr rfl, ⟨Or.inr rfl, ⟨Or.inr rfl, ⟨Or.inl rfl, ⟨Or.inl rfl, ⟨Or.inl rfl, trivial⟩⟩⟩⟩⟩⟩⟩⟩ ?_
      obtain ⟨t9, hw⟩ := hw
      have step44 : ∀ (K5 : Int32 × Int32 → Prop), (∀ (x3 : Int32) (x4 : Int32), K5 (x3, x4) → zz_Go zz_M 7 cX5_middle RX5 8 (some .int) post 44 [] [.ref 0, .null, .int (h0 1 17), .int x3, .int x4, .null, .null, .null] h2) → ∀ (x3 : Int32) (x4 : Int32), wX5_middle_b44 h0 post h2 K5 x3 x4 → zz_Go zz_M 7 cX5_middle RX5 8 (some .int) post 44 [] [.ref 0, .null, .int (h0 1 17), .int x3, .int x4, .null, .null, .null] h2 := by
        intro K5 ih44 x3 x4 hw
        unfold wX5_middle_b44 at hw
        refine zr_iload dX5_middle_44 rfl ?_
        refine zr_iload_n dX5_middle_46 rfl rfl ?_
        refine zr_icmp_ge 166 dX5_middle_47 (by decide) (fun q => ?_) (fun q => ?_)
        · have hw := hw.1 q
          refine zr_iload_n dX5_middle_166 rfl rfl ?_
          exact zr_ret rfl rfl dX5_middle_167 hw
        · have hw := hw.2 q
          refine zr_iconst dX5_middle_50 zqk_0 ?_
          refine zr_istore [.ref 0, .null, .int (h0 1 17), .int x3, .int x4, .int (0 : Int32), .null, .null] dX5_middle_51 (by decide) rfl rfl ?_
          refine zr_iconst dX5_middle_53 zqk_0 ?_
          refine zr_istore [.ref 0, .null, .int (h0 1 17), .int x3, .int x4, .int (0 : Int32), .int (0 : Int32), .null] dX5_middle_54 (by decide) rfl rfl ?_
          refine zr_iconst dX5_middle_56 zqk_0 ?_
          refine zr_istore [.ref 0, .null, .int (h0 1 17), .int x3, .int x4, .int (0 : Int32), .int (0 : Int32), .int (0 : Int32)] dX5_middle_57 (by decide) rfl rfl ?_
          obtain ⟨t9, hw⟩ := hw
          have step59 : ∀ (K9 : Int32 × Int32 × Int32 → Prop), (∀ (x6 : Int32) (x7 : Int32) (x8 : Int32), K9 (x6, x7, x8) → zz_Go zz_M 7 cX5_middle RX5 8 (some .int) post 59 [] [.ref 0, .null, .int (h0 1 17), .int x3, .int x4, .int x6, .int x7, .int x8] h2) → ∀ (x6 : Int32) (x7 : Int32) (x8 : Int32), wX5_middle_b59 h0 h2 x3 x4 K5 K9 x6 x7 x8 → zz_Go zz_M 7 cX5_middle RX5 8 (some .int) post 59 [] [.ref 0, .null, .int (h0 1 17), .int x3, .int x4, .int x6, .int x7, .int x8] h2 := by
            intro K9 ih59 x6 x7 x8 hw
            unfold wX5_middle_b59 at hw
            refine zr_iload dX5_middle_59 rfl ?_
            refine zr_iload_n dX5_middle_61 rfl rfl ?_
            have j125 : wX5_middle_j125 h0 h2 x3 x4 K5 x6 x7 → zz_Go zz_M 7 cX5_middle RX5 8 (some .int) post 125 [] [.ref 0, .null, .int (h0 1 17), .int x3, .int x4, .int x6, .int x7, .null] h2 := by
              intro hw
              unfold wX5_middle_j125 at hw
              refine zr_iload dX5_middle_125 rfl ?_
              refine zr_iload_n dX5_middle_127 rfl rfl ?_
              refine zr_iconst dX5_middle_128 zqk_1 ?_
              refine zr_isub dX5_middle_129 ?_
              refine zr_iconst dX5_middle_130 zqk_2 ?_
              refine zr_idiv dX5_middle_131 (by decide) ?_
              refine zr_icmp_gt 158 dX5_middle_132 (by decide) (fun q => ?_) (fun q => ?_)
              · have hw := hw.1 q
                refine zr_iload_n dX5_middle_158 rfl rfl ?_
                refine zr_istore_n [.ref 0, .null, .int (h0 1 17), .int x3, .int x4, .int x6, .int x7, .null] dX5_middle_159 rfl (by decide) rfl rfl ?_
                refine zr_iinc (x4 + 1) [.ref 0, .null, .int (h0 1 17), .int x3, .int (x4 + 1), .int x6, .int x7, .null] dX5_middle_160 rfl (zok_1 _) (by decide) rfl rfl ?_
                refine zr_goto 44 dX5_middle_163 (by decide) ?_
                refine zr_sub [.ref 0, .null, .int (h0 1 17), .int x3, .int (x4 + 1), .null, .null, .null] ⟨Or.inr rfl, ⟨Or.inl rfl, ⟨Or.inr rfl, ⟨Or.inr rfl, ⟨Or.inr rfl, ⟨Or.inl rfl, ⟨Or.inl rfl, ⟨Or.inl rfl, trivial⟩⟩⟩⟩⟩⟩⟩⟩ ?_
                exact ih44 _ _ hw
              · have hw := hw.2 q
                refine zr_iload dX5_middle_135 rfl ?_
                refine zr_iload dX5_middle_137 rfl ?_
                refine zr_iadd dX5_middle_139 ?_
                refine zr_iload_n dX5_middle_140 rfl rfl ?_
                refine zr_iconst dX5_middle_141 zqk_1 ?_
                refine zr_isub dX5_middle_142 ?_
                refine zr_iconst dX5_middle_143 zqk_2 ?_
                refine zr_idiv dX5_middle_144 (by decide) ?_
                refine zr_icmp_le 158 dX5_middle_145 (by decide) (fun q => ?_) (fun q => ?_)
                · have hw := hw.1 q
                  refine zr_iload_n dX5_middle_158 rfl rfl ?_
                  refine zr_istore_n [.ref 0, .null, .int (h0 1 17), .int x3, .int x4, .int x6, .int x7, .null] dX5_middle_159 rfl (by decide) rfl rfl ?_
                  refine zr_iinc (x4 + 1) [.ref 0, .null, .int (h0 1 17), .int x3, .int (x4 + 1), .int x6, .int x7, .null] dX5_middle_160 rfl (zok_1 _) (by decide) rfl rfl ?_
                  refine zr_goto 44 dX5_middle_163 (by decide) ?_
                  refine zr_sub [.ref 0, .null, .int (h0 1 17), .int x3, .int (x4 + 1), .null, .null, .null] ⟨Or.inr rfl, ⟨Or.inl rfl, ⟨Or.inr rfl, ⟨Or.inr rfl, ⟨Or.inr rfl, ⟨Or.inl rfl, ⟨Or.inl rfl, ⟨Or.inl rfl, trivial⟩⟩⟩⟩⟩⟩⟩⟩ ?_
                  exact ih44 _ _ hw
                · have hw := hw.2 q
                  refine zr_aload_n dX5_middle_148 rfl rfl ?_
                  refine zr_getR zz_cX5 zz_M0 5 (by decide) rfl zf_X5_22 dX5_middle_149 ?_
                  refine zr_iload dX5_middle_152 rfl ?_
                  obtain ⟨hi, hw⟩ := hw
                  refine zr_iald zz_M5 hi rfl dX5_middle_154 ?_
                  refine zr_goto 159 dX5_middle_155 (by decide) ?_
                  refine zr_istore_n [.ref 0, .null, .int (h0 1 17), .int (h2 5 x4.toNatClampNeg), .int x4, .int x6, .int x7, .null] dX5_middle_159 rfl (by decide) rfl rfl ?_
                  refine zr_iinc (x4 + 1) [.ref 0, .null, .int (h0 1 17), .int (h2 5 x4.toNatClampNeg), .int (x4 + 1), .int x6, .int x7, .null] dX5_middle_160 rfl (zok_1 _) (by decide) rfl rfl ?_
                  refine zr_goto 44 dX5_middle_163 (by decide) ?_
                  refine zr_sub [.ref 0, .null, .int (h0 1 17), .int (h2 5 x4.toNatClampNeg), .int (x4 + 1), .null, .null, .null] ⟨Or.inr rfl, ⟨Or.inl rfl, ⟨Or.inr rfl, ⟨Or.inr rfl, ⟨Or.inr rfl, ⟨Or.inl rfl, ⟨Or.inl rfl, ⟨Or.inl rfl, trivial⟩⟩⟩⟩⟩⟩⟩⟩ ?_
                  exact ih44 _ _ hw
            refine zr_icmp_ge 125 dX5_middle_62 (by decide) (fun q => ?_) (fun q => ?_)
            · have hw := hw.1 q
              refine zr_sub [.ref 0, .null, .int (h0 1 17), .int x3, .int x4, .int x6, .int x7, .null] ⟨Or.inr rfl, ⟨Or.inl rfl, ⟨Or.inr rfl, ⟨Or.inr rfl, ⟨Or.inr rfl, ⟨Or.inr rfl, ⟨Or.inr rfl, ⟨Or.inl rfl, trivial⟩⟩⟩⟩⟩⟩⟩⟩ ?_
              exact j125 hw
            · have hw := hw.2 q
              refine zr_iload dX5_middle_65 rfl ?_
              refine zr_aload_n dX5_middle_67 rfl rfl ?_
              refine zr_getR zz_cX5 zz_M0 5 (by decide) rfl zf_X5_22 dX5_middle_68 ?_
              refine zr_iload dX5_middle_71 rfl ?_
              obtain ⟨hi, hw⟩ := hw
              refine zr_iald zz_M5 hi rfl dX5_middle_73 ?_
              refine zr_aload_n dX5_middle_74 rfl rfl ?_
              refine zr_getR zz_cX5 zz_M0 5 (by decide) rfl zf_X5_22 dX5_middle_75 ?_
              refine zr_iload dX5_middle_78 rfl ?_
              obtain ⟨hi, hw⟩ := hw
              refine zr_iald zz_M5 hi rfl dX5_middle_80 ?_
              have j89 : ∀ (y10 : Int32), wX5_middle_j89 h2 x4 x6 x7 x8 K9 y10 → zz_Go zz_M 7 cX5_middle RX5 8 (some .int) post 89 [.int y10, .int x6] [.ref 0, .null, .int (h0 1 17), .int x3, .int x4, .null, .int x7, .int x8] h2 := by
                intro y10 hw
                unfold wX5_middle_j89 at hw
                refine zr_iadd dX5_middle_89 ?_
                refine zr_istore [.ref 0, .null, .int (h0 1 17), .int x3, .int x4, .int (x6 + y10), .int x7, .int x8] dX5_middle_90 (by decide) rfl rfl ?_
                refine zr_iload dX5_middle_92 rfl ?_
                refine zr_aload_n dX5_middle_94 rfl rfl ?_
                refine zr_getR zz_cX5 zz_M0 5 (by decide) rfl zf_X5_22 dX5_middle_95 ?_
                refine zr_iload dX5_middle_98 rfl ?_
                obtain ⟨hi, hw⟩ := hw
                refine zr_iald zz_M5 hi rfl dX5_middle_100 ?_
                refine zr_aload_n dX5_middle_101 rfl rfl ?_
                refine zr_getR zz_cX5 zz_M0 5 (by decide) rfl zf_X5_22 dX5_middle_102 ?_
                refine zr_iload dX5_middle_105 rfl ?_
                obtain ⟨hi, hw⟩ := hw
                refine zr_iald zz_M5 hi rfl dX5_middle_107 ?_
                refine zr_icmp_ne 115 dX5_middle_108 (by decide) (fun q => ?_) (fun q => ?_)
                · have hw := hw.1 q
                  refine zr_iconst dX5_middle_115 zqk_0 ?_
                  refine zr_iadd dX5_middle_116 ?_
                  refine zr_istore [.ref 0, .null, .int (h0 1 17), .int x3, .int x4, .int (x6 + y10), .int (x7 + (0 : Int32)), .int x8] dX5_middle_117 (by decide) rfl rfl ?_
                  refine zr_iinc (x8 + 1) [.ref 0, .null, .int (h0 1 17), .int x3, .int x4, .int (x6 + y10), .int (x7 + (0 : Int32)), .int (x8 + 1)] dX5_middle_119 rfl (zok_1 _) (by decide) rfl rfl ?_
                  refine zr_goto 59 dX5_middle_122 (by decide) ?_
                  exact ih59 _ _ _ hw
                · have hw := hw.2 q
                  refine zr_iconst dX5_middle_111 zqk_1 ?_
                  refine zr_goto 116 dX5_middle_112 (by decide) ?_
                  refine zr_iadd dX5_middle_116 ?_
                  refine zr_istore [.ref 0, .null, .int (h0 1 17), .int x3, .int x4, .int (x6 + y10), .int (x7 + (1 : Int32)), .int x8] dX5_middle_117 (by decide) rfl rfl ?_
                  refine zr_iinc (x8 + 1) [.ref 0, .null, .int (h0 1 17), .int x3, .int x4, .int (x6 + y10), .int (x7 + (1 : Int32)), .int (x8 + 1)] dX5_middle_119 rfl (zok_1 _) (by decide) rfl rfl ?_
                  refine zr_goto 59 dX5_middle_122 (by decide) ?_
                  exact ih59 _ _ _ hw
              refine zr_icmp_ge 88 dX5_middle_81 (by decide) (fun q => ?_) (fun q => ?_)
              · have hw := hw.1 q
                refine zr_iconst dX5_middle_88 zqk_0 ?_
                refine zr_sub [.ref 0, .null, .int (h0 1 17), .int x3, .int x4, .null, .int x7, .int x8] ⟨Or.inr rfl, ⟨Or.inl rfl, ⟨Or.inr rfl, ⟨Or.inr rfl, ⟨Or.inr rfl, ⟨Or.inl rfl, ⟨Or.inr rfl, ⟨Or.inr rfl, trivial⟩⟩⟩⟩⟩⟩⟩⟩ ?_
                exact j89 _ hw
              · have hw := hw.2 q
                refine zr_iconst dX5_middle_84 zqk_1 ?_
                refine zr_goto 89 dX5_middle_85 (by decide) ?_
                refine zr_sub [.ref 0, .null, .int (h0 1 17), .int x3, .int x4, .null, .int x7, .int x8] ⟨Or.inr rfl, ⟨Or.inl rfl, ⟨Or.inr rfl, ⟨Or.inr rfl, ⟨Or.inr rfl, ⟨Or.inl rfl, ⟨Or.inr rfl, ⟨Or.inr rfl, trivial⟩⟩⟩⟩⟩⟩⟩⟩ ?_
                exact j89 _ hw
          have key59 : ∀ (t9 : Nat) (x6 : Int32) (x7 : Int32) (x8 : Int32), zz_lp (fun K (s : Int32 × Int32 × Int32) => wX5_middle_b59 h0 h2 x3 x4 K5 K s.1 s.2.1 s.2.2) t9 (x6, x7, x8) → zz_Go zz_M 7 cX5_middle RX5 8 (some .int) post 59 [] [.ref 0, .null, .int (h0 1 17), .int x3, .int x4, .int x6, .int x7, .int x8] h2 := by
            intro t9
            induction t9 with
            | zero => intro x6 x7 x8 hw; exact hw.elim
            | succ t9 ih => intro x6 x7 x8 hw; exact step59 _ ih _ _ _ hw
          exact key59 t9 _ _ _ hw
      have key44 : ∀ (t9 : Nat) (x3 : Int32) (x4 : Int32), zz_lp (fun K (s : Int32 × Int32) => wX5_middle_b44 h0 post h2 K s.1 s.2) t9 (x3, x4) → zz_Go zz_M 7 cX5_middle RX5 8 (some .int) post 44 [] [.ref 0, .null, .int (h0 1 17), .int x3, .int x4, .null, .null, .null] h2 := by
        intro t9
        induction t9 with
        | zero => intro x3 x4 hw; exact hw.elim
        | succ t9 ih => intro x3 x4 hw; exact step44 _ ih _ _ hw
      exact key44 t9 _ _ hw
    · have hw := hw.2 q
      refine zr_aload_n dX5_middle_27 rfl rfl ?_
      refine zr_ldc zk_X5_89 dX5_middle_28 ?_
      refine zr_callVi zz_cX5 zz_M0 (ctX5_finds ((-1000004) : Int32) h0 _ hw) zy_X5_finds zm_X5_59 (by decide) rfl rfl (Nat.le_of_ble_eq_true rfl) dX5_middle_30 (fun r12 h11 hw => ?_)
      exact zr_ret rfl rfl dX5_middle_33 hw
  · have hw := hw.2 q
    refine zr_aload_n dX5_middle_8 rfl rfl ?_
    refine zr_ldc zk_X5_40 dX5_middle_9 ?_
    refine zr_callVi zz_cX5 zz_M0 (ctX5_finds ((-1000001) : Int32) h0 _ hw) zy_X5_finds zm_X5_59 (by decide) rfl rfl (Nat.le_of_ble_eq_true rfl) dX5_middle_11 (fun r14 h13 hw => ?_)
    exact zr_ret rfl rfl dX5_middle_14 hw
def wX5_breaking_j59 (post : Int32 → zz_H → Prop) (h1 : zz_H) (x2 : Int32) (x4 : Int32) : Prop :=
  post (((100 : Int32) * x2) + x4) h1
def wX5_breaking_b20 (post : Int32 → zz_H → Prop) (h1 : zz_H) (x2 : Int32) (K3 : Int32 → Prop) (K5 : Int32 → Prop) (x4 : Int32) : Prop :=
  (((h1 1 17) ≤ x4) → (K3 (x2 + 1))) ∧ ((¬ (h1 1 17) ≤ x4) → (wX5_raw x2 h1 (fun r6 => wX5_raw x4 h1 (fun r7 => ((r6 ≤ r7) → (K5 (x4 + 1))) ∧ ((¬ r6 ≤ r7) → (vp_in x2 12 ∧ (vp_in x4 12 ∧ ((((h1 5 x4.toNatClampNeg) ≤ (h1 5 x2.toNatClampNeg)) → (K5 (x4 + 1))) ∧ ((¬ (h1 5 x4.toNatClampNeg) ≤ (h1 5 x2.toNatClampNeg)) → (wX5_breaking_j59 post h1 x2 x4))))))))))
def wX5_breaking_b7 (post : Int32 → zz_H → Prop) (h1 : zz_H) (K3 : Int32 → Prop) (x2 : Int32) : Prop :=
  (((h1 1 17) ≤ x2) → (post ((-1) : Int32) h1)) ∧ ((¬ (h1 1 17) ≤ x2) → (∃ t9, zz_lp (fun K (s : Int32) => wX5_breaking_b20 post h1 x2 K3 K s) t9 (0 : Int32)))
def wX5_breaking (p1 : Int32) (h0 : zz_H) (post : Int32 → zz_H → Prop) : Prop :=
  wX5_findMarks p1 h0 (fun _ h1 => ∃ t9, zz_lp (fun K (s : Int32) => wX5_breaking_b7 post h1 K s) t9 (0 : Int32))
set_option maxRecDepth 20000 in
set_option maxHeartbeats 4000000 in
theorem ctX5_breaking (p1 : Int32) (h0 : zz_H) (post : Int32 → zz_H → Prop) (hw : wX5_breaking p1 h0 post) : zz_Ct zz_M 7 yX5_breaking cX5_breaking 4 (some .int) [.ref 0, .int p1] h0 post := by
  refine zz_ct (L := [.ref 0, .int p1, .null, .null]) (by decide +kernel) (Nat.le_of_ble_eq_true rfl) (fun ad q hq => hq) ?_
  show zz_Go zz_M 7 cX5_breaking RX5 4 (some .int) post 0 [] [.ref 0, .int p1, .null, .null] h0
  unfold wX5_breaking at hw
  refine zr_aload_n dX5_breaking_0 rfl rfl ?_
  refine zr_iload_n dX5_breaking_1 rfl rfl ?_
  refine zr_callVv zz_cX5 zz_M0 (ctX5_findMarks p1 h0 _ hw) zy_X5_findMarks zm_X5_135 (by decide) rfl rfl (Nat.le_of_ble_eq_true rfl) dX5_breaking_2 (fun h1 hw => ?_)
  refine zr_iconst dX5_breaking_5 zqk_0 ?_
  refine zr_istore_n [.ref 0, .int p1, .int (0 : Int32), .null] dX5_breaking_6 rfl (by decide) rfl rfl ?_
  refine zr_sub [.ref 0, .null, .int (0 : Int32), .null] ⟨Or.inr rfl, ⟨Or.inl rfl, ⟨Or.inr rfl, ⟨Or.inl rfl, trivial⟩⟩⟩⟩ ?_
  obtain ⟨t9, hw⟩ := hw
  have step7 : ∀ (K3 : Int32 → Prop), (∀ (x2 : Int32), K3 x2 → zz_Go zz_M 7 cX5_breaking RX5 4 (some .int) post 7 [] [.ref 0, .null, .int x2, .null] h1) → ∀ (x2 : Int32), wX5_breaking_b7 post h1 K3 x2 → zz_Go zz_M 7 cX5_breaking RX5 4 (some .int) post 7 [] [.ref 0, .null, .int x2, .null] h1 := by
    intro K3 ih7 x2 hw
    unfold wX5_breaking_b7 at hw
    refine zr_iload_n dX5_breaking_7 rfl rfl ?_
    refine zr_aload_n dX5_breaking_8 rfl rfl ?_
    refine zr_getR zz_cX5 zz_M0 0 (by decide) rfl zf_X5_7 dX5_breaking_9 ?_
    refine zr_bipush dX5_breaking_12 zbk_17 ?_
    refine zr_iald zz_M1 (zz_vin (by decide)) (j := 17) (by decide) dX5_breaking_14 ?_
    refine zr_icmp_ge 78 dX5_breaking_15 (by decide) (fun q => ?_) (fun q => ?_)
    · have hw := hw.1 q
      refine zr_iconst dX5_breaking_78 zqk_m1 ?_
      exact zr_ret rfl rfl dX5_breaking_79 hw
    · have hw := hw.2 q
      refine zr_iconst dX5_breaking_18 zqk_0 ?_
      refine zr_istore_n [.ref 0, .null, .int x2, .int (0 : Int32)] dX5_breaking_19 rfl (by decide) rfl rfl ?_
      obtain ⟨t9, hw⟩ := hw
      have step20 : ∀ (K5 : Int32 → Prop), (∀ (x4 : Int32), K5 x4 → zz_Go zz_M 7 cX5_breaking RX5 4 (some .int) post 20 [] [.ref 0, .null, .int x2, .int x4] h1) → ∀ (x4 : Int32), wX5_breaking_b20 post h1 x2 K3 K5 x4 → zz_Go zz_M 7 cX5_breaking RX5 4 (some .int) post 20 [] [.ref 0, .null, .int x2, .int x4] h1 := by
        intro K5 ih20 x4 hw
        unfold wX5_breaking_b20 at hw
        refine zr_iload_n dX5_breaking_20 rfl rfl ?_
        refine zr_aload_n dX5_breaking_21 rfl rfl ?_
        refine zr_getR zz_cX5 zz_M0 0 (by decide) rfl zf_X5_7 dX5_breaking_22 ?_
        refine zr_bipush dX5_breaking_25 zbk_17 ?_
        refine zr_iald zz_M1 (zz_vin (by decide)) (j := 17) (by decide) dX5_breaking_27 ?_
        refine zr_icmp_ge 72 dX5_breaking_28 (by decide) (fun q => ?_) (fun q => ?_)
        · have hw := hw.1 q
          refine zr_iinc (x2 + 1) [.ref 0, .null, .int (x2 + 1), .int x4] dX5_breaking_72 rfl (zok_1 _) (by decide) rfl rfl ?_
          refine zr_goto 7 dX5_breaking_75 (by decide) ?_
          refine zr_sub [.ref 0, .null, .int (x2 + 1), .null] ⟨Or.inr rfl, ⟨Or.inl rfl, ⟨Or.inr rfl, ⟨Or.inl rfl, trivial⟩⟩⟩⟩ ?_
          exact ih7 _ hw
        · have hw := hw.2 q
          refine zr_aload_n dX5_breaking_31 rfl rfl ?_
          refine zr_iload_n dX5_breaking_32 rfl rfl ?_
          refine zr_pVi zz_cX5 zz_M0 (ctX5_raw x2 h1 _ hw) zy_X5_raw zm_X5_84 (by decide) rfl rfl (Nat.le_of_ble_eq_true rfl) dX5_breaking_33 (fun r6 hw => ?_)
          refine zr_aload_n dX5_breaking_36 rfl rfl ?_
          refine zr_iload_n dX5_breaking_37 rfl rfl ?_
          refine zr_pVi zz_cX5 zz_M0 (ctX5_raw x4 h1 _ hw) zy_X5_raw zm_X5_84 (by decide) rfl rfl (Nat.le_of_ble_eq_true rfl) dX5_breaking_38 (fun r7 hw => ?_)
          refine zr_icmp_le 66 dX5_breaking_41 (by decide) (fun q => ?_) (fun q => ?_)
          · have hw := hw.1 q
            refine zr_iinc (x4 + 1) [.ref 0, .null, .int x2, .int (x4 + 1)] dX5_breaking_66 rfl (zok_1 _) (by decide) rfl rfl ?_
            refine zr_goto 20 dX5_breaking_69 (by decide) ?_
            exact ih20 _ hw
          · have hw := hw.2 q
            refine zr_aload_n dX5_breaking_44 rfl rfl ?_
            refine zr_getR zz_cX5 zz_M0 5 (by decide) rfl zf_X5_22 dX5_breaking_45 ?_
            refine zr_iload_n dX5_breaking_48 rfl rfl ?_
            obtain ⟨hi, hw⟩ := hw
            refine zr_iald zz_M5 hi rfl dX5_breaking_49 ?_
            refine zr_aload_n dX5_breaking_50 rfl rfl ?_
            refine zr_getR zz_cX5 zz_M0 5 (by decide) rfl zf_X5_22 dX5_breaking_51 ?_
            refine zr_iload_n dX5_breaking_54 rfl rfl ?_
            obtain ⟨hi, hw⟩ := hw
            refine zr_iald zz_M5 hi rfl dX5_breaking_55 ?_
            have j59 : wX5_breaking_j59 post h1 x2 x4 → zz_Go zz_M 7 cX5_breaking RX5 4 (some .int) post 59 [] [.null, .null, .int x2, .int x4] h1 := by
              intro hw
              unfold wX5_breaking_j59 at hw
              refine zr_bipush dX5_breaking_59 zbk_100 ?_
              refine zr_iload_n dX5_breaking_61 rfl rfl ?_
              refine zr_imul dX5_breaking_62 ?_
              refine zr_iload_n dX5_breaking_63 rfl rfl ?_
              refine zr_iadd dX5_breaking_64 ?_
              exact zr_ret rfl rfl dX5_breaking_65 hw
            refine zr_icmp_ge 66 dX5_breaking_56 (by decide) (fun q => ?_) (fun q => ?_)
            · have hw := hw.1 q
              refine zr_iinc (x4 + 1) [.ref 0, .null, .int x2, .int (x4 + 1)] dX5_breaking_66 rfl (zok_1 _) (by decide) rfl rfl ?_
              refine zr_goto 20 dX5_breaking_69 (by decide) ?_
              exact ih20 _ hw
            · have hw := hw.2 q
              refine zr_sub [.null, .null, .int x2, .int x4] ⟨Or.inl rfl, ⟨Or.inl rfl, ⟨Or.inr rfl, ⟨Or.inr rfl, trivial⟩⟩⟩⟩ ?_
              exact j59 hw
      have key20 : ∀ (t9 : Nat) (x4 : Int32), zz_lp (fun K (s : Int32) => wX5_breaking_b20 post h1 x2 K3 K s) t9 x4 → zz_Go zz_M 7 cX5_breaking RX5 4 (some .int) post 20 [] [.ref 0, .null, .int x2, .int x4] h1 := by
        intro t9
        induction t9 with
        | zero => intro x4 hw; exact hw.elim
        | succ t9 ih => intro x4 hw; exact step20 _ ih _ hw
      exact key20 t9 _ hw
  have key7 : ∀ (t9 : Nat) (x2 : Int32), zz_lp (fun K (s : Int32) => wX5_breaking_b7 post h1 K s) t9 x2 → zz_Go zz_M 7 cX5_breaking RX5 4 (some .int) post 7 [] [.ref 0, .null, .int x2, .null] h1 := by
    intro t9
    induction t9 with
    | zero => intro x2 hw; exact hw.elim
    | succ t9 ih => intro x2 hw; exact step7 _ ih _ hw
  exact key7 t9 _ hw
def wX5_keeps (p1 : Int32) (h0 : zz_H) (post : Int32 → zz_H → Prop) : Prop :=
  wX5_isCurve p1 h0 (fun r1 => ((¬ r1 = 0) → (wX5_breaking p1 h0 (fun r3 h2 => ((0 ≤ r3) → (post (0 : Int32) h2)) ∧ ((¬ 0 ≤ r3) → (post (1 : Int32) h2))))) ∧ ((r1 = 0) → (wX5_finds ((-1000001) : Int32) h0 (fun r5 h4 => post r5 h4))))
set_option maxRecDepth 20000 in
set_option maxHeartbeats 4000000 in
theorem ctX5_keeps (p1 : Int32) (h0 : zz_H) (post : Int32 → zz_H → Prop) (hw : wX5_keeps p1 h0 post) : zz_Ct zz_M 8 yX5_keeps cX5_keeps 2 (some .int) [.ref 0, .int p1] h0 post := by
  refine zz_ct (L := [.ref 0, .int p1]) (by decide +kernel) (Nat.le_of_ble_eq_true rfl) (fun ad q hq => hq) ?_
  show zz_Go zz_M 8 cX5_keeps RX5 2 (some .int) post 0 [] [.ref 0, .int p1] h0
  unfold wX5_keeps at hw
  refine zr_aload_n dX5_keeps_0 rfl rfl ?_
  refine zr_iload_n dX5_keeps_1 rfl rfl ?_
  refine zr_pVi zz_cX5 zz_M0 (ctX5_isCurve p1 h0 _ hw) zy_X5_isCurve zm_X5_114 (by decide) rfl rfl (Nat.le_of_ble_eq_true rfl) dX5_keeps_2 (fun r1 hw => ?_)
  refine zr_if_ne 17 dX5_keeps_5 (by decide) (fun q => ?_) (fun q => ?_)
  · have hw := hw.1 q
    refine zr_aload_n dX5_keeps_17 rfl rfl ?_
    refine zr_iload_n dX5_keeps_18 rfl rfl ?_
    refine zr_callVi zz_cX5 zz_M0 (ctX5_breaking p1 h0 _ hw) zy_X5_breaking zm_X5_139 (by decide) rfl rfl (Nat.le_of_ble_eq_true rfl) dX5_keeps_19 (fun r3 h2 hw => ?_)
    refine zr_if_ge 29 dX5_keeps_22 (by decide) (fun q => ?_) (fun q => ?_)
    · have hw := hw.1 q
      refine zr_iconst dX5_keeps_29 zqk_0 ?_
      exact zr_ret rfl rfl dX5_keeps_30 hw
    · have hw := hw.2 q
      refine zr_iconst dX5_keeps_25 zqk_1 ?_
      refine zr_goto 30 dX5_keeps_26 (by decide) ?_
      exact zr_ret rfl rfl dX5_keeps_30 hw
  · have hw := hw.2 q
    refine zr_aload_n dX5_keeps_8 rfl rfl ?_
    refine zr_ldc zk_X5_40 dX5_keeps_9 ?_
    refine zr_callVi zz_cX5 zz_M0 (ctX5_finds ((-1000001) : Int32) h0 _ hw) zy_X5_finds zm_X5_59 (by decide) rfl rfl (Nat.le_of_ble_eq_true rfl) dX5_keeps_11 (fun r5 h4 hw => ?_)
    refine zr_goto 30 dX5_keeps_14 (by decide) ?_
    exact zr_ret rfl rfl dX5_keeps_30 hw
def wX5_breaks (p1 : Int32) (h0 : zz_H) (post : Int32 → zz_H → Prop) : Prop :=
  wX5_isCurve p1 h0 (fun r1 => ((¬ r1 = 0) → (wX5_breaking p1 h0 (fun r3 h2 => ((0 ≤ r3) → (post r3 h2)) ∧ ((¬ 0 ≤ r3) → (wX5_finds ((-1000004) : Int32) h2 (fun r5 h4 => post r5 h4)))))) ∧ ((r1 = 0) → (wX5_finds ((-1000001) : Int32) h0 (fun r7 h6 => post r7 h6))))
set_option maxRecDepth 20000 in
set_option maxHeartbeats 4000000 in
theorem ctX5_breaks (p1 : Int32) (h0 : zz_H) (post : Int32 → zz_H → Prop) (hw : wX5_breaks p1 h0 post) : zz_Ct zz_M 8 yX5_breaks cX5_breaks 3 (some .int) [.ref 0, .int p1] h0 post := by
  refine zz_ct (L := [.ref 0, .int p1, .null]) (by decide +kernel) (Nat.le_of_ble_eq_true rfl) (fun ad q hq => hq) ?_
  show zz_Go zz_M 8 cX5_breaks RX5 3 (some .int) post 0 [] [.ref 0, .int p1, .null] h0
  unfold wX5_breaks at hw
  refine zr_aload_n dX5_breaks_0 rfl rfl ?_
  refine zr_iload_n dX5_breaks_1 rfl rfl ?_
  refine zr_pVi zz_cX5 zz_M0 (ctX5_isCurve p1 h0 _ hw) zy_X5_isCurve zm_X5_114 (by decide) rfl rfl (Nat.le_of_ble_eq_true rfl) dX5_breaks_2 (fun r1 hw => ?_)
  refine zr_if_ne 15 dX5_breaks_5 (by decide) (fun q => ?_) (fun q => ?_)
  · have hw := hw.1 q
    refine zr_aload_n dX5_breaks_15 rfl rfl ?_
    refine zr_iload_n dX5_breaks_16 rfl rfl ?_
    refine zr_callVi zz_cX5 zz_M0 (ctX5_breaking p1 h0 _ hw) zy_X5_breaking zm_X5_139 (by decide) rfl rfl (Nat.le_of_ble_eq_true rfl) dX5_breaks_17 (fun r3 h2 hw => ?_)
    refine zr_istore_n [.ref 0, .int p1, .int r3] dX5_breaks_20 rfl (by decide) rfl rfl ?_
    refine zr_iload_n dX5_breaks_21 rfl rfl ?_
    refine zr_if_ge 34 dX5_breaks_22 (by decide) (fun q => ?_) (fun q => ?_)
    · have hw := hw.1 q
      refine zr_iload_n dX5_breaks_34 rfl rfl ?_
      exact zr_ret rfl rfl dX5_breaks_35 hw
    · have hw := hw.2 q
      refine zr_aload_n dX5_breaks_25 rfl rfl ?_
      refine zr_ldc zk_X5_89 dX5_breaks_26 ?_
      refine zr_callVi zz_cX5 zz_M0 (ctX5_finds ((-1000004) : Int32) h2 _ hw) zy_X5_finds zm_X5_59 (by decide) rfl rfl (Nat.le_of_ble_eq_true rfl) dX5_breaks_28 (fun r5 h4 hw => ?_)
      refine zr_goto 35 dX5_breaks_31 (by decide) ?_
      exact zr_ret rfl rfl dX5_breaks_35 hw
  · have hw := hw.2 q
    refine zr_aload_n dX5_breaks_8 rfl rfl ?_
    refine zr_ldc zk_X5_40 dX5_breaks_9 ?_
    refine zr_callVi zz_cX5 zz_M0 (ctX5_finds ((-1000001) : Int32) h0 _ hw) zy_X5_finds zm_X5_59 (by decide) rfl rfl (Nat.le_of_ble_eq_true rfl) dX5_breaks_11 (fun r7 h6 hw => ?_)
    exact zr_ret rfl rfl dX5_breaks_14 hw
def wX5_heaped_b38 (h2 : zz_H) (x4 : Int32) (K5 : Int32 × Int32 → Prop) (K8 : Int32 × Int32 → Prop) (x6 : Int32) (x7 : Int32) : Prop :=
  ((x4 ≤ x7) → (K5 (x6, (x4 + 1)))) ∧ ((¬ x4 ≤ x7) → (wX5_raw x4 h2 (fun r9 => wX5_raw x7 h2 (fun r10 => ((r9 = r10) → (K8 ((x6 + (0 : Int32)), (x7 + 1)))) ∧ ((¬ r9 = r10) → (vp_in x4 12 ∧ (vp_in x7 12 ∧ (((¬ (h2 5 x4.toNatClampNeg) = (h2 5 x7.toNatClampNeg)) → (K8 ((x6 + (0 : Int32)), (x7 + 1)))) ∧ (((h2 5 x4.toNatClampNeg) = (h2 5 x7.toNatClampNeg)) → (K8 ((x6 + (1 : Int32)), (x7 + 1))))))))))))
def wX5_heaped_b24 (post : Int32 → zz_H → Prop) (h2 : zz_H) (K5 : Int32 × Int32 → Prop) (x3 : Int32) (x4 : Int32) : Prop :=
  (((h2 1 17) ≤ x4) → (post x3 h2)) ∧ ((¬ (h2 1 17) ≤ x4) → (∃ t9, zz_lp (fun K (s : Int32 × Int32) => wX5_heaped_b38 h2 x4 K5 K s.1 s.2) t9 (x3, (0 : Int32))))
def wX5_heaped (p1 : Int32) (h0 : zz_H) (post : Int32 → zz_H → Prop) : Prop :=
  wX5_isCurve p1 h0 (fun r1 => ((¬ r1 = 0) → (wX5_findMarks p1 h0 (fun _ h2 => ∃ t9, zz_lp (fun K (s : Int32 × Int32) => wX5_heaped_b24 post h2 K s.1 s.2) t9 ((0 : Int32), (0 : Int32))))) ∧ ((r1 = 0) → (wX5_finds ((-1000001) : Int32) h0 (fun r12 h11 => post r12 h11))))
set_option maxRecDepth 20000 in
set_option maxHeartbeats 4000000 in
theorem ctX5_heaped (p1 : Int32) (h0 : zz_H) (post : Int32 → zz_H → Prop) (hw : wX5_heaped p1 h0 post) : zz_Ct zz_M 7 yX5_heaped cX5_heaped 5 (some .int) [.ref 0, .int p1] h0 post := by
  refine zz_ct (L := [.ref 0, .int p1, .null, .null, .null]) (by decide +kernel) (Nat.le_of_ble_eq_true rfl) (fun ad q hq => hq) ?_
  show zz_Go zz_M 7 cX5_heaped RX5 5 (some .int) post 0 [] [.ref 0, .int p1, .null, .null, .null] h0
  unfold wX5_heaped at hw
  refine zr_aload_n dX5_heaped_0 rfl rfl ?_
  refine zr_iload_n dX5_heaped_1 rfl rfl ?_
  refine zr_pVi zz_cX5 zz_M0 (ctX5_isCurve p1 h0 _ hw) zy_X5_isCurve zm_X5_114 (by decide) rfl rfl (Nat.le_of_ble_eq_true rfl) dX5_heaped_2 (fun r1 hw => ?_)
  refine zr_if_ne 15 dX5_heaped_5 (by decide) (fun q => ?_) (fun q => ?_)
  · have hw := hw.1 q
    refine zr_aload_n dX5_heaped_15 rfl rfl ?_
    refine zr_iload_n dX5_heaped_16 rfl rfl ?_
    refine zr_callVv zz_cX5 zz_M0 (ctX5_findMarks p1 h0 _ hw) zy_X5_findMarks zm_X5_135 (by decide) rfl rfl (Nat.le_of_ble_eq_true rfl) dX5_heaped_17 (fun h2 hw => ?_)
    refine zr_iconst dX5_heaped_20 zqk_0 ?_
    refine zr_istore_n [.ref 0, .int p1, .int (0 : Int32), .null, .null] dX5_heaped_21 rfl (by decide) rfl rfl ?_
    refine zr_iconst dX5_heaped_22 zqk_0 ?_
    refine zr_istore_n [.ref 0, .int p1, .int (0 : Int32), .int (0 : Int32), .null] dX5_heaped_23 rfl (by decide) rfl rfl ?_
    refine zr_sub [.ref 0, .null, .int (0 : Int32), .int (0 : Int32), .null] ⟨Or.inr rfl, ⟨Or.inl rfl, ⟨Or.inr rfl, ⟨Or.inr rfl, ⟨Or.inl rfl, trivial⟩⟩⟩⟩⟩ ?_
    obtain ⟨t9, hw⟩ := hw
    have step24 : ∀ (K5 : Int32 × Int32 → Prop), (∀ (x3 : Int32) (x4 : Int32), K5 (x3, x4) → zz_Go zz_M 7 cX5_heaped RX5 5 (some .int) post 24 [] [.ref 0, .null, .int x3, .int x4, .null] h2) → ∀ (x3 : Int32) (x4 : Int32), wX5_heaped_b24 post h2 K5 x3 x4 → zz_Go zz_M 7 cX5_heaped RX5 5 (some .int) post 24 [] [.ref 0, .null, .int x3, .int x4, .null] h2 := by
      intro K5 ih24 x3 x4 hw
      unfold wX5_heaped_b24 at hw
      refine zr_iload_n dX5_heaped_24 rfl rfl ?_
      refine zr_aload_n dX5_heaped_25 rfl rfl ?_
      refine zr_getR zz_cX5 zz_M0 0 (by decide) rfl zf_X5_7 dX5_heaped_26 ?_
      refine zr_bipush dX5_heaped_29 zbk_17 ?_
      refine zr_iald zz_M1 (zz_vin (by decide)) (j := 17) (by decide) dX5_heaped_31 ?_
      refine zr_icmp_ge 94 dX5_heaped_32 (by decide) (fun q => ?_) (fun q => ?_)
      · have hw := hw.1 q
        refine zr_iload_n dX5_heaped_94 rfl rfl ?_
        exact zr_ret rfl rfl dX5_heaped_95 hw
      · have hw := hw.2 q
        refine zr_iconst dX5_heaped_35 zqk_0 ?_
        refine zr_istore [.ref 0, .null, .int x3, .int x4, .int (0 : Int32)] dX5_heaped_36 (by decide) rfl rfl ?_
        obtain ⟨t9, hw⟩ := hw
        have step38 : ∀ (K8 : Int32 × Int32 → Prop), (∀ (x6 : Int32) (x7 : Int32), K8 (x6, x7) → zz_Go zz_M 7 cX5_heaped RX5 5 (some .int) post 38 [] [.ref 0, .null, .int x6, .int x4, .int x7] h2) → ∀ (x6 : Int32) (x7 : Int32), wX5_heaped_b38 h2 x4 K5 K8 x6 x7 → zz_Go zz_M 7 cX5_heaped RX5 5 (some .int) post 38 [] [.ref 0, .null, .int x6, .int x4, .int x7] h2 := by
          intro K8 ih38 x6 x7 hw
          unfold wX5_heaped_b38 at hw
          refine zr_iload dX5_heaped_38 rfl ?_
          refine zr_iload_n dX5_heaped_40 rfl rfl ?_
          refine zr_icmp_ge 88 dX5_heaped_41 (by decide) (fun q => ?_) (fun q => ?_)
          · have hw := hw.1 q
            refine zr_iinc (x4 + 1) [.ref 0, .null, .int x6, .int (x4 + 1), .int x7] dX5_heaped_88 rfl (zok_1 _) (by decide) rfl rfl ?_
            refine zr_goto 24 dX5_heaped_91 (by decide) ?_
            refine zr_sub [.ref 0, .null, .int x6, .int (x4 + 1), .null] ⟨Or.inr rfl, ⟨Or.inl rfl, ⟨Or.inr rfl, ⟨Or.inr rfl, ⟨Or.inl rfl, trivial⟩⟩⟩⟩⟩ ?_
            exact ih24 _ _ hw
          · have hw := hw.2 q
            refine zr_iload_n dX5_heaped_44 rfl rfl ?_
            refine zr_aload_n dX5_heaped_45 rfl rfl ?_
            refine zr_iload_n dX5_heaped_46 rfl rfl ?_
            refine zr_pVi zz_cX5 zz_M0 (ctX5_raw x4 h2 _ hw) zy_X5_raw zm_X5_84 (by decide) rfl rfl (Nat.le_of_ble_eq_true rfl) dX5_heaped_47 (fun r9 hw => ?_)
            refine zr_aload_n dX5_heaped_50 rfl rfl ?_
            refine zr_iload dX5_heaped_51 rfl ?_
            refine zr_pVi zz_cX5 zz_M0 (ctX5_raw x7 h2 _ hw) zy_X5_raw zm_X5_84 (by decide) rfl rfl (Nat.le_of_ble_eq_true rfl) dX5_heaped_53 (fun r10 hw => ?_)
            refine zr_icmp_eq 79 dX5_heaped_56 (by decide) (fun q => ?_) (fun q => ?_)
            · have hw := hw.1 q
              refine zr_iconst dX5_heaped_79 zqk_0 ?_
              refine zr_iadd dX5_heaped_80 ?_
              refine zr_istore_n [.ref 0, .null, .int (x6 + (0 : Int32)), .int x4, .int x7] dX5_heaped_81 rfl (by decide) rfl rfl ?_
              refine zr_iinc (x7 + 1) [.ref 0, .null, .int (x6 + (0 : Int32)), .int x4, .int (x7 + 1)] dX5_heaped_82 rfl (zok_1 _) (by decide) rfl rfl ?_
              refine zr_goto 38 dX5_heaped_85 (by decide) ?_
              exact ih38 _ _ hw
            · have hw := hw.2 q
              refine zr_aload_n dX5_heaped_59 rfl rfl ?_
              refine zr_getR zz_cX5 zz_M0 5 (by decide) rfl zf_X5_22 dX5_heaped_60 ?_
              refine zr_iload_n dX5_heaped_63 rfl rfl ?_
              obtain ⟨hi, hw⟩ := hw
              refine zr_iald zz_M5 hi rfl dX5_heaped_64 ?_
              refine zr_aload_n dX5_heaped_65 rfl rfl ?_
              refine zr_getR zz_cX5 zz_M0 5 (by decide) rfl zf_X5_22 dX5_heaped_66 ?_
              refine zr_iload dX5_heaped_69 rfl ?_
              obtain ⟨hi, hw⟩ := hw
              refine zr_iald zz_M5 hi rfl dX5_heaped_71 ?_
              refine zr_icmp_ne 79 dX5_heaped_72 (by decide) (fun q => ?_) (fun q => ?_)
              · have hw := hw.1 q
                refine zr_iconst dX5_heaped_79 zqk_0 ?_
                refine zr_iadd dX5_heaped_80 ?_
                refine zr_istore_n [.ref 0, .null, .int (x6 + (0 : Int32)), .int x4, .int x7] dX5_heaped_81 rfl (by decide) rfl rfl ?_
                refine zr_iinc (x7 + 1) [.ref 0, .null, .int (x6 + (0 : Int32)), .int x4, .int (x7 + 1)] dX5_heaped_82 rfl (zok_1 _) (by decide) rfl rfl ?_
                refine zr_goto 38 dX5_heaped_85 (by decide) ?_
                exact ih38 _ _ hw
              · have hw := hw.2 q
                refine zr_iconst dX5_heaped_75 zqk_1 ?_
                refine zr_goto 80 dX5_heaped_76 (by decide) ?_
                refine zr_iadd dX5_heaped_80 ?_
                refine zr_istore_n [.ref 0, .null, .int (x6 + (1 : Int32)), .int x4, .int x7] dX5_heaped_81 rfl (by decide) rfl rfl ?_
                refine zr_iinc (x7 + 1) [.ref 0, .null, .int (x6 + (1 : Int32)), .int x4, .int (x7 + 1)] dX5_heaped_82 rfl (zok_1 _) (by decide) rfl rfl ?_
                refine zr_goto 38 dX5_heaped_85 (by decide) ?_
                exact ih38 _ _ hw
        have key38 : ∀ (t9 : Nat) (x6 : Int32) (x7 : Int32), zz_lp (fun K (s : Int32 × Int32) => wX5_heaped_b38 h2 x4 K5 K s.1 s.2) t9 (x6, x7) → zz_Go zz_M 7 cX5_heaped RX5 5 (some .int) post 38 [] [.ref 0, .null, .int x6, .int x4, .int x7] h2 := by
          intro t9
          induction t9 with
          | zero => intro x6 x7 hw; exact hw.elim
          | succ t9 ih => intro x6 x7 hw; exact step38 _ ih _ _ hw
        exact key38 t9 _ _ hw
    have key24 : ∀ (t9 : Nat) (x3 : Int32) (x4 : Int32), zz_lp (fun K (s : Int32 × Int32) => wX5_heaped_b24 post h2 K s.1 s.2) t9 (x3, x4) → zz_Go zz_M 7 cX5_heaped RX5 5 (some .int) post 24 [] [.ref 0, .null, .int x3, .int x4, .null] h2 := by
      intro t9
      induction t9 with
      | zero => intro x3 x4 hw; exact hw.elim
      | succ t9 ih => intro x3 x4 hw; exact step24 _ ih _ _ hw
    exact key24 t9 _ _ hw
  · have hw := hw.2 q
    refine zr_aload_n dX5_heaped_8 rfl rfl ?_
    refine zr_ldc zk_X5_40 dX5_heaped_9 ?_
    refine zr_callVi zz_cX5 zz_M0 (ctX5_finds ((-1000001) : Int32) h0 _ hw) zy_X5_finds zm_X5_59 (by decide) rfl rfl (Nat.le_of_ble_eq_true rfl) dX5_heaped_11 (fun r12 h11 hw => ?_)
    exact zr_ret rfl rfl dX5_heaped_14 hw
def wX5_gaining_j128 (p2 : Int32) (x3 : Int32) (h4 : zz_H) (K5 : Int32 × Int32 × zz_H → Prop) (r6 : Int32) (x7 : Int32) (h9 : zz_H) : Prop :=
  wX5_at p2 (0 : Int32) x3 h9 (fun r11 => vp_in r11 245 ∧ zz_sto h9 1 (upd (h9 1) r11.toNatClampNeg (h4 1 r6.toNatClampNeg)) (fun h12 => K5 (x7, (x3 + 1), h12)))
def wX5_gaining_j107 (x3 : Int32) (x8 : Int32) (K10 : Int32 × Int32 × zz_H → Prop) (h14 : zz_H) : Prop :=
  K10 ((((100 : Int32) * x3) + x8), (x8 + (-1)), h14)
def wX5_gaining_j75 (x3 : Int32) (x7 : Int32) (x8 : Int32) (K10 : Int32 × Int32 × zz_H → Prop) (h14 : zz_H) (y16 : Int32) : Prop :=
  ((y16 = 0) → (K10 (x7, (x8 + (-1)), h14))) ∧ ((¬ y16 = 0) → (((x7 < 0) → (wX5_gaining_j107 x3 x8 K10 h14)) ∧ ((¬ x7 < 0) → (((x8 < (zz_rem x7 (100 : Int32))) → (wX5_gaining_j107 x3 x8 K10 h14)) ∧ ((¬ x8 < (zz_rem x7 (100 : Int32))) → (((¬ (x7 / (100 : Int32)) = x3) → (K10 (x7, (x8 + (-1)), h14))) ∧ (((x7 / (100 : Int32)) = x3) → (wX5_gaining_j107 x3 x8 K10 h14))))))))
def wX5_gaining_b38 (p1 : Int32) (p2 : Int32) (r1 : Int32) (x3 : Int32) (h4 : zz_H) (K5 : Int32 × Int32 × zz_H → Prop) (r6 : Int32) (K10 : Int32 × Int32 × zz_H → Prop) (x7 : Int32) (x8 : Int32) (h9 : zz_H) : Prop :=
  ((x8 ≤ 0) → (wX5_gaining_j128 p2 x3 h4 K5 r6 x7 h9)) ∧ ((¬ x8 ≤ 0) → (wX5_at p2 (0 : Int32) x3 h9 (fun r13 => vp_in r13 245 ∧ zz_sto h9 1 (upd (h9 1) r13.toNatClampNeg ((h4 1 r6.toNatClampNeg) - x8)) (fun h14 => wX5_markOf p1 p2 h14 (fun r15 => ((r15 ≤ r1) → (wX5_gaining_j75 x3 x7 x8 K10 h14 (0 : Int32))) ∧ ((¬ r15 ≤ r1) → (wX5_gaining_j75 x3 x7 x8 K10 h14 (1 : Int32))))))))
def wX5_gaining_b13 (p1 : Int32) (p2 : Int32) (post : Int32 → zz_H → Prop) (r1 : Int32) (K5 : Int32 × Int32 × zz_H → Prop) (x2 : Int32) (x3 : Int32) (h4 : zz_H) : Prop :=
  (((8 : Int32) ≤ x3) → (post x2 h4)) ∧ ((¬ (8 : Int32) ≤ x3) → (wX5_at p2 (0 : Int32) x3 h4 (fun r6 => vp_in r6 245 ∧ (∃ t9, zz_lp (fun K (s : Int32 × Int32 × zz_H) => wX5_gaining_b38 p1 p2 r1 x3 h4 K5 r6 K s.1 s.2.1 s.2.2) t9 (x2, (h4 1 r6.toNatClampNeg), h4)))))
def wX5_gaining (p1 : Int32) (p2 : Int32) (h0 : zz_H) (post : Int32 → zz_H → Prop) : Prop :=
  wX5_markOf p1 p2 h0 (fun r1 => ∃ t9, zz_lp (fun K (s : Int32 × Int32 × zz_H) => wX5_gaining_b13 p1 p2 post r1 K s.1 s.2.1 s.2.2) t9 (((-1) : Int32), (0 : Int32), h0))
set_option maxRecDepth 20000 in
set_option maxHeartbeats 4000000 in
theorem ctX5_gaining (p1 : Int32) (p2 : Int32) (h0 : zz_H) (post : Int32 → zz_H → Prop) (hw : wX5_gaining p1 p2 h0 post) : zz_Ct zz_M 6 yX5_gaining cX5_gaining 9 (some .int) [.ref 0, .int p1, .int p2] h0 post := by
  refine zz_ct (L := [.ref 0, .int p1, .int p2, .null, .null, .null, .null, .null, .null]) (by decide +kernel) (Nat.le_of_ble_eq_true rfl) (fun ad q hq => hq) ?_
  show zz_Go zz_M 6 cX5_gaining RX5 9 (some .int) post 0 [] [.ref 0, .int p1, .int p2, .null, .null, .null, .null, .null, .null] h0
  unfold wX5_gaining at hw
  refine zr_aload_n dX5_gaining_0 rfl rfl ?_
  refine zr_iload_n dX5_gaining_1 rfl rfl ?_
  refine zr_iload_n dX5_gaining_2 rfl rfl ?_
  refine zr_pVi zz_cX5 zz_M0 (ctX5_markOf p1 p2 h0 _ hw) zy_X5_markOf zm_X5_132 (by decide) rfl rfl (Nat.le_of_ble_eq_true rfl) dX5_gaining_3 (fun r1 hw => ?_)
  refine zr_istore_n [.ref 0, .int p1, .int p2, .int r1, .null, .null, .null, .null, .null] dX5_gaining_6 rfl (by decide) rfl rfl ?_
  refine zr_iconst dX5_gaining_7 zqk_m1 ?_
  refine zr_istore [.ref 0, .int p1, .int p2, .int r1, .int ((-1) : Int32), .null, .null, .null, .null] dX5_gaining_8 (by decide) rfl rfl ?_
  refine zr_iconst dX5_gaining_10 zqk_0 ?_
  refine zr_istore [.ref 0, .int p1, .int p2, .int r1, .int ((-1) : Int32), .int (0 : Int32), .null, .null, .null] dX5_gaining_11 (by decide) rfl rfl ?_
  obtain ⟨t9, hw⟩ := hw
  have step13 : ∀ (K5 : Int32 × Int32 × zz_H → Prop), (∀ (x2 : Int32) (x3 : Int32) (h4 : zz_H), K5 (x2, x3, h4) → zz_Go zz_M 6 cX5_gaining RX5 9 (some .int) post 13 [] [.ref 0, .int p1, .int p2, .int r1, .int x2, .int x3, .null, .null, .null] h4) → ∀ (x2 : Int32) (x3 : Int32) (h4 : zz_H), wX5_gaining_b13 p1 p2 post r1 K5 x2 x3 h4 → zz_Go zz_M 6 cX5_gaining RX5 9 (some .int) post 13 [] [.ref 0, .int p1, .int p2, .int r1, .int x2, .int x3, .null, .null, .null] h4 := by
    intro K5 ih13 x2 x3 h4 hw
    unfold wX5_gaining_b13 at hw
    refine zr_iload dX5_gaining_13 rfl ?_
    refine zr_bipush dX5_gaining_15 zbk_8 ?_
    refine zr_icmp_ge 148 dX5_gaining_17 (by decide) (fun q => ?_) (fun q => ?_)
    · have hw := hw.1 q
      refine zr_iload dX5_gaining_148 rfl ?_
      exact zr_ret rfl rfl dX5_gaining_150 hw
    · have hw := hw.2 q
      refine zr_aload_n dX5_gaining_20 rfl rfl ?_
      refine zr_getR zz_cX5 zz_M0 0 (by decide) rfl zf_X5_7 dX5_gaining_21 ?_
      refine zr_iload_n dX5_gaining_24 rfl rfl ?_
      refine zr_iconst dX5_gaining_25 zqk_0 ?_
      refine zr_iload dX5_gaining_26 rfl ?_
      refine zr_pSi (ctX5_at p2 (0 : Int32) x3 h4 _ hw) zy_X5_at zm_X5_49 (by decide) rfl rfl (Nat.le_of_ble_eq_true rfl) dX5_gaining_28 (fun r6 hw => ?_)
      obtain ⟨hi, hw⟩ := hw
      refine zr_iald zz_M1 hi rfl dX5_gaining_31 ?_
      refine zr_istore [.ref 0, .int p1, .int p2, .int r1, .int x2, .int x3, .int (h4 1 r6.toNatClampNeg), .null, .null] dX5_gaining_32 (by decide) rfl rfl ?_
      refine zr_iload dX5_gaining_34 rfl ?_
      refine zr_istore [.ref 0, .int p1, .int p2, .int r1, .int x2, .int x3, .int (h4 1 r6.toNatClampNeg), .int (h4 1 r6.toNatClampNeg), .null] dX5_gaining_36 (by decide) rfl rfl ?_
      obtain ⟨t9, hw⟩ := hw
      have step38 : ∀ (K10 : Int32 × Int32 × zz_H → Prop), (∀ (x7 : Int32) (x8 : Int32) (h9 : zz_H), K10 (x7, x8, h9) → zz_Go zz_M 6 cX5_gaining RX5 9 (some .int) post 38 [] [.ref 0, .int p1, .int p2, .int r1, .int x7, .int x3, .int (h4 1 r6.toNatClampNeg), .int x8, .null] h9) → ∀ (x7 : Int32) (x8 : Int32) (h9 : zz_H), wX5_gaining_b38 p1 p2 r1 x3 h4 K5 r6 K10 x7 x8 h9 → zz_Go zz_M 6 cX5_gaining RX5 9 (some .int) post 38 [] [.ref 0, .int p1, .int p2, .int r1, .int x7, .int x3, .int (h4 1 r6.toNatClampNeg), .int x8, .null] h9 := by
        intro K10 ih38 x7 x8 h9 hw
        unfold wX5_gaining_b38 at hw
        refine zr_iload dX5_gaining_38 rfl ?_
        have j128 : wX5_gaining_j128 p2 x3 h4 K5 r6 x7 h9 → zz_Go zz_M 6 cX5_gaining RX5 9 (some .int) post 128 [] [.ref 0, .int p1, .int p2, .int r1, .int x7, .int x3, .int (h4 1 r6.toNatClampNeg), .null, .null] h9 := by
          intro hw
          unfold wX5_gaining_j128 at hw
          refine zr_aload_n dX5_gaining_128 rfl rfl ?_
          refine zr_getR zz_cX5 zz_M0 0 (by decide) rfl zf_X5_7 dX5_gaining_129 ?_
          refine zr_iload_n dX5_gaining_132 rfl rfl ?_
          refine zr_iconst dX5_gaining_133 zqk_0 ?_
          refine zr_iload dX5_gaining_134 rfl ?_
          refine zr_pSi (ctX5_at p2 (0 : Int32) x3 h9 _ hw) zy_X5_at zm_X5_49 (by decide) rfl rfl (Nat.le_of_ble_eq_true rfl) dX5_gaining_136 (fun r11 hw => ?_)
          refine zr_iload dX5_gaining_139 rfl ?_
          obtain ⟨hi, hw⟩ := hw
          refine zr_iast zz_M1 hi rfl dX5_gaining_141 hw (fun h12 hw => ?_)
          refine zr_iinc (x3 + 1) [.ref 0, .int p1, .int p2, .int r1, .int x7, .int (x3 + 1), .int (h4 1 r6.toNatClampNeg), .null, .null] dX5_gaining_142 rfl (zok_1 _) (by decide) rfl rfl ?_
          refine zr_goto 13 dX5_gaining_145 (by decide) ?_
          refine zr_sub [.ref 0, .int p1, .int p2, .int r1, .int x7, .int (x3 + 1), .null, .null, .null] ⟨Or.inr rfl, ⟨Or.inr rfl, ⟨Or.inr rfl, ⟨Or.inr rfl, ⟨Or.inr rfl, ⟨Or.inr rfl, ⟨Or.inl rfl, ⟨Or.inl rfl, ⟨Or.inl rfl, trivial⟩⟩⟩⟩⟩⟩⟩⟩⟩ ?_
          exact ih13 _ _ _ hw
        refine zr_if_le 128 dX5_gaining_40 (by decide) (fun q => ?_) (fun q => ?_)
        · have hw := hw.1 q
          refine zr_sub [.ref 0, .int p1, .int p2, .int r1, .int x7, .int x3, .int (h4 1 r6.toNatClampNeg), .null, .null] ⟨Or.inr rfl, ⟨Or.inr rfl, ⟨Or.inr rfl, ⟨Or.inr rfl, ⟨Or.inr rfl, ⟨Or.inr rfl, ⟨Or.inr rfl, ⟨Or.inl rfl, ⟨Or.inl rfl, trivial⟩⟩⟩⟩⟩⟩⟩⟩⟩ ?_
          exact j128 hw
        · have hw := hw.2 q
          refine zr_aload_n dX5_gaining_43 rfl rfl ?_
          refine zr_getR zz_cX5 zz_M0 0 (by decide) rfl zf_X5_7 dX5_gaining_44 ?_
          refine zr_iload_n dX5_gaining_47 rfl rfl ?_
          refine zr_iconst dX5_gaining_48 zqk_0 ?_
          refine zr_iload dX5_gaining_49 rfl ?_
          refine zr_pSi (ctX5_at p2 (0 : Int32) x3 h9 _ hw) zy_X5_at zm_X5_49 (by decide) rfl rfl (Nat.le_of_ble_eq_true rfl) dX5_gaining_51 (fun r13 hw => ?_)
          refine zr_iload dX5_gaining_54 rfl ?_
          refine zr_iload dX5_gaining_56 rfl ?_
          refine zr_isub dX5_gaining_58 ?_
          obtain ⟨hi, hw⟩ := hw
          refine zr_iast zz_M1 hi rfl dX5_gaining_59 hw (fun h14 hw => ?_)
          refine zr_aload_n dX5_gaining_60 rfl rfl ?_
          refine zr_iload_n dX5_gaining_61 rfl rfl ?_
          refine zr_iload_n dX5_gaining_62 rfl rfl ?_
          refine zr_pVi zz_cX5 zz_M0 (ctX5_markOf p1 p2 h14 _ hw) zy_X5_markOf zm_X5_132 (by decide) rfl rfl (Nat.le_of_ble_eq_true rfl) dX5_gaining_63 (fun r15 hw => ?_)
          refine zr_iload_n dX5_gaining_66 rfl rfl ?_
          have j75 : ∀ (y16 : Int32), wX5_gaining_j75 x3 x7 x8 K10 h14 y16 → zz_Go zz_M 6 cX5_gaining RX5 9 (some .int) post 75 [.int y16] [.ref 0, .int p1, .int p2, .int r1, .int x7, .int x3, .int (h4 1 r6.toNatClampNeg), .int x8, .null] h14 := by
            intro y16 hw
            unfold wX5_gaining_j75 at hw
            refine zr_istore [.ref 0, .int p1, .int p2, .int r1, .int x7, .int x3, .int (h4 1 r6.toNatClampNeg), .int x8, .int y16] dX5_gaining_75 (by decide) rfl rfl ?_
            refine zr_iload dX5_gaining_77 rfl ?_
            refine zr_if_eq 118 dX5_gaining_79 (by decide) (fun q => ?_) (fun q => ?_)
            · have hw := hw.1 q
              refine zr_iload dX5_gaining_118 rfl ?_
              refine zr_istore [.ref 0, .int p1, .int p2, .int r1, .int x7, .int x3, .int (h4 1 r6.toNatClampNeg), .int x8, .int y16] dX5_gaining_120 (by decide) rfl rfl ?_
              refine zr_iinc (x8 + (-1)) [.ref 0, .int p1, .int p2, .int r1, .int x7, .int x3, .int (h4 1 r6.toNatClampNeg), .int (x8 + (-1)), .int y16] dX5_gaining_122 rfl (zok_m1 _) (by decide) rfl rfl ?_
              refine zr_goto 38 dX5_gaining_125 (by decide) ?_
              refine zr_sub [.ref 0, .int p1, .int p2, .int r1, .int x7, .int x3, .int (h4 1 r6.toNatClampNeg), .int (x8 + (-1)), .null] ⟨Or.inr rfl, ⟨Or.inr rfl, ⟨Or.inr rfl, ⟨Or.inr rfl, ⟨Or.inr rfl, ⟨Or.inr rfl, ⟨Or.inr rfl, ⟨Or.inr rfl, ⟨Or.inl rfl, trivial⟩⟩⟩⟩⟩⟩⟩⟩⟩ ?_
              exact ih38 _ _ _ hw
            · have hw := hw.2 q
              refine zr_iload dX5_gaining_82 rfl ?_
              have j107 : wX5_gaining_j107 x3 x8 K10 h14 → zz_Go zz_M 6 cX5_gaining RX5 9 (some .int) post 107 [] [.ref 0, .int p1, .int p2, .int r1, .null, .int x3, .int (h4 1 r6.toNatClampNeg), .int x8, .null] h14 := by
                intro hw
                unfold wX5_gaining_j107 at hw
                refine zr_bipush dX5_gaining_107 zbk_100 ?_
                refine zr_iload dX5_gaining_109 rfl ?_
                refine zr_imul dX5_gaining_111 ?_
                refine zr_iload dX5_gaining_112 rfl ?_
                refine zr_iadd dX5_gaining_114 ?_
                refine zr_goto 120 dX5_gaining_115 (by decide) ?_
                refine zr_istore [.ref 0, .int p1, .int p2, .int r1, .int (((100 : Int32) * x3) + x8), .int x3, .int (h4 1 r6.toNatClampNeg), .int x8, .null] dX5_gaining_120 (by decide) rfl rfl ?_
                refine zr_iinc (x8 + (-1)) [.ref 0, .int p1, .int p2, .int r1, .int (((100 : Int32) * x3) + x8), .int x3, .int (h4 1 r6.toNatClampNeg), .int (x8 + (-1)), .null] dX5_gaining_122 rfl (zok_m1 _) (by decide) rfl rfl ?_
                refine zr_goto 38 dX5_gaining_125 (by decide) ?_
                exact ih38 _ _ _ hw
              refine zr_if_lt 107 dX5_gaining_84 (by decide) (fun q => ?_) (fun q => ?_)
              · have hw := hw.1 q
                refine zr_sub [.ref 0, .int p1, .int p2, .int r1, .null, .int x3, .int (h4 1 r6.toNatClampNeg), .int x8, .null] ⟨Or.inr rfl, ⟨Or.inr rfl, ⟨Or.inr rfl, ⟨Or.inr rfl, ⟨Or.inl rfl, ⟨Or.inr rfl, ⟨Or.inr rfl, ⟨Or.inr rfl, ⟨Or.inl rfl, trivial⟩⟩⟩⟩⟩⟩⟩⟩⟩ ?_
                exact j107 hw
              · have hw := hw.2 q
                refine zr_iload dX5_gaining_87 rfl ?_
                refine zr_iload dX5_gaining_89 rfl ?_
                refine zr_bipush dX5_gaining_91 zbk_100 ?_
                refine zr_irem dX5_gaining_93 (by decide) ?_
                refine zr_icmp_lt 107 dX5_gaining_94 (by decide) (fun q => ?_) (fun q => ?_)
                · have hw := hw.1 q
                  refine zr_sub [.ref 0, .int p1, .int p2, .int r1, .null, .int x3, .int (h4 1 r6.toNatClampNeg), .int x8, .null] ⟨Or.inr rfl, ⟨Or.inr rfl, ⟨Or.inr rfl, ⟨Or.inr rfl, ⟨Or.inl rfl, ⟨Or.inr rfl, ⟨Or.inr rfl, ⟨Or.inr rfl, ⟨Or.inl rfl, trivial⟩⟩⟩⟩⟩⟩⟩⟩⟩ ?_
                  exact j107 hw
                · have hw := hw.2 q
                  refine zr_iload dX5_gaining_97 rfl ?_
                  refine zr_bipush dX5_gaining_99 zbk_100 ?_
                  refine zr_idiv dX5_gaining_101 (by decide) ?_
                  refine zr_iload dX5_gaining_102 rfl ?_
                  refine zr_icmp_ne 118 dX5_gaining_104 (by decide) (fun q => ?_) (fun q => ?_)
                  · have hw := hw.1 q
                    refine zr_iload dX5_gaining_118 rfl ?_
                    refine zr_istore [.ref 0, .int p1, .int p2, .int r1, .int x7, .int x3, .int (h4 1 r6.toNatClampNeg), .int x8, .int y16] dX5_gaining_120 (by decide) rfl rfl ?_
                    refine zr_iinc (x8 + (-1)) [.ref 0, .int p1, .int p2, .int r1, .int x7, .int x3, .int (h4 1 r6.toNatClampNeg), .int (x8 + (-1)), .int y16] dX5_gaining_122 rfl (zok_m1 _) (by decide) rfl rfl ?_
                    refine zr_goto 38 dX5_gaining_125 (by decide) ?_
                    refine zr_sub [.ref 0, .int p1, .int p2, .int r1, .int x7, .int x3, .int (h4 1 r6.toNatClampNeg), .int (x8 + (-1)), .null] ⟨Or.inr rfl, ⟨Or.inr rfl, ⟨Or.inr rfl, ⟨Or.inr rfl, ⟨Or.inr rfl, ⟨Or.inr rfl, ⟨Or.inr rfl, ⟨Or.inr rfl, ⟨Or.inl rfl, trivial⟩⟩⟩⟩⟩⟩⟩⟩⟩ ?_
                    exact ih38 _ _ _ hw
                  · have hw := hw.2 q
                    refine zr_sub [.ref 0, .int p1, .int p2, .int r1, .null, .int x3, .int (h4 1 r6.toNatClampNeg), .int x8, .null] ⟨Or.inr rfl, ⟨Or.inr rfl, ⟨Or.inr rfl, ⟨Or.inr rfl, ⟨Or.inl rfl, ⟨Or.inr rfl, ⟨Or.inr rfl, ⟨Or.inr rfl, ⟨Or.inl rfl, trivial⟩⟩⟩⟩⟩⟩⟩⟩⟩ ?_
                    exact j107 hw
          refine zr_icmp_le 74 dX5_gaining_67 (by decide) (fun q => ?_) (fun q => ?_)
          · have hw := hw.1 q
            refine zr_iconst dX5_gaining_74 zqk_0 ?_
            exact j75 _ hw
          · have hw := hw.2 q
            refine zr_iconst dX5_gaining_70 zqk_1 ?_
            refine zr_goto 75 dX5_gaining_71 (by decide) ?_
            exact j75 _ hw
      have key38 : ∀ (t9 : Nat) (x7 : Int32) (x8 : Int32) (h9 : zz_H), zz_lp (fun K (s : Int32 × Int32 × zz_H) => wX5_gaining_b38 p1 p2 r1 x3 h4 K5 r6 K s.1 s.2.1 s.2.2) t9 (x7, x8, h9) → zz_Go zz_M 6 cX5_gaining RX5 9 (some .int) post 38 [] [.ref 0, .int p1, .int p2, .int r1, .int x7, .int x3, .int (h4 1 r6.toNatClampNeg), .int x8, .null] h9 := by
        intro t9
        induction t9 with
        | zero => intro x7 x8 h9 hw; exact hw.elim
        | succ t9 ih => intro x7 x8 h9 hw; exact step38 _ ih _ _ _ hw
      exact key38 t9 _ _ _ hw
  have key13 : ∀ (t9 : Nat) (x2 : Int32) (x3 : Int32) (h4 : zz_H), zz_lp (fun K (s : Int32 × Int32 × zz_H) => wX5_gaining_b13 p1 p2 post r1 K s.1 s.2.1 s.2.2) t9 (x2, x3, h4) → zz_Go zz_M 6 cX5_gaining RX5 9 (some .int) post 13 [] [.ref 0, .int p1, .int p2, .int r1, .int x2, .int x3, .null, .null, .null] h4 := by
    intro t9
    induction t9 with
    | zero => intro x2 x3 h4 hw; exact hw.elim
    | succ t9 ih => intro x2 x3 h4 hw; exact step13 _ ih _ _ _ hw
  exact key13 t9 _ _ _ hw
def wX5_gains_b19 (p1 : Int32) (post : Int32 → zz_H → Prop) (K5 : Int32 × Int32 × zz_H → Prop) (x2 : Int32) (x3 : Int32) (h4 : zz_H) : Prop :=
  (((h4 1 17) ≤ x3) → (post x2 h4)) ∧ ((¬ (h4 1 17) ≤ x3) → (wX5_gaining p1 x3 h4 (fun r7 h6 => ((0 ≤ r7) → (K5 ((x2 ||| ((1 : Int32) <<< (x3 &&& 31))), (x3 + 1), h6))) ∧ ((¬ 0 ≤ r7) → (K5 ((x2 ||| (0 : Int32)), (x3 + 1), h6))))))
def wX5_gains (p1 : Int32) (h0 : zz_H) (post : Int32 → zz_H → Prop) : Prop :=
  wX5_isCurve p1 h0 (fun r1 => ((¬ r1 = 0) → (∃ t9, zz_lp (fun K (s : Int32 × Int32 × zz_H) => wX5_gains_b19 p1 post K s.1 s.2.1 s.2.2) t9 ((0 : Int32), (0 : Int32), h0))) ∧ ((r1 = 0) → (wX5_finds ((-1000001) : Int32) h0 (fun r9 h8 => post r9 h8))))
set_option maxRecDepth 20000 in
set_option maxHeartbeats 4000000 in
theorem ctX5_gains (p1 : Int32) (h0 : zz_H) (post : Int32 → zz_H → Prop) (hw : wX5_gains p1 h0 post) : zz_Ct zz_M 7 yX5_gains cX5_gains 4 (some .int) [.ref 0, .int p1] h0 post := by
  refine zz_ct (L := [.ref 0, .int p1, .null, .null]) (by decide +kernel) (Nat.le_of_ble_eq_true rfl) (fun ad q hq => hq) ?_
  show zz_Go zz_M 7 cX5_gains RX5 4 (some .int) post 0 [] [.ref 0, .int p1, .null, .null] h0
  unfold wX5_gains at hw
  refine zr_aload_n dX5_gains_0 rfl rfl ?_
  refine zr_iload_n dX5_gains_1 rfl rfl ?_
  refine zr_pVi zz_cX5 zz_M0 (ctX5_isCurve p1 h0 _ hw) zy_X5_isCurve zm_X5_114 (by decide) rfl rfl (Nat.le_of_ble_eq_true rfl) dX5_gains_2 (fun r1 hw => ?_)
  refine zr_if_ne 15 dX5_gains_5 (by decide) (fun q => ?_) (fun q => ?_)
  · have hw := hw.1 q
    refine zr_iconst dX5_gains_15 zqk_0 ?_
    refine zr_istore_n [.ref 0, .int p1, .int (0 : Int32), .null] dX5_gains_16 rfl (by decide) rfl rfl ?_
    refine zr_iconst dX5_gains_17 zqk_0 ?_
    refine zr_istore_n [.ref 0, .int p1, .int (0 : Int32), .int (0 : Int32)] dX5_gains_18 rfl (by decide) rfl rfl ?_
    obtain ⟨t9, hw⟩ := hw
    have step19 : ∀ (K5 : Int32 × Int32 × zz_H → Prop), (∀ (x2 : Int32) (x3 : Int32) (h4 : zz_H), K5 (x2, x3, h4) → zz_Go zz_M 7 cX5_gains RX5 4 (some .int) post 19 [] [.ref 0, .int p1, .int x2, .int x3] h4) → ∀ (x2 : Int32) (x3 : Int32) (h4 : zz_H), wX5_gains_b19 p1 post K5 x2 x3 h4 → zz_Go zz_M 7 cX5_gains RX5 4 (some .int) post 19 [] [.ref 0, .int p1, .int x2, .int x3] h4 := by
      intro K5 ih19 x2 x3 h4 hw
      unfold wX5_gains_b19 at hw
      refine zr_iload_n dX5_gains_19 rfl rfl ?_
      refine zr_aload_n dX5_gains_20 rfl rfl ?_
      refine zr_getR zz_cX5 zz_M0 0 (by decide) rfl zf_X5_7 dX5_gains_21 ?_
      refine zr_bipush dX5_gains_24 zbk_17 ?_
      refine zr_iald zz_M1 (zz_vin (by decide)) (j := 17) (by decide) dX5_gains_26 ?_
      refine zr_icmp_ge 55 dX5_gains_27 (by decide) (fun q => ?_) (fun q => ?_)
      · have hw := hw.1 q
        refine zr_iload_n dX5_gains_55 rfl rfl ?_
        exact zr_ret rfl rfl dX5_gains_56 hw
      · have hw := hw.2 q
        refine zr_iload_n dX5_gains_30 rfl rfl ?_
        refine zr_aload_n dX5_gains_31 rfl rfl ?_
        refine zr_iload_n dX5_gains_32 rfl rfl ?_
        refine zr_iload_n dX5_gains_33 rfl rfl ?_
        refine zr_callVi zz_cX5 zz_M0 (ctX5_gaining p1 x3 h4 _ hw) zy_X5_gaining zm_X5_142 (by decide) rfl rfl (Nat.le_of_ble_eq_true rfl) dX5_gains_34 (fun r7 h6 hw => ?_)
        refine zr_if_ge 44 dX5_gains_37 (by decide) (fun q => ?_) (fun q => ?_)
        · have hw := hw.1 q
          refine zr_iconst dX5_gains_44 zqk_1 ?_
          refine zr_iload_n dX5_gains_45 rfl rfl ?_
          refine zr_ishl dX5_gains_46 ?_
          refine zr_ior dX5_gains_47 ?_
          refine zr_istore_n [.ref 0, .int p1, .int (x2 ||| ((1 : Int32) <<< (x3 &&& 31))), .int x3] dX5_gains_48 rfl (by decide) rfl rfl ?_
          refine zr_iinc (x3 + 1) [.ref 0, .int p1, .int (x2 ||| ((1 : Int32) <<< (x3 &&& 31))), .int (x3 + 1)] dX5_gains_49 rfl (zok_1 _) (by decide) rfl rfl ?_
          refine zr_goto 19 dX5_gains_52 (by decide) ?_
          exact ih19 _ _ _ hw
        · have hw := hw.2 q
          refine zr_iconst dX5_gains_40 zqk_0 ?_
          refine zr_goto 47 dX5_gains_41 (by decide) ?_
          refine zr_ior dX5_gains_47 ?_
          refine zr_istore_n [.ref 0, .int p1, .int (x2 ||| (0 : Int32)), .int x3] dX5_gains_48 rfl (by decide) rfl rfl ?_
          refine zr_iinc (x3 + 1) [.ref 0, .int p1, .int (x2 ||| (0 : Int32)), .int (x3 + 1)] dX5_gains_49 rfl (zok_1 _) (by decide) rfl rfl ?_
          refine zr_goto 19 dX5_gains_52 (by decide) ?_
          exact ih19 _ _ _ hw
    have key19 : ∀ (t9 : Nat) (x2 : Int32) (x3 : Int32) (h4 : zz_H), zz_lp (fun K (s : Int32 × Int32 × zz_H) => wX5_gains_b19 p1 post K s.1 s.2.1 s.2.2) t9 (x2, x3, h4) → zz_Go zz_M 7 cX5_gains RX5 4 (some .int) post 19 [] [.ref 0, .int p1, .int x2, .int x3] h4 := by
      intro t9
      induction t9 with
      | zero => intro x2 x3 h4 hw; exact hw.elim
      | succ t9 ih => intro x2 x3 h4 hw; exact step19 _ ih _ _ _ hw
    exact key19 t9 _ _ _ hw
  · have hw := hw.2 q
    refine zr_aload_n dX5_gains_8 rfl rfl ?_
    refine zr_ldc zk_X5_40 dX5_gains_9 ?_
    refine zr_callVi zz_cX5 zz_M0 (ctX5_finds ((-1000001) : Int32) h0 _ hw) zy_X5_finds zm_X5_59 (by decide) rfl rfl (Nat.le_of_ble_eq_true rfl) dX5_gains_11 (fun r9 h8 hw => ?_)
    exact zr_ret rfl rfl dX5_gains_14 hw
def wX5_gainsBy (p1 : Int32) (p2 : Int32) (h0 : zz_H) (post : Int32 → zz_H → Prop) : Prop :=
  wX5_isCurve p1 h0 (fun r1 => ((r1 = 0) → (wX5_finds ((-1000001) : Int32) h0 (fun r3 h2 => post r3 h2))) ∧ ((¬ r1 = 0) → (wX5_isPupil p2 h0 (fun r4 => ((¬ r4 = 0) → (wX5_gaining p1 p2 h0 (fun r6 h5 => ((0 ≤ r6) → (post r6 h5)) ∧ ((¬ 0 ≤ r6) → (wX5_finds ((-1000004) : Int32) h5 (fun r8 h7 => post r8 h7)))))) ∧ ((r4 = 0) → (wX5_finds ((-1000001) : Int32) h0 (fun r10 h9 => post r10 h9)))))))
set_option maxRecDepth 20000 in
set_option maxHeartbeats 4000000 in
theorem ctX5_gainsBy (p1 : Int32) (p2 : Int32) (h0 : zz_H) (post : Int32 → zz_H → Prop) (hw : wX5_gainsBy p1 p2 h0 post) : zz_Ct zz_M 7 yX5_gainsBy cX5_gainsBy 4 (some .int) [.ref 0, .int p1, .int p2] h0 post := by
  refine zz_ct (L := [.ref 0, .int p1, .int p2, .null]) (by decide +kernel) (Nat.le_of_ble_eq_true rfl) (fun ad q hq => hq) ?_
  show zz_Go zz_M 7 cX5_gainsBy RX5 4 (some .int) post 0 [] [.ref 0, .int p1, .int p2, .null] h0
  unfold wX5_gainsBy at hw
  refine zr_aload_n dX5_gainsBy_0 rfl rfl ?_
  refine zr_iload_n dX5_gainsBy_1 rfl rfl ?_
  refine zr_pVi zz_cX5 zz_M0 (ctX5_isCurve p1 h0 _ hw) zy_X5_isCurve zm_X5_114 (by decide) rfl rfl (Nat.le_of_ble_eq_true rfl) dX5_gainsBy_2 (fun r1 hw => ?_)
  refine zr_if_eq 16 dX5_gainsBy_5 (by decide) (fun q => ?_) (fun q => ?_)
  · have hw := hw.1 q
    refine zr_aload_n dX5_gainsBy_16 rfl rfl ?_
    refine zr_ldc zk_X5_40 dX5_gainsBy_17 ?_
    refine zr_callVi zz_cX5 zz_M0 (ctX5_finds ((-1000001) : Int32) h0 _ hw) zy_X5_finds zm_X5_59 (by decide) rfl rfl (Nat.le_of_ble_eq_true rfl) dX5_gainsBy_19 (fun r3 h2 hw => ?_)
    exact zr_ret rfl rfl dX5_gainsBy_22 hw
  · have hw := hw.2 q
    refine zr_aload_n dX5_gainsBy_8 rfl rfl ?_
    refine zr_iload_n dX5_gainsBy_9 rfl rfl ?_
    refine zr_pVi zz_cX5 zz_M0 (ctX5_isPupil p2 h0 _ hw) zy_X5_isPupil zm_X5_75 (by decide) rfl rfl (Nat.le_of_ble_eq_true rfl) dX5_gainsBy_10 (fun r4 hw => ?_)
    refine zr_if_ne 23 dX5_gainsBy_13 (by decide) (fun q => ?_) (fun q => ?_)
    · have hw := hw.1 q
      refine zr_aload_n dX5_gainsBy_23 rfl rfl ?_
      refine zr_iload_n dX5_gainsBy_24 rfl rfl ?_
      refine zr_iload_n dX5_gainsBy_25 rfl rfl ?_
      refine zr_callVi zz_cX5 zz_M0 (ctX5_gaining p1 p2 h0 _ hw) zy_X5_gaining zm_X5_142 (by decide) rfl rfl (Nat.le_of_ble_eq_true rfl) dX5_gainsBy_26 (fun r6 h5 hw => ?_)
      refine zr_istore_n [.ref 0, .int p1, .int p2, .int r6] dX5_gainsBy_29 rfl (by decide) rfl rfl ?_
      refine zr_iload_n dX5_gainsBy_30 rfl rfl ?_
      refine zr_if_ge 43 dX5_gainsBy_31 (by decide) (fun q => ?_) (fun q => ?_)
      · have hw := hw.1 q
        refine zr_iload_n dX5_gainsBy_43 rfl rfl ?_
        exact zr_ret rfl rfl dX5_gainsBy_44 hw
      · have hw := hw.2 q
        refine zr_aload_n dX5_gainsBy_34 rfl rfl ?_
        refine zr_ldc zk_X5_89 dX5_gainsBy_35 ?_
        refine zr_callVi zz_cX5 zz_M0 (ctX5_finds ((-1000004) : Int32) h5 _ hw) zy_X5_finds zm_X5_59 (by decide) rfl rfl (Nat.le_of_ble_eq_true rfl) dX5_gainsBy_37 (fun r8 h7 hw => ?_)
        refine zr_goto 44 dX5_gainsBy_40 (by decide) ?_
        exact zr_ret rfl rfl dX5_gainsBy_44 hw
    · have hw := hw.2 q
      refine zr_aload_n dX5_gainsBy_16 rfl rfl ?_
      refine zr_ldc zk_X5_40 dX5_gainsBy_17 ?_
      refine zr_callVi zz_cX5 zz_M0 (ctX5_finds ((-1000001) : Int32) h0 _ hw) zy_X5_finds zm_X5_59 (by decide) rfl rfl (Nat.le_of_ble_eq_true rfl) dX5_gainsBy_19 (fun r10 h9 hw => ?_)
      exact zr_ret rfl rfl dX5_gainsBy_22 hw
def wX5_moves_j188 (post : Int32 → zz_H → Prop) (h9 : zz_H) (x11 : Int32) : Prop :=
  zz_sto h9 1 (upd (h9 1) 17 ((h9 1 17) - (1 : Int32))) (fun h14 => post x11 h14)
def wX5_moves_b146 (p1 : Int32) (post : Int32 → zz_H → Prop) (h5 : zz_H) (h9 : zz_H) (K13 : Int32 × Int32 → Prop) (x11 : Int32) (x12 : Int32) : Prop :=
  (((h5 1 17) ≤ x12) → (wX5_moves_j188 post h9 x11)) ∧ ((¬ (h5 1 17) ≤ x12) → (wX5_markOf p1 x12 h9 (fun r15 => vp_in x12 12 ∧ (((¬ r15 = (h9 5 x12.toNatClampNeg)) → (K13 ((x11 ||| ((1 : Int32) <<< (x12 &&& 31))), (x12 + 1)))) ∧ ((r15 = (h9 5 x12.toNatClampNeg)) → (K13 ((x11 ||| (0 : Int32)), (x12 + 1))))))))
def wX5_moves_j140 (p1 : Int32) (post : Int32 → zz_H → Prop) (h5 : zz_H) (h9 : zz_H) : Prop :=
  ∃ t9, zz_lp (fun K (s : Int32 × Int32) => wX5_moves_b146 p1 post h5 h9 K s.1 s.2) t9 ((0 : Int32), (0 : Int32))
def wX5_moves_j102 (r7 : Int32) (x8 : Int32) (h9 : zz_H) (K10 : Int32 × zz_H → Prop) (y16 : Int32) : Prop :=
  wX5_at r7 (0 : Int32) x8 h9 (fun r17 => vp_in r17 245 ∧ zz_sto h9 1 (upd (h9 1) r17.toNatClampNeg y16) (fun h18 => wX5_at r7 (1 : Int32) x8 h18 (fun r19 => vp_in r19 245 ∧ zz_sto h18 1 (upd (h18 1) r19.toNatClampNeg y16) (fun h20 => K10 ((x8 + 1), h20)))))
def wX5_moves_b69 (p1 : Int32) (p2 : Int32) (post : Int32 → zz_H → Prop) (h5 : zz_H) (r7 : Int32) (K10 : Int32 × zz_H → Prop) (x8 : Int32) (h9 : zz_H) : Prop :=
  (((8 : Int32) ≤ x8) → (wX5_moves_j140 p1 post h5 h9)) ∧ ((¬ (8 : Int32) ≤ x8) → (vp_in ((0 : Int32) + x8) 245 ∧ (((p2 ≤ (h9 1 ((0 : Int32) + x8).toNatClampNeg)) → (wX5_moves_j102 r7 x8 h9 K10 p2)) ∧ ((¬ p2 ≤ (h9 1 ((0 : Int32) + x8).toNatClampNeg)) → (vp_in ((0 : Int32) + x8) 245 ∧ (wX5_moves_j102 r7 x8 h9 K10 (h9 1 ((0 : Int32) + x8).toNatClampNeg)))))))
def wX5_moves (p1 : Int32) (p2 : Int32) (h0 : zz_H) (post : Int32 → zz_H → Prop) : Prop :=
  wX5_isCurve p1 h0 (fun r1 => ((r1 = 0) → (wX5_finds ((-1000001) : Int32) h0 (fun r3 h2 => post r3 h2))) ∧ ((¬ r1 = 0) → (wX5_in (p2.toInt64) (0 : Int64) (40 : Int64) h0 (fun r4 => ((¬ r4 = 0) → (((¬ (h0 1 17) = (12 : Int32)) → (wX5_findMarks p1 h0 (fun _ h5 => wX5_newPupil (0 : Int32) h5 (fun r7 h6 => ∃ t9, zz_lp (fun K (s : Int32 × zz_H) => wX5_moves_b69 p1 p2 post h5 r7 K s.1 s.2) t9 ((0 : Int32), h6))))) ∧ (((h0 1 17) = (12 : Int32)) → (wX5_finds ((-1000005) : Int32) h0 (fun r22 h21 => post r22 h21))))) ∧ ((r4 = 0) → (wX5_finds ((-1000001) : Int32) h0 (fun r24 h23 => post r24 h23)))))))
set_option maxRecDepth 20000 in
set_option maxHeartbeats 4000000 in
theorem ctX5_moves (p1 : Int32) (p2 : Int32) (h0 : zz_H) (post : Int32 → zz_H → Prop) (hw : wX5_moves p1 p2 h0 post) : zz_Ct zz_M 7 yX5_moves cX5_moves 7 (some .int) [.ref 0, .int p1, .int p2] h0 post := by
  refine zz_ct (L := [.ref 0, .int p1, .int p2, .null, .null, .null, .null]) (by decide +kernel) (Nat.le_of_ble_eq_true rfl) (fun ad q hq => hq) ?_
  show zz_Go zz_M 7 cX5_moves RX5 7 (some .int) post 0 [] [.ref 0, .int p1, .int p2, .null, .null, .null, .null] h0
  unfold wX5_moves at hw
  refine zr_aload_n dX5_moves_0 rfl rfl ?_
  refine zr_iload_n dX5_moves_1 rfl rfl ?_
  refine zr_pVi zz_cX5 zz_M0 (ctX5_isCurve p1 h0 _ hw) zy_X5_isCurve zm_X5_114 (by decide) rfl rfl (Nat.le_of_ble_eq_true rfl) dX5_moves_2 (fun r1 hw => ?_)
  refine zr_if_eq 20 dX5_moves_5 (by decide) (fun q => ?_) (fun q => ?_)
  · have hw := hw.1 q
    refine zr_aload_n dX5_moves_20 rfl rfl ?_
    refine zr_ldc zk_X5_40 dX5_moves_21 ?_
    refine zr_callVi zz_cX5 zz_M0 (ctX5_finds ((-1000001) : Int32) h0 _ hw) zy_X5_finds zm_X5_59 (by decide) rfl rfl (Nat.le_of_ble_eq_true rfl) dX5_moves_23 (fun r3 h2 hw => ?_)
    exact zr_ret rfl rfl dX5_moves_26 hw
  · have hw := hw.2 q
    refine zr_iload_n dX5_moves_8 rfl rfl ?_
    refine zr_i2l dX5_moves_9 ?_
    refine zr_lconst (v := 0) dX5_moves_10 (by decide) ?_
    refine zr_ldc2 zl_X5_57 dX5_moves_11 ?_
    refine zr_pSi (ctX5_in (p2.toInt64) (0 : Int64) (40 : Int64) h0 _ hw) zy_X5_in zm_X5_43 (by decide) rfl rfl (Nat.le_of_ble_eq_true rfl) dX5_moves_14 (fun r4 hw => ?_)
    refine zr_if_ne 27 dX5_moves_17 (by decide) (fun q => ?_) (fun q => ?_)
    · have hw := hw.1 q
      refine zr_aload_n dX5_moves_27 rfl rfl ?_
      refine zr_getR zz_cX5 zz_M0 0 (by decide) rfl zf_X5_7 dX5_moves_28 ?_
      refine zr_bipush dX5_moves_31 zbk_17 ?_
      refine zr_iald zz_M1 (zz_vin (by decide)) (j := 17) (by decide) dX5_moves_33 ?_
      refine zr_bipush dX5_moves_34 zbk_12 ?_
      refine zr_icmp_ne 46 dX5_moves_36 (by decide) (fun q => ?_) (fun q => ?_)
      · have hw := hw.1 q
        refine zr_aload_n dX5_moves_46 rfl rfl ?_
        refine zr_iload_n dX5_moves_47 rfl rfl ?_
        refine zr_callVv zz_cX5 zz_M0 (ctX5_findMarks p1 h0 _ hw) zy_X5_findMarks zm_X5_135 (by decide) rfl rfl (Nat.le_of_ble_eq_true rfl) dX5_moves_48 (fun h5 hw => ?_)
        refine zr_aload_n dX5_moves_51 rfl rfl ?_
        refine zr_getR zz_cX5 zz_M0 0 (by decide) rfl zf_X5_7 dX5_moves_52 ?_
        refine zr_bipush dX5_moves_55 zbk_17 ?_
        refine zr_iald zz_M1 (zz_vin (by decide)) (j := 17) (by decide) dX5_moves_57 ?_
        refine zr_istore_n [.ref 0, .int p1, .int p2, .int (h5 1 17), .null, .null, .null] dX5_moves_58 rfl (by decide) rfl rfl ?_
        refine zr_aload_n dX5_moves_59 rfl rfl ?_
        refine zr_iconst dX5_moves_60 zqk_0 ?_
        refine zr_callVi zz_cX5 zz_M0 (ctX5_newPupil (0 : Int32) h5 _ hw) zy_X5_newPupil zm_X5_72 (by decide) rfl rfl (Nat.le_of_ble_eq_true rfl) dX5_moves_61 (fun r7 h6 hw => ?_)
        refine zr_istore [.ref 0, .int p1, .int p2, .int (h5 1 17), .int r7, .null, .null] dX5_moves_64 (by decide) rfl rfl ?_
        refine zr_iconst dX5_moves_66 zqk_0 ?_
        refine zr_istore [.ref 0, .int p1, .int p2, .int (h5 1 17), .int r7, .int (0 : Int32), .null] dX5_moves_67 (by decide) rfl rfl ?_
        obtain ⟨t9, hw⟩ := hw
        have step69 : ∀ (K10 : Int32 × zz_H → Prop), (∀ (x8 : Int32) (h9 : zz_H), K10 (x8, h9) → zz_Go zz_M 7 cX5_moves RX5 7 (some .int) post 69 [] [.ref 0, .int p1, .int p2, .int (h5 1 17), .int r7, .int x8, .null] h9) → ∀ (x8 : Int32) (h9 : zz_H), wX5_moves_b69 p1 p2 post h5 r7 K10 x8 h9 → zz_Go zz_M 7 cX5_moves RX5 7 (some .int) post 69 [] [.ref 0, .int p1, .int p2, .int (h5 1 17), .int r7, .int x8, .null] h9 := by
          intro K10 ih69 x8 h9 hw
          unfold wX5_moves_b69 at hw
          refine zr_iload dX5_moves_69 rfl ?_
          refine zr_bipush dX5_moves_71 zbk_8 ?_
          have j140 : wX5_moves_j140 p1 post h5 h9 → zz_Go zz_M 7 cX5_moves RX5 7 (some .int) post 140 [] [.ref 0, .int p1, .null, .int (h5 1 17), .null, .null, .null] h9 := by
            intro hw
            unfold wX5_moves_j140 at hw
            refine zr_iconst dX5_moves_140 zqk_0 ?_
            refine zr_istore [.ref 0, .int p1, .null, .int (h5 1 17), .null, .int (0 : Int32), .null] dX5_moves_141 (by decide) rfl rfl ?_
            refine zr_iconst dX5_moves_143 zqk_0 ?_
            refine zr_istore [.ref 0, .int p1, .null, .int (h5 1 17), .null, .int (0 : Int32), .int (0 : Int32)] dX5_moves_144 (by decide) rfl rfl ?_
            obtain ⟨t9, hw⟩ := hw
            have step146 : ∀ (K13 : Int32 × Int32 → Prop), (∀ (x11 : Int32) (x12 : Int32), K13 (x11, x12) → zz_Go zz_M 7 cX5_moves RX5 7 (some .int) post 146 [] [.ref 0, .int p1, .null, .int (h5 1 17), .null, .int x11, .int x12] h9) → ∀ (x11 : Int32) (x12 : Int32), wX5_moves_b146 p1 post h5 h9 K13 x11 x12 → zz_Go zz_M 7 cX5_moves RX5 7 (some .int) post 146 [] [.ref 0, .int p1, .null, .int (h5 1 17), .null, .int x11, .int x12] h9 := by
              intro K13 ih146 x11 x12 hw
              unfold wX5_moves_b146 at hw
              refine zr_iload dX5_moves_146 rfl ?_
              refine zr_iload_n dX5_moves_148 rfl rfl ?_
              have j188 : wX5_moves_j188 post h9 x11 → zz_Go zz_M 7 cX5_moves RX5 7 (some .int) post 188 [] [.ref 0, .null, .null, .null, .null, .int x11, .null] h9 := by
                intro hw
                unfold wX5_moves_j188 at hw
                refine zr_aload_n dX5_moves_188 rfl rfl ?_
                refine zr_getR zz_cX5 zz_M0 0 (by decide) rfl zf_X5_7 dX5_moves_189 ?_
                refine zr_bipush dX5_moves_192 zbk_17 ?_
                refine zr_dup2 dX5_moves_194 rfl rfl ?_
                refine zr_iald zz_M1 (zz_vin (by decide)) (j := 17) (by decide) dX5_moves_195 ?_
                refine zr_iconst dX5_moves_196 zqk_1 ?_
                refine zr_isub dX5_moves_197 ?_
                refine zr_iast zz_M1 (zz_vin (by decide)) (j := 17) (by decide) dX5_moves_198 hw (fun h14 hw => ?_)
                refine zr_iload dX5_moves_199 rfl ?_
                exact zr_ret rfl rfl dX5_moves_201 hw
              refine zr_icmp_ge 188 dX5_moves_149 (by decide) (fun q => ?_) (fun q => ?_)
              · have hw := hw.1 q
                refine zr_sub [.ref 0, .null, .null, .null, .null, .int x11, .null] ⟨Or.inr rfl, ⟨Or.inl rfl, ⟨Or.inl rfl, ⟨Or.inl rfl, ⟨Or.inl rfl, ⟨Or.inr rfl, ⟨Or.inl rfl, trivial⟩⟩⟩⟩⟩⟩⟩ ?_
                exact j188 hw
              · have hw := hw.2 q
                refine zr_iload dX5_moves_152 rfl ?_
                refine zr_aload_n dX5_moves_154 rfl rfl ?_
                refine zr_iload_n dX5_moves_155 rfl rfl ?_
                refine zr_iload dX5_moves_156 rfl ?_
                refine zr_pVi zz_cX5 zz_M0 (ctX5_markOf p1 x12 h9 _ hw) zy_X5_markOf zm_X5_132 (by decide) rfl rfl (Nat.le_of_ble_eq_true rfl) dX5_moves_158 (fun r15 hw => ?_)
                refine zr_aload_n dX5_moves_161 rfl rfl ?_
                refine zr_getR zz_cX5 zz_M0 5 (by decide) rfl zf_X5_22 dX5_moves_162 ?_
                refine zr_iload dX5_moves_165 rfl ?_
                obtain ⟨hi, hw⟩ := hw
                refine zr_iald zz_M5 hi rfl dX5_moves_167 ?_
                refine zr_icmp_ne 175 dX5_moves_168 (by decide) (fun q => ?_) (fun q => ?_)
                · have hw := hw.1 q
                  refine zr_iconst dX5_moves_175 zqk_1 ?_
                  refine zr_iload dX5_moves_176 rfl ?_
                  refine zr_ishl dX5_moves_178 ?_
                  refine zr_ior dX5_moves_179 ?_
                  refine zr_istore [.ref 0, .int p1, .null, .int (h5 1 17), .null, .int (x11 ||| ((1 : Int32) <<< (x12 &&& 31))), .int x12] dX5_moves_180 (by decide) rfl rfl ?_
                  refine zr_iinc (x12 + 1) [.ref 0, .int p1, .null, .int (h5 1 17), .null, .int (x11 ||| ((1 : Int32) <<< (x12 &&& 31))), .int (x12 + 1)] dX5_moves_182 rfl (zok_1 _) (by decide) rfl rfl ?_
                  refine zr_goto 146 dX5_moves_185 (by decide) ?_
                  exact ih146 _ _ hw
                · have hw := hw.2 q
                  refine zr_iconst dX5_moves_171 zqk_0 ?_
                  refine zr_goto 179 dX5_moves_172 (by decide) ?_
                  refine zr_ior dX5_moves_179 ?_
                  refine zr_istore [.ref 0, .int p1, .null, .int (h5 1 17), .null, .int (x11 ||| (0 : Int32)), .int x12] dX5_moves_180 (by decide) rfl rfl ?_
                  refine zr_iinc (x12 + 1) [.ref 0, .int p1, .null, .int (h5 1 17), .null, .int (x11 ||| (0 : Int32)), .int (x12 + 1)] dX5_moves_182 rfl (zok_1 _) (by decide) rfl rfl ?_
                  refine zr_goto 146 dX5_moves_185 (by decide) ?_
                  exact ih146 _ _ hw
            have key146 : ∀ (t9 : Nat) (x11 : Int32) (x12 : Int32), zz_lp (fun K (s : Int32 × Int32) => wX5_moves_b146 p1 post h5 h9 K s.1 s.2) t9 (x11, x12) → zz_Go zz_M 7 cX5_moves RX5 7 (some .int) post 146 [] [.ref 0, .int p1, .null, .int (h5 1 17), .null, .int x11, .int x12] h9 := by
              intro t9
              induction t9 with
              | zero => intro x11 x12 hw; exact hw.elim
              | succ t9 ih => intro x11 x12 hw; exact step146 _ ih _ _ hw
            exact key146 t9 _ _ hw
          refine zr_icmp_ge 140 dX5_moves_73 (by decide) (fun q => ?_) (fun q => ?_)
          · have hw := hw.1 q
            refine zr_sub [.ref 0, .int p1, .null, .int (h5 1 17), .null, .null, .null] ⟨Or.inr rfl, ⟨Or.inr rfl, ⟨Or.inl rfl, ⟨Or.inr rfl, ⟨Or.inl rfl, ⟨Or.inl rfl, ⟨Or.inl rfl, trivial⟩⟩⟩⟩⟩⟩⟩ ?_
            exact j140 hw
          · have hw := hw.2 q
            refine zr_iload_n dX5_moves_76 rfl rfl ?_
            refine zr_aload_n dX5_moves_77 rfl rfl ?_
            refine zr_getR zz_cX5 zz_M0 0 (by decide) rfl zf_X5_7 dX5_moves_78 ?_
            refine zr_iconst dX5_moves_81 zqk_0 ?_
            refine zr_iload dX5_moves_82 rfl ?_
            refine zr_iadd dX5_moves_84 ?_
            obtain ⟨hi, hw⟩ := hw
            refine zr_iald zz_M1 hi rfl dX5_moves_85 ?_
            have j102 : ∀ (y16 : Int32), wX5_moves_j102 r7 x8 h9 K10 y16 → zz_Go zz_M 7 cX5_moves RX5 7 (some .int) post 102 [.int y16] [.ref 0, .int p1, .int p2, .int (h5 1 17), .int r7, .int x8, .null] h9 := by
              intro y16 hw
              unfold wX5_moves_j102 at hw
              refine zr_istore [.ref 0, .int p1, .int p2, .int (h5 1 17), .int r7, .int x8, .int y16] dX5_moves_102 (by decide) rfl rfl ?_
              refine zr_aload_n dX5_moves_104 rfl rfl ?_
              refine zr_getR zz_cX5 zz_M0 0 (by decide) rfl zf_X5_7 dX5_moves_105 ?_
              refine zr_iload dX5_moves_108 rfl ?_
              refine zr_iconst dX5_moves_110 zqk_0 ?_
              refine zr_iload dX5_moves_111 rfl ?_
              refine zr_pSi (ctX5_at r7 (0 : Int32) x8 h9 _ hw) zy_X5_at zm_X5_49 (by decide) rfl rfl (Nat.le_of_ble_eq_true rfl) dX5_moves_113 (fun r17 hw => ?_)
              refine zr_iload dX5_moves_116 rfl ?_
              obtain ⟨hi, hw⟩ := hw
              refine zr_iast zz_M1 hi rfl dX5_moves_118 hw (fun h18 hw => ?_)
              refine zr_aload_n dX5_moves_119 rfl rfl ?_
              refine zr_getR zz_cX5 zz_M0 0 (by decide) rfl zf_X5_7 dX5_moves_120 ?_
              refine zr_iload dX5_moves_123 rfl ?_
              refine zr_iconst dX5_moves_125 zqk_1 ?_
              refine zr_iload dX5_moves_126 rfl ?_
              refine zr_pSi (ctX5_at r7 (1 : Int32) x8 h18 _ hw) zy_X5_at zm_X5_49 (by decide) rfl rfl (Nat.le_of_ble_eq_true rfl) dX5_moves_128 (fun r19 hw => ?_)
              refine zr_iload dX5_moves_131 rfl ?_
              obtain ⟨hi, hw⟩ := hw
              refine zr_iast zz_M1 hi rfl dX5_moves_133 hw (fun h20 hw => ?_)
              refine zr_iinc (x8 + 1) [.ref 0, .int p1, .int p2, .int (h5 1 17), .int r7, .int (x8 + 1), .int y16] dX5_moves_134 rfl (zok_1 _) (by decide) rfl rfl ?_
              refine zr_goto 69 dX5_moves_137 (by decide) ?_
              refine zr_sub [.ref 0, .int p1, .int p2, .int (h5 1 17), .int r7, .int (x8 + 1), .null] ⟨Or.inr rfl, ⟨Or.inr rfl, ⟨Or.inr rfl, ⟨Or.inr rfl, ⟨Or.inr rfl, ⟨Or.inr rfl, ⟨Or.inl rfl, trivial⟩⟩⟩⟩⟩⟩⟩ ?_
              exact ih69 _ _ hw
            refine zr_icmp_le 101 dX5_moves_86 (by decide) (fun q => ?_) (fun q => ?_)
            · have hw := hw.1 q
              refine zr_iload_n dX5_moves_101 rfl rfl ?_
              exact j102 _ hw
            · have hw := hw.2 q
              refine zr_aload_n dX5_moves_89 rfl rfl ?_
              refine zr_getR zz_cX5 zz_M0 0 (by decide) rfl zf_X5_7 dX5_moves_90 ?_
              refine zr_iconst dX5_moves_93 zqk_0 ?_
              refine zr_iload dX5_moves_94 rfl ?_
              refine zr_iadd dX5_moves_96 ?_
              obtain ⟨hi, hw⟩ := hw
              refine zr_iald zz_M1 hi rfl dX5_moves_97 ?_
              refine zr_goto 102 dX5_moves_98 (by decide) ?_
              exact j102 _ hw
        have key69 : ∀ (t9 : Nat) (x8 : Int32) (h9 : zz_H), zz_lp (fun K (s : Int32 × zz_H) => wX5_moves_b69 p1 p2 post h5 r7 K s.1 s.2) t9 (x8, h9) → zz_Go zz_M 7 cX5_moves RX5 7 (some .int) post 69 [] [.ref 0, .int p1, .int p2, .int (h5 1 17), .int r7, .int x8, .null] h9 := by
          intro t9
          induction t9 with
          | zero => intro x8 h9 hw; exact hw.elim
          | succ t9 ih => intro x8 h9 hw; exact step69 _ ih _ _ hw
        exact key69 t9 _ _ hw
      · have hw := hw.2 q
        refine zr_aload_n dX5_moves_39 rfl rfl ?_
        refine zr_ldc zk_X5_145 dX5_moves_40 ?_
        refine zr_callVi zz_cX5 zz_M0 (ctX5_finds ((-1000005) : Int32) h0 _ hw) zy_X5_finds zm_X5_59 (by decide) rfl rfl (Nat.le_of_ble_eq_true rfl) dX5_moves_42 (fun r22 h21 hw => ?_)
        exact zr_ret rfl rfl dX5_moves_45 hw
    · have hw := hw.2 q
      refine zr_aload_n dX5_moves_20 rfl rfl ?_
      refine zr_ldc zk_X5_40 dX5_moves_21 ?_
      refine zr_callVi zz_cX5 zz_M0 (ctX5_finds ((-1000001) : Int32) h0 _ hw) zy_X5_finds zm_X5_59 (by decide) rfl rfl (Nat.le_of_ble_eq_true rfl) dX5_moves_23 (fun r24 h23 hw => ?_)
      exact zr_ret rfl rfl dX5_moves_26 hw
def wX5_without_j94 (post : Int32 → zz_H → Prop) (h7 : zz_H) (x8 : Int32) : Prop :=
  wX5_putsBack h7 (fun _ h12 => ((0 ≤ x8) → (post x8 h12)) ∧ ((¬ 0 ≤ x8) → (wX5_finds ((-1000004) : Int32) h12 (fun r14 h13 => post r14 h13))))
def wX5_without_b45 (p1 : Int32) (post : Int32 → zz_H → Prop) (h7 : zz_H) (K11 : Int32 × Int32 × Int32 → Prop) (x8 : Int32) (x9 : Int32) (x10 : Int32) : Prop :=
  (((h7 1 17) ≤ x10) → (wX5_without_j94 post h7 x8)) ∧ ((¬ (h7 1 17) ≤ x10) → (wX5_markOf p1 x10 h7 (fun r15 => vp_in x10 12 ∧ ((((r15 - (h7 5 x10.toNatClampNeg)) ≤ x9) → (K11 (x8, x9, (x10 + 1)))) ∧ ((¬ (r15 - (h7 5 x10.toNatClampNeg)) ≤ x9) → (K11 (x10, (r15 - (h7 5 x10.toNatClampNeg)), (x10 + 1))))))))
def wX5_without (p1 : Int32) (p2 : Int32) (h0 : zz_H) (post : Int32 → zz_H → Prop) : Prop :=
  wX5_isCurve p1 h0 (fun r1 => ((r1 = 0) → (wX5_finds ((-1000001) : Int32) h0 (fun r3 h2 => post r3 h2))) ∧ ((¬ r1 = 0) → (wX5_isQuestion p2 h0 (fun r4 => ((¬ r4 = 0) → (wX5_findMarks p1 h0 (fun _ h5 => wX5_puts h5 (fun _ h6 => wX5_worths p2 (0 : Int32) h6 (fun _ h7 => ∃ t9, zz_lp (fun K (s : Int32 × Int32 × Int32) => wX5_without_b45 p1 post h7 K s.1 s.2.1 s.2.2) t9 (((-1) : Int32), (0 : Int32), (0 : Int32))))))) ∧ ((r4 = 0) → (wX5_finds ((-1000001) : Int32) h0 (fun r17 h16 => post r17 h16)))))))
set_option maxRecDepth 20000 in
set_option maxHeartbeats 4000000 in
theorem ctX5_without (p1 : Int32) (p2 : Int32) (h0 : zz_H) (post : Int32 → zz_H → Prop) (hw : wX5_without p1 p2 h0 post) : zz_Ct zz_M 7 yX5_without cX5_without 7 (some .int) [.ref 0, .int p1, .int p2] h0 post := by
  refine zz_ct (L := [.ref 0, .int p1, .int p2, .null, .null, .null, .null]) (by decide +kernel) (Nat.le_of_ble_eq_true rfl) (fun ad q hq => hq) ?_
  show zz_Go zz_M 7 cX5_without RX5 7 (some .int) post 0 [] [.ref 0, .int p1, .int p2, .null, .null, .null, .null] h0
  unfold wX5_without at hw
  refine zr_aload_n dX5_without_0 rfl rfl ?_
  refine zr_iload_n dX5_without_1 rfl rfl ?_
  refine zr_pVi zz_cX5 zz_M0 (ctX5_isCurve p1 h0 _ hw) zy_X5_isCurve zm_X5_114 (by decide) rfl rfl (Nat.le_of_ble_eq_true rfl) dX5_without_2 (fun r1 hw => ?_)
  refine zr_if_eq 15 dX5_without_5 (by decide) (fun q => ?_) (fun q => ?_)
  · have hw := hw.1 q
    refine zr_aload_n dX5_without_15 rfl rfl ?_
    refine zr_ldc zk_X5_40 dX5_without_16 ?_
    refine zr_callVi zz_cX5 zz_M0 (ctX5_finds ((-1000001) : Int32) h0 _ hw) zy_X5_finds zm_X5_59 (by decide) rfl rfl (Nat.le_of_ble_eq_true rfl) dX5_without_18 (fun r3 h2 hw => ?_)
    exact zr_ret rfl rfl dX5_without_21 hw
  · have hw := hw.2 q
    refine zr_iload_n dX5_without_8 rfl rfl ?_
    refine zr_pSi (ctX5_isQuestion p2 h0 _ hw) zy_X5_isQuestion zm_X5_53 (by decide) rfl rfl (Nat.le_of_ble_eq_true rfl) dX5_without_9 (fun r4 hw => ?_)
    refine zr_if_ne 22 dX5_without_12 (by decide) (fun q => ?_) (fun q => ?_)
    · have hw := hw.1 q
      refine zr_aload_n dX5_without_22 rfl rfl ?_
      refine zr_iload_n dX5_without_23 rfl rfl ?_
      refine zr_callVv zz_cX5 zz_M0 (ctX5_findMarks p1 h0 _ hw) zy_X5_findMarks zm_X5_135 (by decide) rfl rfl (Nat.le_of_ble_eq_true rfl) dX5_without_24 (fun h5 hw => ?_)
      refine zr_aload_n dX5_without_27 rfl rfl ?_
      refine zr_callVv zz_cX5 zz_M0 (ctX5_puts h5 _ hw) zy_X5_puts zm_X5_146 (by decide) rfl rfl (Nat.le_of_ble_eq_true rfl) dX5_without_28 (fun h6 hw => ?_)
      refine zr_aload_n dX5_without_31 rfl rfl ?_
      refine zr_iload_n dX5_without_32 rfl rfl ?_
      refine zr_iconst dX5_without_33 zqk_0 ?_
      refine zr_callVv zz_cX5 zz_M0 (ctX5_worths p2 (0 : Int32) h6 _ hw) zy_X5_worths zm_X5_63 (by decide) rfl rfl (Nat.le_of_ble_eq_true rfl) dX5_without_34 (fun h7 hw => ?_)
      refine zr_iconst dX5_without_37 zqk_m1 ?_
      refine zr_istore_n [.ref 0, .int p1, .int p2, .int ((-1) : Int32), .null, .null, .null] dX5_without_38 rfl (by decide) rfl rfl ?_
      refine zr_iconst dX5_without_39 zqk_0 ?_
      refine zr_istore [.ref 0, .int p1, .int p2, .int ((-1) : Int32), .int (0 : Int32), .null, .null] dX5_without_40 (by decide) rfl rfl ?_
      refine zr_iconst dX5_without_42 zqk_0 ?_
      refine zr_istore [.ref 0, .int p1, .int p2, .int ((-1) : Int32), .int (0 : Int32), .int (0 : Int32), .null] dX5_without_43 (by decide) rfl rfl ?_
      refine zr_sub [.ref 0, .int p1, .null, .int ((-1) : Int32), .int (0 : Int32), .int (0 : Int32), .null] ⟨Or.inr rfl, ⟨Or.inr rfl, ⟨Or.inl rfl, ⟨Or.inr rfl, ⟨Or.inr rfl, ⟨Or.inr rfl, ⟨Or.inl rfl, trivial⟩⟩⟩⟩⟩⟩⟩ ?_
      obtain ⟨t9, hw⟩ := hw
      have step45 : ∀ (K11 : Int32 × Int32 × Int32 → Prop), (∀ (x8 : Int32) (x9 : Int32) (x10 : Int32), K11 (x8, x9, x10) → zz_Go zz_M 7 cX5_without RX5 7 (some .int) post 45 [] [.ref 0, .int p1, .null, .int x8, .int x9, .int x10, .null] h7) → ∀ (x8 : Int32) (x9 : Int32) (x10 : Int32), wX5_without_b45 p1 post h7 K11 x8 x9 x10 → zz_Go zz_M 7 cX5_without RX5 7 (some .int) post 45 [] [.ref 0, .int p1, .null, .int x8, .int x9, .int x10, .null] h7 := by
        intro K11 ih45 x8 x9 x10 hw
        unfold wX5_without_b45 at hw
        refine zr_iload dX5_without_45 rfl ?_
        refine zr_aload_n dX5_without_47 rfl rfl ?_
        refine zr_getR zz_cX5 zz_M0 0 (by decide) rfl zf_X5_7 dX5_without_48 ?_
        refine zr_bipush dX5_without_51 zbk_17 ?_
        refine zr_iald zz_M1 (zz_vin (by decide)) (j := 17) (by decide) dX5_without_53 ?_
        have j94 : wX5_without_j94 post h7 x8 → zz_Go zz_M 7 cX5_without RX5 7 (some .int) post 94 [] [.ref 0, .null, .null, .int x8, .null, .null, .null] h7 := by
          intro hw
          unfold wX5_without_j94 at hw
          refine zr_aload_n dX5_without_94 rfl rfl ?_
          refine zr_callVv zz_cX5 zz_M0 (ctX5_putsBack h7 _ hw) zy_X5_putsBack zm_X5_149 (by decide) rfl rfl (Nat.le_of_ble_eq_true rfl) dX5_without_95 (fun h12 hw => ?_)
          refine zr_iload_n dX5_without_98 rfl rfl ?_
          refine zr_if_ge 111 dX5_without_99 (by decide) (fun q => ?_) (fun q => ?_)
          · have hw := hw.1 q
            refine zr_iload_n dX5_without_111 rfl rfl ?_
            exact zr_ret rfl rfl dX5_without_112 hw
          · have hw := hw.2 q
            refine zr_aload_n dX5_without_102 rfl rfl ?_
            refine zr_ldc zk_X5_89 dX5_without_103 ?_
            refine zr_callVi zz_cX5 zz_M0 (ctX5_finds ((-1000004) : Int32) h12 _ hw) zy_X5_finds zm_X5_59 (by decide) rfl rfl (Nat.le_of_ble_eq_true rfl) dX5_without_105 (fun r14 h13 hw => ?_)
            refine zr_goto 112 dX5_without_108 (by decide) ?_
            exact zr_ret rfl rfl dX5_without_112 hw
        refine zr_icmp_ge 94 dX5_without_54 (by decide) (fun q => ?_) (fun q => ?_)
        · have hw := hw.1 q
          refine zr_sub [.ref 0, .null, .null, .int x8, .null, .null, .null] ⟨Or.inr rfl, ⟨Or.inl rfl, ⟨Or.inl rfl, ⟨Or.inr rfl, ⟨Or.inl rfl, ⟨Or.inl rfl, ⟨Or.inl rfl, trivial⟩⟩⟩⟩⟩⟩⟩ ?_
          exact j94 hw
        · have hw := hw.2 q
          refine zr_aload_n dX5_without_57 rfl rfl ?_
          refine zr_iload_n dX5_without_58 rfl rfl ?_
          refine zr_iload dX5_without_59 rfl ?_
          refine zr_pVi zz_cX5 zz_M0 (ctX5_markOf p1 x10 h7 _ hw) zy_X5_markOf zm_X5_132 (by decide) rfl rfl (Nat.le_of_ble_eq_true rfl) dX5_without_61 (fun r15 hw => ?_)
          refine zr_aload_n dX5_without_64 rfl rfl ?_
          refine zr_getR zz_cX5 zz_M0 5 (by decide) rfl zf_X5_22 dX5_without_65 ?_
          refine zr_iload dX5_without_68 rfl ?_
          obtain ⟨hi, hw⟩ := hw
          refine zr_iald zz_M5 hi rfl dX5_without_70 ?_
          refine zr_isub dX5_without_71 ?_
          refine zr_istore [.ref 0, .int p1, .null, .int x8, .int x9, .int x10, .int (r15 - (h7 5 x10.toNatClampNeg))] dX5_without_72 (by decide) rfl rfl ?_
          refine zr_iload dX5_without_74 rfl ?_
          refine zr_iload dX5_without_76 rfl ?_
          refine zr_icmp_le 88 dX5_without_78 (by decide) (fun q => ?_) (fun q => ?_)
          · have hw := hw.1 q
            refine zr_iinc (x10 + 1) [.ref 0, .int p1, .null, .int x8, .int x9, .int (x10 + 1), .int (r15 - (h7 5 x10.toNatClampNeg))] dX5_without_88 rfl (zok_1 _) (by decide) rfl rfl ?_
            refine zr_goto 45 dX5_without_91 (by decide) ?_
            refine zr_sub [.ref 0, .int p1, .null, .int x8, .int x9, .int (x10 + 1), .null] ⟨Or.inr rfl, ⟨Or.inr rfl, ⟨Or.inl rfl, ⟨Or.inr rfl, ⟨Or.inr rfl, ⟨Or.inr rfl, ⟨Or.inl rfl, trivial⟩⟩⟩⟩⟩⟩⟩ ?_
            exact ih45 _ _ _ hw
          · have hw := hw.2 q
            refine zr_iload dX5_without_81 rfl ?_
            refine zr_istore_n [.ref 0, .int p1, .null, .int x10, .int x9, .int x10, .int (r15 - (h7 5 x10.toNatClampNeg))] dX5_without_83 rfl (by decide) rfl rfl ?_
            refine zr_iload dX5_without_84 rfl ?_
            refine zr_istore [.ref 0, .int p1, .null, .int x10, .int (r15 - (h7 5 x10.toNatClampNeg)), .int x10, .int (r15 - (h7 5 x10.toNatClampNeg))] dX5_without_86 (by decide) rfl rfl ?_
            refine zr_iinc (x10 + 1) [.ref 0, .int p1, .null, .int x10, .int (r15 - (h7 5 x10.toNatClampNeg)), .int (x10 + 1), .int (r15 - (h7 5 x10.toNatClampNeg))] dX5_without_88 rfl (zok_1 _) (by decide) rfl rfl ?_
            refine zr_goto 45 dX5_without_91 (by decide) ?_
            refine zr_sub [.ref 0, .int p1, .null, .int x10, .int (r15 - (h7 5 x10.toNatClampNeg)), .int (x10 + 1), .null] ⟨Or.inr rfl, ⟨Or.inr rfl, ⟨Or.inl rfl, ⟨Or.inr rfl, ⟨Or.inr rfl, ⟨Or.inr rfl, ⟨Or.inl rfl, trivial⟩⟩⟩⟩⟩⟩⟩ ?_
            exact ih45 _ _ _ hw
      have key45 : ∀ (t9 : Nat) (x8 : Int32) (x9 : Int32) (x10 : Int32), zz_lp (fun K (s : Int32 × Int32 × Int32) => wX5_without_b45 p1 post h7 K s.1 s.2.1 s.2.2) t9 (x8, x9, x10) → zz_Go zz_M 7 cX5_without RX5 7 (some .int) post 45 [] [.ref 0, .int p1, .null, .int x8, .int x9, .int x10, .null] h7 := by
        intro t9
        induction t9 with
        | zero => intro x8 x9 x10 hw; exact hw.elim
        | succ t9 ih => intro x8 x9 x10 hw; exact step45 _ ih _ _ _ hw
      exact key45 t9 _ _ _ hw
    · have hw := hw.2 q
      refine zr_aload_n dX5_without_15 rfl rfl ?_
      refine zr_ldc zk_X5_40 dX5_without_16 ?_
      refine zr_callVi zz_cX5 zz_M0 (ctX5_finds ((-1000001) : Int32) h0 _ hw) zy_X5_finds zm_X5_59 (by decide) rfl rfl (Nat.le_of_ble_eq_true rfl) dX5_without_18 (fun r17 h16 hw => ?_)
      exact zr_ret rfl rfl dX5_without_21 hw
def wX5_passing_b10 (p2 : Int32) (post : Int32 → zz_H → Prop) (h1 : zz_H) (K4 : Int32 × Int32 → Prop) (x2 : Int32) (x3 : Int32) : Prop :=
  (((h1 1 17) ≤ x3) → (post x2 h1)) ∧ ((¬ (h1 1 17) ≤ x3) → (vp_in x3 12 ∧ ((((h1 5 x3.toNatClampNeg) < p2) → (K4 ((x2 ||| (0 : Int32)), (x3 + 1)))) ∧ ((¬ (h1 5 x3.toNatClampNeg) < p2) → (K4 ((x2 ||| ((1 : Int32) <<< (x3 &&& 31))), (x3 + 1)))))))
def wX5_passing (p1 : Int32) (p2 : Int32) (h0 : zz_H) (post : Int32 → zz_H → Prop) : Prop :=
  wX5_findMarks p1 h0 (fun _ h1 => ∃ t9, zz_lp (fun K (s : Int32 × Int32) => wX5_passing_b10 p2 post h1 K s.1 s.2) t9 ((0 : Int32), (0 : Int32)))
set_option maxRecDepth 20000 in
set_option maxHeartbeats 4000000 in
theorem ctX5_passing (p1 : Int32) (p2 : Int32) (h0 : zz_H) (post : Int32 → zz_H → Prop) (hw : wX5_passing p1 p2 h0 post) : zz_Ct zz_M 7 yX5_passing cX5_passing 5 (some .int) [.ref 0, .int p1, .int p2] h0 post := by
  refine zz_ct (L := [.ref 0, .int p1, .int p2, .null, .null]) (by decide +kernel) (Nat.le_of_ble_eq_true rfl) (fun ad q hq => hq) ?_
  show zz_Go zz_M 7 cX5_passing RX5 5 (some .int) post 0 [] [.ref 0, .int p1, .int p2, .null, .null] h0
  unfold wX5_passing at hw
  refine zr_aload_n dX5_passing_0 rfl rfl ?_
  refine zr_iload_n dX5_passing_1 rfl rfl ?_
  refine zr_callVv zz_cX5 zz_M0 (ctX5_findMarks p1 h0 _ hw) zy_X5_findMarks zm_X5_135 (by decide) rfl rfl (Nat.le_of_ble_eq_true rfl) dX5_passing_2 (fun h1 hw => ?_)
  refine zr_iconst dX5_passing_5 zqk_0 ?_
  refine zr_istore_n [.ref 0, .int p1, .int p2, .int (0 : Int32), .null] dX5_passing_6 rfl (by decide) rfl rfl ?_
  refine zr_iconst dX5_passing_7 zqk_0 ?_
  refine zr_istore [.ref 0, .int p1, .int p2, .int (0 : Int32), .int (0 : Int32)] dX5_passing_8 (by decide) rfl rfl ?_
  refine zr_sub [.ref 0, .null, .int p2, .int (0 : Int32), .int (0 : Int32)] ⟨Or.inr rfl, ⟨Or.inl rfl, ⟨Or.inr rfl, ⟨Or.inr rfl, ⟨Or.inr rfl, trivial⟩⟩⟩⟩⟩ ?_
  obtain ⟨t9, hw⟩ := hw
  have step10 : ∀ (K4 : Int32 × Int32 → Prop), (∀ (x2 : Int32) (x3 : Int32), K4 (x2, x3) → zz_Go zz_M 7 cX5_passing RX5 5 (some .int) post 10 [] [.ref 0, .null, .int p2, .int x2, .int x3] h1) → ∀ (x2 : Int32) (x3 : Int32), wX5_passing_b10 p2 post h1 K4 x2 x3 → zz_Go zz_M 7 cX5_passing RX5 5 (some .int) post 10 [] [.ref 0, .null, .int p2, .int x2, .int x3] h1 := by
    intro K4 ih10 x2 x3 hw
    unfold wX5_passing_b10 at hw
    refine zr_iload dX5_passing_10 rfl ?_
    refine zr_aload_n dX5_passing_12 rfl rfl ?_
    refine zr_getR zz_cX5 zz_M0 0 (by decide) rfl zf_X5_7 dX5_passing_13 ?_
    refine zr_bipush dX5_passing_16 zbk_17 ?_
    refine zr_iald zz_M1 (zz_vin (by decide)) (j := 17) (by decide) dX5_passing_18 ?_
    refine zr_icmp_ge 50 dX5_passing_19 (by decide) (fun q => ?_) (fun q => ?_)
    · have hw := hw.1 q
      refine zr_iload_n dX5_passing_50 rfl rfl ?_
      exact zr_ret rfl rfl dX5_passing_51 hw
    · have hw := hw.2 q
      refine zr_iload_n dX5_passing_22 rfl rfl ?_
      refine zr_aload_n dX5_passing_23 rfl rfl ?_
      refine zr_getR zz_cX5 zz_M0 5 (by decide) rfl zf_X5_22 dX5_passing_24 ?_
      refine zr_iload dX5_passing_27 rfl ?_
      obtain ⟨hi, hw⟩ := hw
      refine zr_iald zz_M5 hi rfl dX5_passing_29 ?_
      refine zr_iload_n dX5_passing_30 rfl rfl ?_
      refine zr_icmp_lt 41 dX5_passing_31 (by decide) (fun q => ?_) (fun q => ?_)
      · have hw := hw.1 q
        refine zr_iconst dX5_passing_41 zqk_0 ?_
        refine zr_ior dX5_passing_42 ?_
        refine zr_istore_n [.ref 0, .null, .int p2, .int (x2 ||| (0 : Int32)), .int x3] dX5_passing_43 rfl (by decide) rfl rfl ?_
        refine zr_iinc (x3 + 1) [.ref 0, .null, .int p2, .int (x2 ||| (0 : Int32)), .int (x3 + 1)] dX5_passing_44 rfl (zok_1 _) (by decide) rfl rfl ?_
        refine zr_goto 10 dX5_passing_47 (by decide) ?_
        exact ih10 _ _ hw
      · have hw := hw.2 q
        refine zr_iconst dX5_passing_34 zqk_1 ?_
        refine zr_iload dX5_passing_35 rfl ?_
        refine zr_ishl dX5_passing_37 ?_
        refine zr_goto 42 dX5_passing_38 (by decide) ?_
        refine zr_ior dX5_passing_42 ?_
        refine zr_istore_n [.ref 0, .null, .int p2, .int (x2 ||| ((1 : Int32) <<< (x3 &&& 31))), .int x3] dX5_passing_43 rfl (by decide) rfl rfl ?_
        refine zr_iinc (x3 + 1) [.ref 0, .null, .int p2, .int (x2 ||| ((1 : Int32) <<< (x3 &&& 31))), .int (x3 + 1)] dX5_passing_44 rfl (zok_1 _) (by decide) rfl rfl ?_
        refine zr_goto 10 dX5_passing_47 (by decide) ?_
        exact ih10 _ _ hw
  have key10 : ∀ (t9 : Nat) (x2 : Int32) (x3 : Int32), zz_lp (fun K (s : Int32 × Int32) => wX5_passing_b10 p2 post h1 K s.1 s.2) t9 (x2, x3) → zz_Go zz_M 7 cX5_passing RX5 5 (some .int) post 10 [] [.ref 0, .null, .int p2, .int x2, .int x3] h1 := by
    intro t9
    induction t9 with
    | zero => intro x2 x3 hw; exact hw.elim
    | succ t9 ih => intro x2 x3 hw; exact step10 _ ih _ _ hw
  exact key10 t9 _ _ hw
def wX5_ones_b4 (post : Int32 → Prop) (K3 : Int32 × Int32 → Prop) (x1 : Int32) (x2 : Int32) : Prop :=
  ((x2 = 0) → (post x1)) ∧ ((¬ x2 = 0) → (K3 ((x1 + 1), (x2 &&& (x2 - (1 : Int32))))))
def wX5_ones (p1 : Int32) (h0 : zz_H) (post : Int32 → Prop) : Prop :=
  ∃ t9, zz_lp (fun K (s : Int32 × Int32) => wX5_ones_b4 post K s.1 s.2) t9 ((0 : Int32), p1)
set_option maxRecDepth 20000 in
set_option maxHeartbeats 4000000 in
theorem ctX5_ones (p1 : Int32) (h0 : zz_H) (post : Int32 → Prop) (hw : wX5_ones p1 h0 post) : zz_Ct zz_M 0 yX5_ones cX5_ones 3 (some .int) [.int p1] h0 (zz_pu h0 post) := by
  refine zz_ct (L := [.int p1, .null, .null]) (by decide +kernel) (Nat.le_of_ble_eq_true rfl) (fun ad q hq => hq) ?_
  show zz_Go zz_M 0 cX5_ones RX5 3 (some .int) (zz_pu h0 post) 0 [] [.int p1, .null, .null] h0
  unfold wX5_ones at hw
  refine zr_iconst dX5_ones_0 zqk_0 ?_
  refine zr_istore_n [.int p1, .int (0 : Int32), .null] dX5_ones_1 rfl (by decide) rfl rfl ?_
  refine zr_iload_n dX5_ones_2 rfl rfl ?_
  refine zr_istore_n [.int p1, .int (0 : Int32), .int p1] dX5_ones_3 rfl (by decide) rfl rfl ?_
  refine zr_sub [.null, .int (0 : Int32), .int p1] ⟨Or.inl rfl, ⟨Or.inr rfl, ⟨Or.inr rfl, trivial⟩⟩⟩ ?_
  obtain ⟨t9, hw⟩ := hw
  have step4 : ∀ (K3 : Int32 × Int32 → Prop), (∀ (x1 : Int32) (x2 : Int32), K3 (x1, x2) → zz_Go zz_M 0 cX5_ones RX5 3 (some .int) (zz_pu h0 post) 4 [] [.null, .int x1, .int x2] h0) → ∀ (x1 : Int32) (x2 : Int32), wX5_ones_b4 post K3 x1 x2 → zz_Go zz_M 0 cX5_ones RX5 3 (some .int) (zz_pu h0 post) 4 [] [.null, .int x1, .int x2] h0 := by
    intro K3 ih4 x1 x2 hw
    unfold wX5_ones_b4 at hw
    refine zr_iload_n dX5_ones_4 rfl rfl ?_
    refine zr_if_eq 20 dX5_ones_5 (by decide) (fun q => ?_) (fun q => ?_)
    · have hw := hw.1 q
      refine zr_iload_n dX5_ones_20 rfl rfl ?_
      exact zr_ret rfl rfl dX5_ones_21 ⟨rfl, hw⟩
    · have hw := hw.2 q
      refine zr_iinc (x1 + 1) [.null, .int (x1 + 1), .int x2] dX5_ones_8 rfl (zok_1 _) (by decide) rfl rfl ?_
      refine zr_iload_n dX5_ones_11 rfl rfl ?_
      refine zr_iload_n dX5_ones_12 rfl rfl ?_
      refine zr_iconst dX5_ones_13 zqk_1 ?_
      refine zr_isub dX5_ones_14 ?_
      refine zr_iand dX5_ones_15 ?_
      refine zr_istore_n [.null, .int (x1 + 1), .int (x2 &&& (x2 - (1 : Int32)))] dX5_ones_16 rfl (by decide) rfl rfl ?_
      refine zr_goto 4 dX5_ones_17 (by decide) ?_
      exact ih4 _ _ hw
  have key4 : ∀ (t9 : Nat) (x1 : Int32) (x2 : Int32), zz_lp (fun K (s : Int32 × Int32) => wX5_ones_b4 post K s.1 s.2) t9 (x1, x2) → zz_Go zz_M 0 cX5_ones RX5 3 (some .int) (zz_pu h0 post) 4 [] [.null, .int x1, .int x2] h0 := by
    intro t9
    induction t9 with
    | zero => intro x1 x2 hw; exact hw.elim
    | succ t9 ih => intro x1 x2 hw; exact step4 _ ih _ _ hw
  exact key4 t9 _ _ hw
def wX5_pass (p1 : Int32) (p2 : Int32) (h0 : zz_H) (post : Int32 → zz_H → Prop) : Prop :=
  wX5_isCurve p1 h0 (fun r1 => ((r1 = 0) → (wX5_finds ((-1000001) : Int32) h0 (fun r3 h2 => post r3 h2))) ∧ ((¬ r1 = 0) → (wX5_isLine p2 h0 (fun r4 => ((r4 = 0) → (wX5_finds ((-1000001) : Int32) h0 (fun r6 h5 => post r6 h5))) ∧ ((¬ r4 = 0) → (wX5_passing p1 p2 h0 (fun r8 h7 => post r8 h7)))))))
set_option maxRecDepth 20000 in
set_option maxHeartbeats 4000000 in
theorem ctX5_pass (p1 : Int32) (p2 : Int32) (h0 : zz_H) (post : Int32 → zz_H → Prop) (hw : wX5_pass p1 p2 h0 post) : zz_Ct zz_M 8 yX5_pass cX5_pass 3 (some .int) [.ref 0, .int p1, .int p2] h0 post := by
  refine zz_ct (L := [.ref 0, .int p1, .int p2]) (by decide +kernel) (Nat.le_of_ble_eq_true rfl) (fun ad q hq => hq) ?_
  show zz_Go zz_M 8 cX5_pass RX5 3 (some .int) post 0 [] [.ref 0, .int p1, .int p2] h0
  unfold wX5_pass at hw
  refine zr_aload_n dX5_pass_0 rfl rfl ?_
  refine zr_iload_n dX5_pass_1 rfl rfl ?_
  refine zr_pVi zz_cX5 zz_M0 (ctX5_isCurve p1 h0 _ hw) zy_X5_isCurve zm_X5_114 (by decide) rfl rfl (Nat.le_of_ble_eq_true rfl) dX5_pass_2 (fun r1 hw => ?_)
  refine zr_if_eq 24 dX5_pass_5 (by decide) (fun q => ?_) (fun q => ?_)
  · have hw := hw.1 q
    refine zr_aload_n dX5_pass_24 rfl rfl ?_
    refine zr_ldc zk_X5_40 dX5_pass_25 ?_
    refine zr_callVi zz_cX5 zz_M0 (ctX5_finds ((-1000001) : Int32) h0 _ hw) zy_X5_finds zm_X5_59 (by decide) rfl rfl (Nat.le_of_ble_eq_true rfl) dX5_pass_27 (fun r3 h2 hw => ?_)
    exact zr_ret rfl rfl dX5_pass_30 hw
  · have hw := hw.2 q
    refine zr_iload_n dX5_pass_8 rfl rfl ?_
    refine zr_pSi (ctX5_isLine p2 h0 _ hw) zy_X5_isLine zm_X5_152 (by decide) rfl rfl (Nat.le_of_ble_eq_true rfl) dX5_pass_9 (fun r4 hw => ?_)
    refine zr_if_eq 24 dX5_pass_12 (by decide) (fun q => ?_) (fun q => ?_)
    · have hw := hw.1 q
      refine zr_aload_n dX5_pass_24 rfl rfl ?_
      refine zr_ldc zk_X5_40 dX5_pass_25 ?_
      refine zr_callVi zz_cX5 zz_M0 (ctX5_finds ((-1000001) : Int32) h0 _ hw) zy_X5_finds zm_X5_59 (by decide) rfl rfl (Nat.le_of_ble_eq_true rfl) dX5_pass_27 (fun r6 h5 hw => ?_)
      exact zr_ret rfl rfl dX5_pass_30 hw
    · have hw := hw.2 q
      refine zr_aload_n dX5_pass_15 rfl rfl ?_
      refine zr_iload_n dX5_pass_16 rfl rfl ?_
      refine zr_iload_n dX5_pass_17 rfl rfl ?_
      refine zr_callVi zz_cX5 zz_M0 (ctX5_passing p1 p2 h0 _ hw) zy_X5_passing zm_X5_155 (by decide) rfl rfl (Nat.le_of_ble_eq_true rfl) dX5_pass_18 (fun r8 h7 hw => ?_)
      refine zr_goto 30 dX5_pass_21 (by decide) ?_
      exact zr_ret rfl rfl dX5_pass_30 hw
def wX5_line_b31 (p1 : Int32) (p2 : Int32) (post : Int32 → zz_H → Prop) (K7 : Int32 × zz_H → Prop) (x5 : Int32) (h6 : zz_H) : Prop :=
  ((x5 < 0) → (wX5_finds ((-1000004) : Int32) h6 (fun r9 h8 => post r9 h8))) ∧ ((¬ x5 < 0) → (wX5_passing p1 x5 h6 (fun r11 h10 => wX5_ones r11 h10 (fun r12 => ((r12 < p2) → (K7 ((x5 + (-1)), h10))) ∧ ((¬ r12 < p2) → (post x5 h10))))))
def wX5_line (p1 : Int32) (p2 : Int32) (h0 : zz_H) (post : Int32 → zz_H → Prop) : Prop :=
  wX5_isCurve p1 h0 (fun r1 => ((r1 = 0) → (wX5_finds ((-1000001) : Int32) h0 (fun r3 h2 => post r3 h2))) ∧ ((¬ r1 = 0) → (wX5_in (p2.toInt64) (0 : Int64) (12 : Int64) h0 (fun r4 => ((¬ r4 = 0) → (∃ t9, zz_lp (fun K (s : Int32 × zz_H) => wX5_line_b31 p1 p2 post K s.1 s.2) t9 ((400 : Int32), h0))) ∧ ((r4 = 0) → (wX5_finds ((-1000001) : Int32) h0 (fun r14 h13 => post r14 h13)))))))
set_option maxRecDepth 20000 in
set_option maxHeartbeats 4000000 in
theorem ctX5_line (p1 : Int32) (p2 : Int32) (h0 : zz_H) (post : Int32 → zz_H → Prop) (hw : wX5_line p1 p2 h0 post) : zz_Ct zz_M 8 yX5_line cX5_line 4 (some .int) [.ref 0, .int p1, .int p2] h0 post := by
  refine zz_ct (L := [.ref 0, .int p1, .int p2, .null]) (by decide +kernel) (Nat.le_of_ble_eq_true rfl) (fun ad q hq => hq) ?_
  show zz_Go zz_M 8 cX5_line RX5 4 (some .int) post 0 [] [.ref 0, .int p1, .int p2, .null] h0
  unfold wX5_line at hw
  refine zr_aload_n dX5_line_0 rfl rfl ?_
  refine zr_iload_n dX5_line_1 rfl rfl ?_
  refine zr_pVi zz_cX5 zz_M0 (ctX5_isCurve p1 h0 _ hw) zy_X5_isCurve zm_X5_114 (by decide) rfl rfl (Nat.le_of_ble_eq_true rfl) dX5_line_2 (fun r1 hw => ?_)
  refine zr_if_eq 20 dX5_line_5 (by decide) (fun q => ?_) (fun q => ?_)
  · have hw := hw.1 q
    refine zr_aload_n dX5_line_20 rfl rfl ?_
    refine zr_ldc zk_X5_40 dX5_line_21 ?_
    refine zr_callVi zz_cX5 zz_M0 (ctX5_finds ((-1000001) : Int32) h0 _ hw) zy_X5_finds zm_X5_59 (by decide) rfl rfl (Nat.le_of_ble_eq_true rfl) dX5_line_23 (fun r3 h2 hw => ?_)
    exact zr_ret rfl rfl dX5_line_26 hw
  · have hw := hw.2 q
    refine zr_iload_n dX5_line_8 rfl rfl ?_
    refine zr_i2l dX5_line_9 ?_
    refine zr_lconst (v := 0) dX5_line_10 (by decide) ?_
    refine zr_ldc2 zl_X5_158 dX5_line_11 ?_
    refine zr_pSi (ctX5_in (p2.toInt64) (0 : Int64) (12 : Int64) h0 _ hw) zy_X5_in zm_X5_43 (by decide) rfl rfl (Nat.le_of_ble_eq_true rfl) dX5_line_14 (fun r4 hw => ?_)
    refine zr_if_ne 27 dX5_line_17 (by decide) (fun q => ?_) (fun q => ?_)
    · have hw := hw.1 q
      refine zr_sipush dX5_line_27 zhk_400 ?_
      refine zr_istore_n [.ref 0, .int p1, .int p2, .int (400 : Int32)] dX5_line_30 rfl (by decide) rfl rfl ?_
      obtain ⟨t9, hw⟩ := hw
      have step31 : ∀ (K7 : Int32 × zz_H → Prop), (∀ (x5 : Int32) (h6 : zz_H), K7 (x5, h6) → zz_Go zz_M 8 cX5_line RX5 4 (some .int) post 31 [] [.ref 0, .int p1, .int p2, .int x5] h6) → ∀ (x5 : Int32) (h6 : zz_H), wX5_line_b31 p1 p2 post K7 x5 h6 → zz_Go zz_M 8 cX5_line RX5 4 (some .int) post 31 [] [.ref 0, .int p1, .int p2, .int x5] h6 := by
        intro K7 ih31 x5 h6 hw
        unfold wX5_line_b31 at hw
        refine zr_iload_n dX5_line_31 rfl rfl ?_
        refine zr_if_lt 56 dX5_line_32 (by decide) (fun q => ?_) (fun q => ?_)
        · have hw := hw.1 q
          refine zr_aload_n dX5_line_56 rfl rfl ?_
          refine zr_ldc zk_X5_89 dX5_line_57 ?_
          refine zr_callVi zz_cX5 zz_M0 (ctX5_finds ((-1000004) : Int32) h6 _ hw) zy_X5_finds zm_X5_59 (by decide) rfl rfl (Nat.le_of_ble_eq_true rfl) dX5_line_59 (fun r9 h8 hw => ?_)
          exact zr_ret rfl rfl dX5_line_62 hw
        · have hw := hw.2 q
          refine zr_aload_n dX5_line_35 rfl rfl ?_
          refine zr_iload_n dX5_line_36 rfl rfl ?_
          refine zr_iload_n dX5_line_37 rfl rfl ?_
          refine zr_callVi zz_cX5 zz_M0 (ctX5_passing p1 x5 h6 _ hw) zy_X5_passing zm_X5_155 (by decide) rfl rfl (Nat.le_of_ble_eq_true rfl) dX5_line_38 (fun r11 h10 hw => ?_)
          refine zr_pSi (ctX5_ones r11 h10 _ hw) zy_X5_ones zm_X5_160 (by decide) rfl rfl (Nat.le_of_ble_eq_true rfl) dX5_line_41 (fun r12 hw => ?_)
          refine zr_iload_n dX5_line_44 rfl rfl ?_
          refine zr_icmp_lt 50 dX5_line_45 (by decide) (fun q => ?_) (fun q => ?_)
          · have hw := hw.1 q
            refine zr_iinc (x5 + (-1)) [.ref 0, .int p1, .int p2, .int (x5 + (-1))] dX5_line_50 rfl (zok_m1 _) (by decide) rfl rfl ?_
            refine zr_goto 31 dX5_line_53 (by decide) ?_
            exact ih31 _ _ hw
          · have hw := hw.2 q
            refine zr_iload_n dX5_line_48 rfl rfl ?_
            exact zr_ret rfl rfl dX5_line_49 hw
      have key31 : ∀ (t9 : Nat) (x5 : Int32) (h6 : zz_H), zz_lp (fun K (s : Int32 × zz_H) => wX5_line_b31 p1 p2 post K s.1 s.2) t9 (x5, h6) → zz_Go zz_M 8 cX5_line RX5 4 (some .int) post 31 [] [.ref 0, .int p1, .int p2, .int x5] h6 := by
        intro t9
        induction t9 with
        | zero => intro x5 h6 hw; exact hw.elim
        | succ t9 ih => intro x5 h6 hw; exact step31 _ ih _ _ hw
      exact key31 t9 _ _ hw
    · have hw := hw.2 q
      refine zr_aload_n dX5_line_20 rfl rfl ?_
      refine zr_ldc zk_X5_40 dX5_line_21 ?_
      refine zr_callVi zz_cX5 zz_M0 (ctX5_finds ((-1000001) : Int32) h0 _ hw) zy_X5_finds zm_X5_59 (by decide) rfl rfl (Nat.le_of_ble_eq_true rfl) dX5_line_23 (fun r14 h13 hw => ?_)
      exact zr_ret rfl rfl dX5_line_26 hw
def wX5_between_b11 (p2 : Int32) (p3 : Int32) (post : Int32 → zz_H → Prop) (h1 : zz_H) (K4 : Int32 × Int32 → Prop) (x2 : Int32) (x3 : Int32) : Prop :=
  (((h1 1 17) ≤ x3) → (post x2 h1)) ∧ ((¬ (h1 1 17) ≤ x3) → (vp_in x3 12 ∧ (wX5_in ((h1 5 x3.toNatClampNeg).toInt64) (p2.toInt64) (p3.toInt64) h1 (fun r5 => ((r5 = 0) → (K4 ((x2 + (0 : Int32)), (x3 + 1)))) ∧ ((¬ r5 = 0) → (K4 ((x2 + (1 : Int32)), (x3 + 1))))))))
def wX5_between (p1 : Int32) (p2 : Int32) (p3 : Int32) (h0 : zz_H) (post : Int32 → zz_H → Prop) : Prop :=
  wX5_findMarks p1 h0 (fun _ h1 => ∃ t9, zz_lp (fun K (s : Int32 × Int32) => wX5_between_b11 p2 p3 post h1 K s.1 s.2) t9 ((0 : Int32), (0 : Int32)))
set_option maxRecDepth 20000 in
set_option maxHeartbeats 4000000 in
theorem ctX5_between (p1 : Int32) (p2 : Int32) (p3 : Int32) (h0 : zz_H) (post : Int32 → zz_H → Prop) (hw : wX5_between p1 p2 p3 h0 post) : zz_Ct zz_M 7 yX5_between cX5_between 6 (some .int) [.ref 0, .int p1, .int p2, .int p3] h0 post := by
  refine zz_ct (L := [.ref 0, .int p1, .int p2, .int p3, .null, .null]) (by decide +kernel) (Nat.le_of_ble_eq_true rfl) (fun ad q hq => hq) ?_
  show zz_Go zz_M 7 cX5_between RX5 6 (some .int) post 0 [] [.ref 0, .int p1, .int p2, .int p3, .null, .null] h0
  unfold wX5_between at hw
  refine zr_aload_n dX5_between_0 rfl rfl ?_
  refine zr_iload_n dX5_between_1 rfl rfl ?_
  refine zr_callVv zz_cX5 zz_M0 (ctX5_findMarks p1 h0 _ hw) zy_X5_findMarks zm_X5_135 (by decide) rfl rfl (Nat.le_of_ble_eq_true rfl) dX5_between_2 (fun h1 hw => ?_)
  refine zr_iconst dX5_between_5 zqk_0 ?_
  refine zr_istore [.ref 0, .int p1, .int p2, .int p3, .int (0 : Int32), .null] dX5_between_6 (by decide) rfl rfl ?_
  refine zr_iconst dX5_between_8 zqk_0 ?_
  refine zr_istore [.ref 0, .int p1, .int p2, .int p3, .int (0 : Int32), .int (0 : Int32)] dX5_between_9 (by decide) rfl rfl ?_
  refine zr_sub [.ref 0, .null, .int p2, .int p3, .int (0 : Int32), .int (0 : Int32)] ⟨Or.inr rfl, ⟨Or.inl rfl, ⟨Or.inr rfl, ⟨Or.inr rfl, ⟨Or.inr rfl, ⟨Or.inr rfl, trivial⟩⟩⟩⟩⟩⟩ ?_
  obtain ⟨t9, hw⟩ := hw
  have step11 : ∀ (K4 : Int32 × Int32 → Prop), (∀ (x2 : Int32) (x3 : Int32), K4 (x2, x3) → zz_Go zz_M 7 cX5_between RX5 6 (some .int) post 11 [] [.ref 0, .null, .int p2, .int p3, .int x2, .int x3] h1) → ∀ (x2 : Int32) (x3 : Int32), wX5_between_b11 p2 p3 post h1 K4 x2 x3 → zz_Go zz_M 7 cX5_between RX5 6 (some .int) post 11 [] [.ref 0, .null, .int p2, .int p3, .int x2, .int x3] h1 := by
    intro K4 ih11 x2 x3 hw
    unfold wX5_between_b11 at hw
    refine zr_iload dX5_between_11 rfl ?_
    refine zr_aload_n dX5_between_13 rfl rfl ?_
    refine zr_getR zz_cX5 zz_M0 0 (by decide) rfl zf_X5_7 dX5_between_14 ?_
    refine zr_bipush dX5_between_17 zbk_17 ?_
    refine zr_iald zz_M1 (zz_vin (by decide)) (j := 17) (by decide) dX5_between_19 ?_
    refine zr_icmp_ge 57 dX5_between_20 (by decide) (fun q => ?_) (fun q => ?_)
    · have hw := hw.1 q
      refine zr_iload dX5_between_57 rfl ?_
      exact zr_ret rfl rfl dX5_between_59 hw
    · have hw := hw.2 q
      refine zr_iload dX5_between_23 rfl ?_
      refine zr_aload_n dX5_between_25 rfl rfl ?_
      refine zr_getR zz_cX5 zz_M0 5 (by decide) rfl zf_X5_22 dX5_between_26 ?_
      refine zr_iload dX5_between_29 rfl ?_
      obtain ⟨hi, hw⟩ := hw
      refine zr_iald zz_M5 hi rfl dX5_between_31 ?_
      refine zr_i2l dX5_between_32 ?_
      refine zr_iload_n dX5_between_33 rfl rfl ?_
      refine zr_i2l dX5_between_34 ?_
      refine zr_iload_n dX5_between_35 rfl rfl ?_
      refine zr_i2l dX5_between_36 ?_
      refine zr_pSi (ctX5_in ((h1 5 x3.toNatClampNeg).toInt64) (p2.toInt64) (p3.toInt64) h1 _ hw) zy_X5_in zm_X5_43 (by decide) rfl rfl (Nat.le_of_ble_eq_true rfl) dX5_between_37 (fun r5 hw => ?_)
      refine zr_if_eq 47 dX5_between_40 (by decide) (fun q => ?_) (fun q => ?_)
      · have hw := hw.1 q
        refine zr_iconst dX5_between_47 zqk_0 ?_
        refine zr_iadd dX5_between_48 ?_
        refine zr_istore [.ref 0, .null, .int p2, .int p3, .int (x2 + (0 : Int32)), .int x3] dX5_between_49 (by decide) rfl rfl ?_
        refine zr_iinc (x3 + 1) [.ref 0, .null, .int p2, .int p3, .int (x2 + (0 : Int32)), .int (x3 + 1)] dX5_between_51 rfl (zok_1 _) (by decide) rfl rfl ?_
        refine zr_goto 11 dX5_between_54 (by decide) ?_
        exact ih11 _ _ hw
      · have hw := hw.2 q
        refine zr_iconst dX5_between_43 zqk_1 ?_
        refine zr_goto 48 dX5_between_44 (by decide) ?_
        refine zr_iadd dX5_between_48 ?_
        refine zr_istore [.ref 0, .null, .int p2, .int p3, .int (x2 + (1 : Int32)), .int x3] dX5_between_49 (by decide) rfl rfl ?_
        refine zr_iinc (x3 + 1) [.ref 0, .null, .int p2, .int p3, .int (x2 + (1 : Int32)), .int (x3 + 1)] dX5_between_51 rfl (zok_1 _) (by decide) rfl rfl ?_
        refine zr_goto 11 dX5_between_54 (by decide) ?_
        exact ih11 _ _ hw
  have key11 : ∀ (t9 : Nat) (x2 : Int32) (x3 : Int32), zz_lp (fun K (s : Int32 × Int32) => wX5_between_b11 p2 p3 post h1 K s.1 s.2) t9 (x2, x3) → zz_Go zz_M 7 cX5_between RX5 6 (some .int) post 11 [] [.ref 0, .null, .int p2, .int p3, .int x2, .int x3] h1 := by
    intro t9
    induction t9 with
    | zero => intro x2 x3 hw; exact hw.elim
    | succ t9 ih => intro x2 x3 hw; exact step11 _ ih _ _ hw
  exact key11 t9 _ _ hw
def wX5_heap (p1 : Int32) (p2 : Int32) (h0 : zz_H) (post : Int32 → zz_H → Prop) : Prop :=
  wX5_isCurve p1 h0 (fun r1 => ((r1 = 0) → (wX5_finds ((-1000001) : Int32) h0 (fun r3 h2 => post r3 h2))) ∧ ((¬ r1 = 0) → (wX5_isLine p2 h0 (fun r4 => ((¬ r4 = 0) → (wX5_between p1 p2 (p2 + (2 : Int32)) h0 (fun r6 h5 => wX5_between p1 (p2 - (3 : Int32)) (p2 - (1 : Int32)) h5 (fun r8 h7 => post (r6 - r8) h7)))) ∧ ((r4 = 0) → (wX5_finds ((-1000001) : Int32) h0 (fun r10 h9 => post r10 h9)))))))
set_option maxRecDepth 20000 in
set_option maxHeartbeats 4000000 in
theorem ctX5_heap (p1 : Int32) (p2 : Int32) (h0 : zz_H) (post : Int32 → zz_H → Prop) (hw : wX5_heap p1 p2 h0 post) : zz_Ct zz_M 8 yX5_heap cX5_heap 3 (some .int) [.ref 0, .int p1, .int p2] h0 post := by
  refine zz_ct (L := [.ref 0, .int p1, .int p2]) (by decide +kernel) (Nat.le_of_ble_eq_true rfl) (fun ad q hq => hq) ?_
  show zz_Go zz_M 8 cX5_heap RX5 3 (some .int) post 0 [] [.ref 0, .int p1, .int p2] h0
  unfold wX5_heap at hw
  refine zr_aload_n dX5_heap_0 rfl rfl ?_
  refine zr_iload_n dX5_heap_1 rfl rfl ?_
  refine zr_pVi zz_cX5 zz_M0 (ctX5_isCurve p1 h0 _ hw) zy_X5_isCurve zm_X5_114 (by decide) rfl rfl (Nat.le_of_ble_eq_true rfl) dX5_heap_2 (fun r1 hw => ?_)
  refine zr_if_eq 15 dX5_heap_5 (by decide) (fun q => ?_) (fun q => ?_)
  · have hw := hw.1 q
    refine zr_aload_n dX5_heap_15 rfl rfl ?_
    refine zr_ldc zk_X5_40 dX5_heap_16 ?_
    refine zr_callVi zz_cX5 zz_M0 (ctX5_finds ((-1000001) : Int32) h0 _ hw) zy_X5_finds zm_X5_59 (by decide) rfl rfl (Nat.le_of_ble_eq_true rfl) dX5_heap_18 (fun r3 h2 hw => ?_)
    exact zr_ret rfl rfl dX5_heap_21 hw
  · have hw := hw.2 q
    refine zr_iload_n dX5_heap_8 rfl rfl ?_
    refine zr_pSi (ctX5_isLine p2 h0 _ hw) zy_X5_isLine zm_X5_152 (by decide) rfl rfl (Nat.le_of_ble_eq_true rfl) dX5_heap_9 (fun r4 hw => ?_)
    refine zr_if_ne 22 dX5_heap_12 (by decide) (fun q => ?_) (fun q => ?_)
    · have hw := hw.1 q
      refine zr_aload_n dX5_heap_22 rfl rfl ?_
      refine zr_iload_n dX5_heap_23 rfl rfl ?_
      refine zr_iload_n dX5_heap_24 rfl rfl ?_
      refine zr_iload_n dX5_heap_25 rfl rfl ?_
      refine zr_iconst dX5_heap_26 zqk_2 ?_
      refine zr_iadd dX5_heap_27 ?_
      refine zr_callVi zz_cX5 zz_M0 (ctX5_between p1 p2 (p2 + (2 : Int32)) h0 _ hw) zy_X5_between zm_X5_163 (by decide) rfl rfl (Nat.le_of_ble_eq_true rfl) dX5_heap_28 (fun r6 h5 hw => ?_)
      refine zr_aload_n dX5_heap_31 rfl rfl ?_
      refine zr_iload_n dX5_heap_32 rfl rfl ?_
      refine zr_iload_n dX5_heap_33 rfl rfl ?_
      refine zr_iconst dX5_heap_34 zqk_3 ?_
      refine zr_isub dX5_heap_35 ?_
      refine zr_iload_n dX5_heap_36 rfl rfl ?_
      refine zr_iconst dX5_heap_37 zqk_1 ?_
      refine zr_isub dX5_heap_38 ?_
      refine zr_callVi zz_cX5 zz_M0 (ctX5_between p1 (p2 - (3 : Int32)) (p2 - (1 : Int32)) h5 _ hw) zy_X5_between zm_X5_163 (by decide) rfl rfl (Nat.le_of_ble_eq_true rfl) dX5_heap_39 (fun r8 h7 hw => ?_)
      refine zr_isub dX5_heap_42 ?_
      exact zr_ret rfl rfl dX5_heap_43 hw
    · have hw := hw.2 q
      refine zr_aload_n dX5_heap_15 rfl rfl ?_
      refine zr_ldc zk_X5_40 dX5_heap_16 ?_
      refine zr_callVi zz_cX5 zz_M0 (ctX5_finds ((-1000001) : Int32) h0 _ hw) zy_X5_finds zm_X5_59 (by decide) rfl rfl (Nat.le_of_ble_eq_true rfl) dX5_heap_18 (fun r10 h9 hw => ?_)
      exact zr_ret rfl rfl dX5_heap_21 hw
def wX5_kindest_j63 (post : Int32 → zz_H → Prop) (x2 : Int32) (h5 : zz_H) : Prop :=
  ((0 ≤ x2) → (post x2 h5)) ∧ ((¬ 0 ≤ x2) → (wX5_finds ((-1000004) : Int32) h5 (fun r8 h7 => post r8 h7)))
def wX5_kindest_b21 (p1 : Int32) (post : Int32 → zz_H → Prop) (K6 : Int32 × Int32 × Int32 × zz_H → Prop) (x2 : Int32) (x3 : Int32) (x4 : Int32) (h5 : zz_H) : Prop :=
  (((h5 1 18) ≤ x4) → (wX5_kindest_j63 post x2 h5)) ∧ ((¬ (h5 1 18) ≤ x4) → (wX5_passing x4 p1 h5 (fun r10 h9 => wX5_ones r10 h9 (fun r11 => ((r11 ≤ x3) → (K6 (x2, x3, (x4 + 1), h9))) ∧ ((¬ r11 ≤ x3) → (K6 (x4, r11, (x4 + 1), h9)))))))
def wX5_kindest (p1 : Int32) (h0 : zz_H) (post : Int32 → zz_H → Prop) : Prop :=
  wX5_isLine p1 h0 (fun r1 => ((¬ r1 = 0) → (∃ t9, zz_lp (fun K (s : Int32 × Int32 × Int32 × zz_H) => wX5_kindest_b21 p1 post K s.1 s.2.1 s.2.2.1 s.2.2.2) t9 (((-1) : Int32), ((-1) : Int32), (0 : Int32), h0))) ∧ ((r1 = 0) → (wX5_finds ((-1000001) : Int32) h0 (fun r13 h12 => post r13 h12))))
set_option maxRecDepth 20000 in
set_option maxHeartbeats 4000000 in
theorem ctX5_kindest (p1 : Int32) (h0 : zz_H) (post : Int32 → zz_H → Prop) (hw : wX5_kindest p1 h0 post) : zz_Ct zz_M 8 yX5_kindest cX5_kindest 6 (some .int) [.ref 0, .int p1] h0 post := by
  refine zz_ct (L := [.ref 0, .int p1, .null, .null, .null, .null]) (by decide +kernel) (Nat.le_of_ble_eq_true rfl) (fun ad q hq => hq) ?_
  show zz_Go zz_M 8 cX5_kindest RX5 6 (some .int) post 0 [] [.ref 0, .int p1, .null, .null, .null, .null] h0
  unfold wX5_kindest at hw
  refine zr_iload_n dX5_kindest_0 rfl rfl ?_
  refine zr_pSi (ctX5_isLine p1 h0 _ hw) zy_X5_isLine zm_X5_152 (by decide) rfl rfl (Nat.le_of_ble_eq_true rfl) dX5_kindest_1 (fun r1 hw => ?_)
  refine zr_if_ne 14 dX5_kindest_4 (by decide) (fun q => ?_) (fun q => ?_)
  · have hw := hw.1 q
    refine zr_iconst dX5_kindest_14 zqk_m1 ?_
    refine zr_istore_n [.ref 0, .int p1, .int ((-1) : Int32), .null, .null, .null] dX5_kindest_15 rfl (by decide) rfl rfl ?_
    refine zr_iconst dX5_kindest_16 zqk_m1 ?_
    refine zr_istore_n [.ref 0, .int p1, .int ((-1) : Int32), .int ((-1) : Int32), .null, .null] dX5_kindest_17 rfl (by decide) rfl rfl ?_
    refine zr_iconst dX5_kindest_18 zqk_0 ?_
    refine zr_istore [.ref 0, .int p1, .int ((-1) : Int32), .int ((-1) : Int32), .int (0 : Int32), .null] dX5_kindest_19 (by decide) rfl rfl ?_
    obtain ⟨t9, hw⟩ := hw
    have step21 : ∀ (K6 : Int32 × Int32 × Int32 × zz_H → Prop), (∀ (x2 : Int32) (x3 : Int32) (x4 : Int32) (h5 : zz_H), K6 (x2, x3, x4, h5) → zz_Go zz_M 8 cX5_kindest RX5 6 (some .int) post 21 [] [.ref 0, .int p1, .int x2, .int x3, .int x4, .null] h5) → ∀ (x2 : Int32) (x3 : Int32) (x4 : Int32) (h5 : zz_H), wX5_kindest_b21 p1 post K6 x2 x3 x4 h5 → zz_Go zz_M 8 cX5_kindest RX5 6 (some .int) post 21 [] [.ref 0, .int p1, .int x2, .int x3, .int x4, .null] h5 := by
      intro K6 ih21 x2 x3 x4 h5 hw
      unfold wX5_kindest_b21 at hw
      refine zr_iload dX5_kindest_21 rfl ?_
      refine zr_aload_n dX5_kindest_23 rfl rfl ?_
      refine zr_getR zz_cX5 zz_M0 0 (by decide) rfl zf_X5_7 dX5_kindest_24 ?_
      refine zr_bipush dX5_kindest_27 zbk_18 ?_
      refine zr_iald zz_M1 (zz_vin (by decide)) (j := 18) (by decide) dX5_kindest_29 ?_
      have j63 : wX5_kindest_j63 post x2 h5 → zz_Go zz_M 8 cX5_kindest RX5 6 (some .int) post 63 [] [.ref 0, .null, .int x2, .null, .null, .null] h5 := by
        intro hw
        unfold wX5_kindest_j63 at hw
        refine zr_iload_n dX5_kindest_63 rfl rfl ?_
        refine zr_if_ge 76 dX5_kindest_64 (by decide) (fun q => ?_) (fun q => ?_)
        · have hw := hw.1 q
          refine zr_iload_n dX5_kindest_76 rfl rfl ?_
          exact zr_ret rfl rfl dX5_kindest_77 hw
        · have hw := hw.2 q
          refine zr_aload_n dX5_kindest_67 rfl rfl ?_
          refine zr_ldc zk_X5_89 dX5_kindest_68 ?_
          refine zr_callVi zz_cX5 zz_M0 (ctX5_finds ((-1000004) : Int32) h5 _ hw) zy_X5_finds zm_X5_59 (by decide) rfl rfl (Nat.le_of_ble_eq_true rfl) dX5_kindest_70 (fun r8 h7 hw => ?_)
          refine zr_goto 77 dX5_kindest_73 (by decide) ?_
          exact zr_ret rfl rfl dX5_kindest_77 hw
      refine zr_icmp_ge 63 dX5_kindest_30 (by decide) (fun q => ?_) (fun q => ?_)
      · have hw := hw.1 q
        refine zr_sub [.ref 0, .null, .int x2, .null, .null, .null] ⟨Or.inr rfl, ⟨Or.inl rfl, ⟨Or.inr rfl, ⟨Or.inl rfl, ⟨Or.inl rfl, ⟨Or.inl rfl, trivial⟩⟩⟩⟩⟩⟩ ?_
        exact j63 hw
      · have hw := hw.2 q
        refine zr_aload_n dX5_kindest_33 rfl rfl ?_
        refine zr_iload dX5_kindest_34 rfl ?_
        refine zr_iload_n dX5_kindest_36 rfl rfl ?_
        refine zr_callVi zz_cX5 zz_M0 (ctX5_passing x4 p1 h5 _ hw) zy_X5_passing zm_X5_155 (by decide) rfl rfl (Nat.le_of_ble_eq_true rfl) dX5_kindest_37 (fun r10 h9 hw => ?_)
        refine zr_pSi (ctX5_ones r10 h9 _ hw) zy_X5_ones zm_X5_160 (by decide) rfl rfl (Nat.le_of_ble_eq_true rfl) dX5_kindest_40 (fun r11 hw => ?_)
        refine zr_istore [.ref 0, .int p1, .int x2, .int x3, .int x4, .int r11] dX5_kindest_43 (by decide) rfl rfl ?_
        refine zr_iload dX5_kindest_45 rfl ?_
        refine zr_iload_n dX5_kindest_47 rfl rfl ?_
        refine zr_icmp_le 57 dX5_kindest_48 (by decide) (fun q => ?_) (fun q => ?_)
        · have hw := hw.1 q
          refine zr_iinc (x4 + 1) [.ref 0, .int p1, .int x2, .int x3, .int (x4 + 1), .int r11] dX5_kindest_57 rfl (zok_1 _) (by decide) rfl rfl ?_
          refine zr_goto 21 dX5_kindest_60 (by decide) ?_
          refine zr_sub [.ref 0, .int p1, .int x2, .int x3, .int (x4 + 1), .null] ⟨Or.inr rfl, ⟨Or.inr rfl, ⟨Or.inr rfl, ⟨Or.inr rfl, ⟨Or.inr rfl, ⟨Or.inl rfl, trivial⟩⟩⟩⟩⟩⟩ ?_
          exact ih21 _ _ _ _ hw
        · have hw := hw.2 q
          refine zr_iload dX5_kindest_51 rfl ?_
          refine zr_istore_n [.ref 0, .int p1, .int x4, .int x3, .int x4, .int r11] dX5_kindest_53 rfl (by decide) rfl rfl ?_
          refine zr_iload dX5_kindest_54 rfl ?_
          refine zr_istore_n [.ref 0, .int p1, .int x4, .int r11, .int x4, .int r11] dX5_kindest_56 rfl (by decide) rfl rfl ?_
          refine zr_iinc (x4 + 1) [.ref 0, .int p1, .int x4, .int r11, .int (x4 + 1), .int r11] dX5_kindest_57 rfl (zok_1 _) (by decide) rfl rfl ?_
          refine zr_goto 21 dX5_kindest_60 (by decide) ?_
          refine zr_sub [.ref 0, .int p1, .int x4, .int r11, .int (x4 + 1), .null] ⟨Or.inr rfl, ⟨Or.inr rfl, ⟨Or.inr rfl, ⟨Or.inr rfl, ⟨Or.inr rfl, ⟨Or.inl rfl, trivial⟩⟩⟩⟩⟩⟩ ?_
          exact ih21 _ _ _ _ hw
    have key21 : ∀ (t9 : Nat) (x2 : Int32) (x3 : Int32) (x4 : Int32) (h5 : zz_H), zz_lp (fun K (s : Int32 × Int32 × Int32 × zz_H) => wX5_kindest_b21 p1 post K s.1 s.2.1 s.2.2.1 s.2.2.2) t9 (x2, x3, x4, h5) → zz_Go zz_M 8 cX5_kindest RX5 6 (some .int) post 21 [] [.ref 0, .int p1, .int x2, .int x3, .int x4, .null] h5 := by
      intro t9
      induction t9 with
      | zero => intro x2 x3 x4 h5 hw; exact hw.elim
      | succ t9 ih => intro x2 x3 x4 h5 hw; exact step21 _ ih _ _ _ _ hw
    exact key21 t9 _ _ _ _ hw
  · have hw := hw.2 q
    refine zr_aload_n dX5_kindest_7 rfl rfl ?_
    refine zr_ldc zk_X5_40 dX5_kindest_8 ?_
    refine zr_callVi zz_cX5 zz_M0 (ctX5_finds ((-1000001) : Int32) h0 _ hw) zy_X5_finds zm_X5_59 (by decide) rfl rfl (Nat.le_of_ble_eq_true rfl) dX5_kindest_10 (fun r13 h12 hw => ?_)
    exact zr_ret rfl rfl dX5_kindest_13 hw
