def wX0_takeFrom (a : Nat) (b : Nat) (h0 : zz_H) (post : Int32 → zz_H → Prop) : Prop :=
  zz_sto h0 (a + 1) (va_cpy (h0 (b + 1)) (h0 (a + 1)) (0 : Int32).toNatClampNeg (0 : Int32).toNatClampNeg (8 : Int32).toNatClampNeg) (fun h1 => zz_sto h1 (a + 2) (va_cpy (h1 (b + 2)) (h1 (a + 2)) (0 : Int32).toNatClampNeg (0 : Int32).toNatClampNeg (8 : Int32).toNatClampNeg) (fun h2 => zz_sto h2 (a + 3) (va_cpy (h2 (b + 3)) (h2 (a + 3)) (0 : Int32).toNatClampNeg (0 : Int32).toNatClampNeg (12 : Int32).toNatClampNeg) (fun h3 => zz_sto h3 (a + 4) (va_cpy (h3 (b + 4)) (h3 (a + 4)) (0 : Int32).toNatClampNeg (0 : Int32).toNatClampNeg (192 : Int32).toNatClampNeg) (fun h4 => zz_sto h4 (a + 5) (va_cpy (h4 (b + 5)) (h4 (a + 5)) (0 : Int32).toNatClampNeg (0 : Int32).toNatClampNeg (6 : Int32).toNatClampNeg) (fun h5 => zz_sto h5 (a + 6) (va_cpy (h5 (b + 6)) (h5 (a + 6)) (0 : Int32).toNatClampNeg (0 : Int32).toNatClampNeg (6 : Int32).toNatClampNeg) (fun h6 => zz_sto h6 (a + 7) (va_cpy (h6 (b + 7)) (h6 (a + 7)) (0 : Int32).toNatClampNeg (0 : Int32).toNatClampNeg (10 : Int32).toNatClampNeg) (fun h7 => zz_sto h7 a (upd (h7 a) 7 (h7 b 7)) (fun h8 => zz_sto h8 a (upd (h8 a) 8 (h8 b 8)) (fun h9 => zz_sto h9 a (upd (h9 a) 9 (h9 b 9)) (fun h10 => post 0 h10))))))))))
set_option maxRecDepth 20000 in
set_option maxHeartbeats 4000000 in
theorem ctX0_takeFrom (a : Nat) (b : Nat) (ha : zz_pp a) (hb : zz_pp b) (h0 : zz_H) (post : Int32 → zz_H → Prop) (hw : wX0_takeFrom a b h0 post) : zz_Ct zz_C 1 yX0_takeFrom cX0_takeFrom 2 none [.ref a, .ref b] h0 post := by
  refine zz_ct (L := [.ref a, .ref b]) (by decide +kernel) (Nat.le_of_ble_eq_true rfl) (fun ad q hq => hq) ?_
  show zz_Go zz_C 1 cX0_takeFrom RX0 2 none post 0 [] [.ref a, .ref b] h0
  unfold wX0_takeFrom at hw
  refine zr_aload_n dX0_takeFrom_0 rfl rfl ?_
  refine zr_getR zz_cX0 (zz_ppO hb) 0 (by decide) rfl zf_X0_9 dX0_takeFrom_1 ?_
  refine zr_iconst dX0_takeFrom_4 zqk_0 ?_
  refine zr_aload_n dX0_takeFrom_5 rfl rfl ?_
  refine zr_getR zz_cX0 (zz_ppO ha) 0 (by decide) rfl zf_X0_9 dX0_takeFrom_6 ?_
  refine zr_iconst dX0_takeFrom_9 zqk_0 ?_
  refine zr_bipush dX0_takeFrom_10 zbk_8 ?_
  refine zr_acopy (zz_ppA0 hb) (zz_ppA0 ha) (by decide) (by decide) (by decide) (by decide) (by decide) zm_X0_49 zv_arraycopyName zt_arraycopyName zn_J10 (by decide) (Nat.le_of_ble_eq_true rfl) dX0_takeFrom_12 hw (fun h1 hw => ?_)
  refine zr_aload_n dX0_takeFrom_15 rfl rfl ?_
  refine zr_getR zz_cX0 (zz_ppO hb) 1 (by decide) rfl zf_X0_15 dX0_takeFrom_16 ?_
  refine zr_iconst dX0_takeFrom_19 zqk_0 ?_
  refine zr_aload_n dX0_takeFrom_20 rfl rfl ?_
  refine zr_getR zz_cX0 (zz_ppO ha) 1 (by decide) rfl zf_X0_15 dX0_takeFrom_21 ?_
  refine zr_iconst dX0_takeFrom_24 zqk_0 ?_
  refine zr_bipush dX0_takeFrom_25 zbk_8 ?_
  refine zr_acopy (zz_ppA1 hb) (zz_ppA1 ha) (by decide) (by decide) (by decide) (by decide) (by decide) zm_X0_49 zv_arraycopyName zt_arraycopyName zn_J10 (by decide) (Nat.le_of_ble_eq_true rfl) dX0_takeFrom_27 hw (fun h2 hw => ?_)
  refine zr_aload_n dX0_takeFrom_30 rfl rfl ?_
  refine zr_getR zz_cX0 (zz_ppO hb) 2 (by decide) rfl zf_X0_18 dX0_takeFrom_31 ?_
  refine zr_iconst dX0_takeFrom_34 zqk_0 ?_
  refine zr_aload_n dX0_takeFrom_35 rfl rfl ?_
  refine zr_getR zz_cX0 (zz_ppO ha) 2 (by decide) rfl zf_X0_18 dX0_takeFrom_36 ?_
  refine zr_iconst dX0_takeFrom_39 zqk_0 ?_
  refine zr_bipush dX0_takeFrom_40 zbk_12 ?_
  refine zr_acopy (zz_ppA2 hb) (zz_ppA2 ha) (by decide) (by decide) (by decide) (by decide) (by decide) zm_X0_49 zv_arraycopyName zt_arraycopyName zn_J10 (by decide) (Nat.le_of_ble_eq_true rfl) dX0_takeFrom_42 hw (fun h3 hw => ?_)
  refine zr_aload_n dX0_takeFrom_45 rfl rfl ?_
  refine zr_getR zz_cX0 (zz_ppO hb) 3 (by decide) rfl zf_X0_21 dX0_takeFrom_46 ?_
  refine zr_iconst dX0_takeFrom_49 zqk_0 ?_
  refine zr_aload_n dX0_takeFrom_50 rfl rfl ?_
  refine zr_getR zz_cX0 (zz_ppO ha) 3 (by decide) rfl zf_X0_21 dX0_takeFrom_51 ?_
  refine zr_iconst dX0_takeFrom_54 zqk_0 ?_
  refine zr_sipush dX0_takeFrom_55 zhk_192 ?_
  refine zr_acopy (zz_ppA3 hb) (zz_ppA3 ha) (by decide) (by decide) (by decide) (by decide) (by decide) zm_X0_49 zv_arraycopyName zt_arraycopyName zn_J10 (by decide) (Nat.le_of_ble_eq_true rfl) dX0_takeFrom_58 hw (fun h4 hw => ?_)
  refine zr_aload_n dX0_takeFrom_61 rfl rfl ?_
  refine zr_getR zz_cX0 (zz_ppO hb) 4 (by decide) rfl zf_X0_24 dX0_takeFrom_62 ?_
  refine zr_iconst dX0_takeFrom_65 zqk_0 ?_
  refine zr_aload_n dX0_takeFrom_66 rfl rfl ?_
  refine zr_getR zz_cX0 (zz_ppO ha) 4 (by decide) rfl zf_X0_24 dX0_takeFrom_67 ?_
  refine zr_iconst dX0_takeFrom_70 zqk_0 ?_
  refine zr_bipush dX0_takeFrom_71 zbk_6 ?_
  refine zr_acopy (zz_ppA4 hb) (zz_ppA4 ha) (by decide) (by decide) (by decide) (by decide) (by decide) zm_X0_49 zv_arraycopyName zt_arraycopyName zn_J10 (by decide) (Nat.le_of_ble_eq_true rfl) dX0_takeFrom_73 hw (fun h5 hw => ?_)
  refine zr_aload_n dX0_takeFrom_76 rfl rfl ?_
  refine zr_getR zz_cX0 (zz_ppO hb) 5 (by decide) rfl zf_X0_27 dX0_takeFrom_77 ?_
  refine zr_iconst dX0_takeFrom_80 zqk_0 ?_
  refine zr_aload_n dX0_takeFrom_81 rfl rfl ?_
  refine zr_getR zz_cX0 (zz_ppO ha) 5 (by decide) rfl zf_X0_27 dX0_takeFrom_82 ?_
  refine zr_iconst dX0_takeFrom_85 zqk_0 ?_
  refine zr_bipush dX0_takeFrom_86 zbk_6 ?_
  refine zr_acopy (zz_ppA5 hb) (zz_ppA5 ha) (by decide) (by decide) (by decide) (by decide) (by decide) zm_X0_49 zv_arraycopyName zt_arraycopyName zn_J10 (by decide) (Nat.le_of_ble_eq_true rfl) dX0_takeFrom_88 hw (fun h6 hw => ?_)
  refine zr_aload_n dX0_takeFrom_91 rfl rfl ?_
  refine zr_getR zz_cX0 (zz_ppO hb) 6 (by decide) rfl zf_X0_30 dX0_takeFrom_92 ?_
  refine zr_iconst dX0_takeFrom_95 zqk_0 ?_
  refine zr_aload_n dX0_takeFrom_96 rfl rfl ?_
  refine zr_getR zz_cX0 (zz_ppO ha) 6 (by decide) rfl zf_X0_30 dX0_takeFrom_97 ?_
  refine zr_iconst dX0_takeFrom_100 zqk_0 ?_
  refine zr_bipush dX0_takeFrom_101 zbk_10 ?_
  refine zr_acopy (zz_ppA6 hb) (zz_ppA6 ha) (by decide) (by decide) (by decide) (by decide) (by decide) zm_X0_49 zv_arraycopyName zt_arraycopyName zn_J10 (by decide) (Nat.le_of_ble_eq_true rfl) dX0_takeFrom_103 hw (fun h7 hw => ?_)
  refine zr_aload_n dX0_takeFrom_106 rfl rfl ?_
  refine zr_aload_n dX0_takeFrom_107 rfl rfl ?_
  refine zr_getI zz_cX0 (zz_ppO hb) 7 (by decide) rfl zf_X0_33 dX0_takeFrom_108 ?_
  refine zr_putI zz_cX0 (zz_ppO ha) 7 (by decide) rfl rfl rfl rfl rfl zf_X0_33 dX0_takeFrom_111 hw (fun h8 hw => ?_)
  refine zr_aload_n dX0_takeFrom_114 rfl rfl ?_
  refine zr_aload_n dX0_takeFrom_115 rfl rfl ?_
  refine zr_getI zz_cX0 (zz_ppO hb) 8 (by decide) rfl zf_X0_37 dX0_takeFrom_116 ?_
  refine zr_putI zz_cX0 (zz_ppO ha) 8 (by decide) rfl rfl rfl rfl rfl zf_X0_37 dX0_takeFrom_119 hw (fun h9 hw => ?_)
  refine zr_aload_n dX0_takeFrom_122 rfl rfl ?_
  refine zr_aload_n dX0_takeFrom_123 rfl rfl ?_
  refine zr_getI zz_cX0 (zz_ppO hb) 9 (by decide) rfl zf_X0_40 dX0_takeFrom_124 ?_
  refine zr_putI zz_cX0 (zz_ppO ha) 9 (by decide) rfl rfl rfl rfl rfl zf_X0_40 dX0_takeFrom_127 hw (fun h10 hw => ?_)
  exact zr_vret rfl dX0_takeFrom_130 hw
def wX4_spotOfPoint (p1 : Int32) (p2 : Int32) (p3 : Int32) (h0 : zz_H) (post : Int32 → Prop) : Prop :=
  post ((((p1 * (8 : Int32)) + p2) * (2 : Int32)) + p3)
set_option maxRecDepth 20000 in
set_option maxHeartbeats 4000000 in
theorem ctX4_spotOfPoint (p1 : Int32) (p2 : Int32) (p3 : Int32) (h0 : zz_H) (post : Int32 → Prop) (hw : wX4_spotOfPoint p1 p2 p3 h0 post) : zz_Ct zz_C 0 yX4_spotOfPoint cX4_spotOfPoint 3 (some .int) [.int p1, .int p2, .int p3] h0 (zz_pu h0 post) := by
  refine zz_ct (L := [.int p1, .int p2, .int p3]) (by decide +kernel) (Nat.le_of_ble_eq_true rfl) (fun ad q hq => hq) ?_
  show zz_Go zz_C 0 cX4_spotOfPoint RX4 3 (some .int) (zz_pu h0 post) 0 [] [.int p1, .int p2, .int p3] h0
  unfold wX4_spotOfPoint at hw
  refine zr_iload_n dX4_spotOfPoint_0 rfl rfl ?_
  refine zr_bipush dX4_spotOfPoint_1 zbk_8 ?_
  refine zr_imul dX4_spotOfPoint_3 ?_
  refine zr_iload_n dX4_spotOfPoint_4 rfl rfl ?_
  refine zr_iadd dX4_spotOfPoint_5 ?_
  refine zr_iconst dX4_spotOfPoint_6 zqk_2 ?_
  refine zr_imul dX4_spotOfPoint_7 ?_
  refine zr_iload_n dX4_spotOfPoint_8 rfl rfl ?_
  refine zr_iadd dX4_spotOfPoint_9 ?_
  exact zr_ret rfl rfl dX4_spotOfPoint_10 ⟨rfl, hw⟩
def wX0_setWorth_b20 (a : Nat) (p1 : Int32) (p2 : Int32) (x2 : Int32) (K4 : Int32 × zz_H → Prop) (K7 : Int32 × zz_H → Prop) (x5 : Int32) (h6 : zz_H) : Prop :=
  (((2 : Int32) ≤ x5) → (K4 ((x2 + 1), h6))) ∧ ((¬ (2 : Int32) ≤ x5) → (wX4_spotOfPoint x2 p1 x5 h6 (fun r8 => vp_in r8 192 ∧ (vp_in r8 192 ∧ zz_sto h6 (a + 4) (upd (h6 (a + 4)) r8.toNatClampNeg (zz_min (h6 (a + 4) r8.toNatClampNeg) p2)) (fun h9 => K7 ((x5 + 1), h9))))))
def wX0_setWorth_b9 (a : Nat) (p1 : Int32) (p2 : Int32) (post : Int32 → zz_H → Prop) (K4 : Int32 × zz_H → Prop) (x2 : Int32) (h3 : zz_H) : Prop :=
  (((h3 a 7) ≤ x2) → (post 0 h3)) ∧ ((¬ (h3 a 7) ≤ x2) → (∃ t9, zz_lp (fun K (s : Int32 × zz_H) => wX0_setWorth_b20 a p1 p2 x2 K4 K s.1 s.2) t9 ((0 : Int32), h3)))
def wX0_setWorth (a : Nat) (p1 : Int32) (p2 : Int32) (h0 : zz_H) (post : Int32 → zz_H → Prop) : Prop :=
  vp_in p1 8 ∧ zz_sto h0 (a + 1) (upd (h0 (a + 1)) p1.toNatClampNeg p2) (fun h1 => ∃ t9, zz_lp (fun K (s : Int32 × zz_H) => wX0_setWorth_b9 a p1 p2 post K s.1 s.2) t9 ((0 : Int32), h1))
set_option maxRecDepth 20000 in
set_option maxHeartbeats 4000000 in
theorem ctX0_setWorth (a : Nat) (p1 : Int32) (p2 : Int32) (ha : zz_pp a) (h0 : zz_H) (post : Int32 → zz_H → Prop) (hw : wX0_setWorth a p1 p2 h0 post) : zz_Ct zz_C 1 yX0_setWorth cX0_setWorth 6 none [.ref a, .int p1, .int p2] h0 post := by
  refine zz_ct (L := [.ref a, .int p1, .int p2, .null, .null, .null]) (by decide +kernel) (Nat.le_of_ble_eq_true rfl) (fun ad q hq => hq) ?_
  show zz_Go zz_C 1 cX0_setWorth RX0 6 none post 0 [] [.ref a, .int p1, .int p2, .null, .null, .null] h0
  unfold wX0_setWorth at hw
  refine zr_aload_n dX0_setWorth_0 rfl rfl ?_
  refine zr_getR zz_cX0 (zz_ppO ha) 0 (by decide) rfl zf_X0_9 dX0_setWorth_1 ?_
  refine zr_iload_n dX0_setWorth_4 rfl rfl ?_
  refine zr_iload_n dX0_setWorth_5 rfl rfl ?_
  obtain ⟨hi, hw⟩ := hw
  refine zr_iast (zz_ppA0 ha) hi rfl dX0_setWorth_6 hw (fun h1 hw => ?_)
  refine zr_iconst dX0_setWorth_7 zqk_0 ?_
  refine zr_istore_n [.ref a, .int p1, .int p2, .int (0 : Int32), .null, .null] dX0_setWorth_8 rfl (by decide) rfl rfl ?_
  obtain ⟨t9, hw⟩ := hw
  have step9 : ∀ (K4 : Int32 × zz_H → Prop), (∀ (x2 : Int32) (h3 : zz_H), K4 (x2, h3) → zz_Go zz_C 1 cX0_setWorth RX0 6 none post 9 [] [.ref a, .int p1, .int p2, .int x2, .null, .null] h3) → ∀ (x2 : Int32) (h3 : zz_H), wX0_setWorth_b9 a p1 p2 post K4 x2 h3 → zz_Go zz_C 1 cX0_setWorth RX0 6 none post 9 [] [.ref a, .int p1, .int p2, .int x2, .null, .null] h3 := by
    intro K4 ih9 x2 h3 hw
    unfold wX0_setWorth_b9 at hw
    refine zr_iload_n dX0_setWorth_9 rfl rfl ?_
    refine zr_aload_n dX0_setWorth_10 rfl rfl ?_
    refine zr_getI zz_cX0 (zz_ppO ha) 7 (by decide) rfl zf_X0_33 dX0_setWorth_11 ?_
    refine zr_icmp_ge 65 dX0_setWorth_14 (by decide) (fun q => ?_) (fun q => ?_)
    · have hw := hw.1 q
      exact zr_vret rfl dX0_setWorth_65 hw
    · have hw := hw.2 q
      refine zr_iconst dX0_setWorth_17 zqk_0 ?_
      refine zr_istore [.ref a, .int p1, .int p2, .int x2, .int (0 : Int32), .null] dX0_setWorth_18 (by decide) rfl rfl ?_
      obtain ⟨t9, hw⟩ := hw
      have step20 : ∀ (K7 : Int32 × zz_H → Prop), (∀ (x5 : Int32) (h6 : zz_H), K7 (x5, h6) → zz_Go zz_C 1 cX0_setWorth RX0 6 none post 20 [] [.ref a, .int p1, .int p2, .int x2, .int x5, .null] h6) → ∀ (x5 : Int32) (h6 : zz_H), wX0_setWorth_b20 a p1 p2 x2 K4 K7 x5 h6 → zz_Go zz_C 1 cX0_setWorth RX0 6 none post 20 [] [.ref a, .int p1, .int p2, .int x2, .int x5, .null] h6 := by
        intro K7 ih20 x5 h6 hw
        unfold wX0_setWorth_b20 at hw
        refine zr_iload dX0_setWorth_20 rfl ?_
        refine zr_iconst dX0_setWorth_22 zqk_2 ?_
        refine zr_icmp_ge 59 dX0_setWorth_23 (by decide) (fun q => ?_) (fun q => ?_)
        · have hw := hw.1 q
          refine zr_iinc (x2 + 1) [.ref a, .int p1, .int p2, .int (x2 + 1), .int x5, .null] dX0_setWorth_59 rfl (zok_1 _) (by decide) rfl rfl ?_
          refine zr_goto 9 dX0_setWorth_62 (by decide) ?_
          refine zr_sub [.ref a, .int p1, .int p2, .int (x2 + 1), .null, .null] ⟨Or.inr rfl, ⟨Or.inr rfl, ⟨Or.inr rfl, ⟨Or.inr rfl, ⟨Or.inl rfl, ⟨Or.inl rfl, trivial⟩⟩⟩⟩⟩⟩ ?_
          exact ih9 _ _ hw
        · have hw := hw.2 q
          refine zr_iload_n dX0_setWorth_26 rfl rfl ?_
          refine zr_iload_n dX0_setWorth_27 rfl rfl ?_
          refine zr_iload dX0_setWorth_28 rfl ?_
          refine zr_pNi (ctX4_spotOfPoint x2 p1 x5 h6 _ hw) zy_X4_spotOfPoint (i := 55) (host := RX4) (by decide) (by decide) rfl rfl (Nat.le_of_ble_eq_true rfl) dX0_setWorth_30 (fun r8 hw => ?_)
          refine zr_istore [.ref a, .int p1, .int p2, .int x2, .int x5, .int r8] dX0_setWorth_33 (by decide) rfl rfl ?_
          refine zr_aload_n dX0_setWorth_35 rfl rfl ?_
          refine zr_getR zz_cX0 (zz_ppO ha) 3 (by decide) rfl zf_X0_21 dX0_setWorth_36 ?_
          refine zr_iload dX0_setWorth_39 rfl ?_
          refine zr_aload_n dX0_setWorth_41 rfl rfl ?_
          refine zr_getR zz_cX0 (zz_ppO ha) 3 (by decide) rfl zf_X0_21 dX0_setWorth_42 ?_
          refine zr_iload dX0_setWorth_45 rfl ?_
          obtain ⟨hi, hw⟩ := hw
          refine zr_iald (zz_ppA3 ha) hi rfl dX0_setWorth_47 ?_
          refine zr_iload_n dX0_setWorth_48 rfl rfl ?_
          refine zr_min zm_X0_59 zt_Math_min_name zn_J9 zc_Math_min_name (by decide) (Nat.le_of_ble_eq_true rfl) dX0_setWorth_49 ?_
          obtain ⟨hi, hw⟩ := hw
          refine zr_iast (zz_ppA3 ha) hi rfl dX0_setWorth_52 hw (fun h9 hw => ?_)
          refine zr_iinc (x5 + 1) [.ref a, .int p1, .int p2, .int x2, .int (x5 + 1), .int r8] dX0_setWorth_53 rfl (zok_1 _) (by decide) rfl rfl ?_
          refine zr_goto 20 dX0_setWorth_56 (by decide) ?_
          refine zr_sub [.ref a, .int p1, .int p2, .int x2, .int (x5 + 1), .null] ⟨Or.inr rfl, ⟨Or.inr rfl, ⟨Or.inr rfl, ⟨Or.inr rfl, ⟨Or.inr rfl, ⟨Or.inl rfl, trivial⟩⟩⟩⟩⟩⟩ ?_
          exact ih20 _ _ hw
      have key20 : ∀ (t9 : Nat) (x5 : Int32) (h6 : zz_H), zz_lp (fun K (s : Int32 × zz_H) => wX0_setWorth_b20 a p1 p2 x2 K4 K s.1 s.2) t9 (x5, h6) → zz_Go zz_C 1 cX0_setWorth RX0 6 none post 20 [] [.ref a, .int p1, .int p2, .int x2, .int x5, .null] h6 := by
        intro t9
        induction t9 with
        | zero => intro x5 h6 hw; exact hw.elim
        | succ t9 ih => intro x5 h6 hw; exact step20 _ ih _ _ hw
      exact key20 t9 _ _ hw
  have key9 : ∀ (t9 : Nat) (x2 : Int32) (h3 : zz_H), zz_lp (fun K (s : Int32 × zz_H) => wX0_setWorth_b9 a p1 p2 post K s.1 s.2) t9 (x2, h3) → zz_Go zz_C 1 cX0_setWorth RX0 6 none post 9 [] [.ref a, .int p1, .int p2, .int x2, .null, .null] h3 := by
    intro t9
    induction t9 with
    | zero => intro x2 h3 hw; exact hw.elim
    | succ t9 ih => intro x2 h3 hw; exact step9 _ ih _ _ hw
  exact key9 t9 _ _ hw
def wX0_setBoth_b3 (a : Nat) (p1 : Int32) (p2 : Int32) (p3 : Int32) (post : Int32 → zz_H → Prop) (K3 : Int32 × zz_H → Prop) (x1 : Int32) (h2 : zz_H) : Prop :=
  (((2 : Int32) ≤ x1) → (post 0 h2)) ∧ ((¬ (2 : Int32) ≤ x1) → (wX4_spotOfPoint p1 p2 x1 h2 (fun r4 => vp_in r4 192 ∧ zz_sto h2 (a + 4) (upd (h2 (a + 4)) r4.toNatClampNeg p3) (fun h5 => K3 ((x1 + 1), h5)))))
def wX0_setBoth (a : Nat) (p1 : Int32) (p2 : Int32) (p3 : Int32) (h0 : zz_H) (post : Int32 → zz_H → Prop) : Prop :=
  ∃ t9, zz_lp (fun K (s : Int32 × zz_H) => wX0_setBoth_b3 a p1 p2 p3 post K s.1 s.2) t9 ((0 : Int32), h0)
set_option maxRecDepth 20000 in
set_option maxHeartbeats 4000000 in
theorem ctX0_setBoth (a : Nat) (p1 : Int32) (p2 : Int32) (p3 : Int32) (ha : zz_pp a) (h0 : zz_H) (post : Int32 → zz_H → Prop) (hw : wX0_setBoth a p1 p2 p3 h0 post) : zz_Ct zz_C 1 yX0_setBoth cX0_setBoth 5 none [.ref a, .int p1, .int p2, .int p3] h0 post := by
  refine zz_ct (L := [.ref a, .int p1, .int p2, .int p3, .null]) (by decide +kernel) (Nat.le_of_ble_eq_true rfl) (fun ad q hq => hq) ?_
  show zz_Go zz_C 1 cX0_setBoth RX0 5 none post 0 [] [.ref a, .int p1, .int p2, .int p3, .null] h0
  unfold wX0_setBoth at hw
  refine zr_iconst dX0_setBoth_0 zqk_0 ?_
  refine zr_istore [.ref a, .int p1, .int p2, .int p3, .int (0 : Int32)] dX0_setBoth_1 (by decide) rfl rfl ?_
  obtain ⟨t9, hw⟩ := hw
  have step3 : ∀ (K3 : Int32 × zz_H → Prop), (∀ (x1 : Int32) (h2 : zz_H), K3 (x1, h2) → zz_Go zz_C 1 cX0_setBoth RX0 5 none post 3 [] [.ref a, .int p1, .int p2, .int p3, .int x1] h2) → ∀ (x1 : Int32) (h2 : zz_H), wX0_setBoth_b3 a p1 p2 p3 post K3 x1 h2 → zz_Go zz_C 1 cX0_setBoth RX0 5 none post 3 [] [.ref a, .int p1, .int p2, .int p3, .int x1] h2 := by
    intro K3 ih3 x1 h2 hw
    unfold wX0_setBoth_b3 at hw
    refine zr_iload dX0_setBoth_3 rfl ?_
    refine zr_iconst dX0_setBoth_5 zqk_2 ?_
    refine zr_icmp_ge 28 dX0_setBoth_6 (by decide) (fun q => ?_) (fun q => ?_)
    · have hw := hw.1 q
      exact zr_vret rfl dX0_setBoth_28 hw
    · have hw := hw.2 q
      refine zr_aload_n dX0_setBoth_9 rfl rfl ?_
      refine zr_getR zz_cX0 (zz_ppO ha) 3 (by decide) rfl zf_X0_21 dX0_setBoth_10 ?_
      refine zr_iload_n dX0_setBoth_13 rfl rfl ?_
      refine zr_iload_n dX0_setBoth_14 rfl rfl ?_
      refine zr_iload dX0_setBoth_15 rfl ?_
      refine zr_pNi (ctX4_spotOfPoint p1 p2 x1 h2 _ hw) zy_X4_spotOfPoint (i := 55) (host := RX4) (by decide) (by decide) rfl rfl (Nat.le_of_ble_eq_true rfl) dX0_setBoth_17 (fun r4 hw => ?_)
      refine zr_iload_n dX0_setBoth_20 rfl rfl ?_
      obtain ⟨hi, hw⟩ := hw
      refine zr_iast (zz_ppA3 ha) hi rfl dX0_setBoth_21 hw (fun h5 hw => ?_)
      refine zr_iinc (x1 + 1) [.ref a, .int p1, .int p2, .int p3, .int (x1 + 1)] dX0_setBoth_22 rfl (zok_1 _) (by decide) rfl rfl ?_
      refine zr_goto 3 dX0_setBoth_25 (by decide) ?_
      exact ih3 _ _ hw
  have key3 : ∀ (t9 : Nat) (x1 : Int32) (h2 : zz_H), zz_lp (fun K (s : Int32 × zz_H) => wX0_setBoth_b3 a p1 p2 p3 post K s.1 s.2) t9 (x1, h2) → zz_Go zz_C 1 cX0_setBoth RX0 5 none post 3 [] [.ref a, .int p1, .int p2, .int p3, .int x1] h2 := by
    intro t9
    induction t9 with
    | zero => intro x1 h2 hw; exact hw.elim
    | succ t9 ih => intro x1 h2 hw; exact step3 _ ih _ _ hw
  exact key3 t9 _ _ hw
def wX0_addPupil_j26 (a : Nat) (p1 : Int32) (h0 : zz_H) (post : Int32 → zz_H → Prop) (h2 : zz_H) : Prop :=
  vp_in (h0 a 7) 12 ∧ zz_sto h2 (a + 3) (upd (h2 (a + 3)) (h0 a 7).toNatClampNeg p1) (fun h4 => zz_sto h4 a (upd (h4 a) 7 ((h4 a 7) + (1 : Int32))) (fun h5 => post (h0 a 7) h5))
def wX0_addPupil_b7 (a : Nat) (p1 : Int32) (h0 : zz_H) (post : Int32 → zz_H → Prop) (K3 : Int32 × zz_H → Prop) (x1 : Int32) (h2 : zz_H) : Prop :=
  (((8 : Int32) ≤ x1) → (wX0_addPupil_j26 a p1 h0 post h2)) ∧ ((¬ (8 : Int32) ≤ x1) → (wX0_setBoth a (h0 a 7) x1 (0 : Int32) h2 (fun _ h6 => K3 ((x1 + 1), h6))))
def wX0_addPupil (a : Nat) (p1 : Int32) (h0 : zz_H) (post : Int32 → zz_H → Prop) : Prop :=
  ∃ t9, zz_lp (fun K (s : Int32 × zz_H) => wX0_addPupil_b7 a p1 h0 post K s.1 s.2) t9 ((0 : Int32), h0)
set_option maxRecDepth 20000 in
set_option maxHeartbeats 4000000 in
theorem ctX0_addPupil (a : Nat) (p1 : Int32) (ha : zz_pp a) (h0 : zz_H) (post : Int32 → zz_H → Prop) (hw : wX0_addPupil a p1 h0 post) : zz_Ct zz_C 2 yX0_addPupil cX0_addPupil 4 (some .int) [.ref a, .int p1] h0 post := by
  refine zz_ct (L := [.ref a, .int p1, .null, .null]) (by decide +kernel) (Nat.le_of_ble_eq_true rfl) (fun ad q hq => hq) ?_
  show zz_Go zz_C 2 cX0_addPupil RX0 4 (some .int) post 0 [] [.ref a, .int p1, .null, .null] h0
  unfold wX0_addPupil at hw
  refine zr_aload_n dX0_addPupil_0 rfl rfl ?_
  refine zr_getI zz_cX0 (zz_ppO ha) 7 (by decide) rfl zf_X0_33 dX0_addPupil_1 ?_
  refine zr_istore_n [.ref a, .int p1, .int (h0 a 7), .null] dX0_addPupil_4 rfl (by decide) rfl rfl ?_
  refine zr_iconst dX0_addPupil_5 zqk_0 ?_
  refine zr_istore_n [.ref a, .int p1, .int (h0 a 7), .int (0 : Int32)] dX0_addPupil_6 rfl (by decide) rfl rfl ?_
  obtain ⟨t9, hw⟩ := hw
  have step7 : ∀ (K3 : Int32 × zz_H → Prop), (∀ (x1 : Int32) (h2 : zz_H), K3 (x1, h2) → zz_Go zz_C 2 cX0_addPupil RX0 4 (some .int) post 7 [] [.ref a, .int p1, .int (h0 a 7), .int x1] h2) → ∀ (x1 : Int32) (h2 : zz_H), wX0_addPupil_b7 a p1 h0 post K3 x1 h2 → zz_Go zz_C 2 cX0_addPupil RX0 4 (some .int) post 7 [] [.ref a, .int p1, .int (h0 a 7), .int x1] h2 := by
    intro K3 ih7 x1 h2 hw
    unfold wX0_addPupil_b7 at hw
    refine zr_iload_n dX0_addPupil_7 rfl rfl ?_
    refine zr_bipush dX0_addPupil_8 zbk_8 ?_
    have j26 : wX0_addPupil_j26 a p1 h0 post h2 → zz_Go zz_C 2 cX0_addPupil RX0 4 (some .int) post 26 [] [.ref a, .int p1, .int (h0 a 7), .null] h2 := by
      intro hw
      unfold wX0_addPupil_j26 at hw
      refine zr_aload_n dX0_addPupil_26 rfl rfl ?_
      refine zr_getR zz_cX0 (zz_ppO ha) 2 (by decide) rfl zf_X0_18 dX0_addPupil_27 ?_
      refine zr_iload_n dX0_addPupil_30 rfl rfl ?_
      refine zr_iload_n dX0_addPupil_31 rfl rfl ?_
      obtain ⟨hi, hw⟩ := hw
      refine zr_iast (zz_ppA2 ha) hi rfl dX0_addPupil_32 hw (fun h4 hw => ?_)
      refine zr_aload_n dX0_addPupil_33 rfl rfl ?_
      refine zr_dup dX0_addPupil_34 rfl ?_
      refine zr_getI zz_cX0 (zz_ppO ha) 7 (by decide) rfl zf_X0_33 dX0_addPupil_35 ?_
      refine zr_iconst dX0_addPupil_38 zqk_1 ?_
      refine zr_iadd dX0_addPupil_39 ?_
      refine zr_putI zz_cX0 (zz_ppO ha) 7 (by decide) rfl rfl rfl rfl rfl zf_X0_33 dX0_addPupil_40 hw (fun h5 hw => ?_)
      refine zr_iload_n dX0_addPupil_43 rfl rfl ?_
      exact zr_ret rfl rfl dX0_addPupil_44 hw
    refine zr_icmp_ge 26 dX0_addPupil_10 (by decide) (fun q => ?_) (fun q => ?_)
    · have hw := hw.1 q
      refine zr_sub [.ref a, .int p1, .int (h0 a 7), .null] ⟨Or.inr rfl, ⟨Or.inr rfl, ⟨Or.inr rfl, ⟨Or.inl rfl, trivial⟩⟩⟩⟩ ?_
      exact j26 hw
    · have hw := hw.2 q
      refine zr_aload_n dX0_addPupil_13 rfl rfl ?_
      refine zr_iload_n dX0_addPupil_14 rfl rfl ?_
      refine zr_iload_n dX0_addPupil_15 rfl rfl ?_
      refine zr_iconst dX0_addPupil_16 zqk_0 ?_
      refine zr_callVv zz_cX0 (zz_ppO ha) (ctX0_setBoth a (h0 a 7) x1 (0 : Int32) ha h2 _ hw) zy_X0_setBoth zm_X0_65 (by decide) rfl rfl (Nat.le_of_ble_eq_true rfl) dX0_addPupil_17 (fun h6 hw => ?_)
      refine zr_iinc (x1 + 1) [.ref a, .int p1, .int (h0 a 7), .int (x1 + 1)] dX0_addPupil_20 rfl (zok_1 _) (by decide) rfl rfl ?_
      refine zr_goto 7 dX0_addPupil_23 (by decide) ?_
      exact ih7 _ _ hw
  have key7 : ∀ (t9 : Nat) (x1 : Int32) (h2 : zz_H), zz_lp (fun K (s : Int32 × zz_H) => wX0_addPupil_b7 a p1 h0 post K s.1 s.2) t9 (x1, h2) → zz_Go zz_C 2 cX0_addPupil RX0 4 (some .int) post 7 [] [.ref a, .int p1, .int (h0 a 7), .int x1] h2 := by
    intro t9
    induction t9 with
    | zero => intro x1 h2 hw; exact hw.elim
    | succ t9 ih => intro x1 h2 hw; exact step7 _ ih _ _ hw
  exact key7 t9 _ _ hw
def wX0_addCurve (a : Nat) (p1 : Int32) (p2 : Int32) (h0 : zz_H) (post : Int32 → zz_H → Prop) : Prop :=
  vp_in (h0 a 8) 6 ∧ zz_sto h0 (a + 5) (upd (h0 (a + 5)) (h0 a 8).toNatClampNeg p1) (fun h1 => vp_in (h0 a 8) 6 ∧ zz_sto h1 (a + 6) (upd (h1 (a + 6)) (h0 a 8).toNatClampNeg p2) (fun h2 => zz_sto h2 a (upd (h2 a) 8 ((h2 a 8) + (1 : Int32))) (fun h3 => post (h0 a 8) h3)))
set_option maxRecDepth 20000 in
set_option maxHeartbeats 4000000 in
theorem ctX0_addCurve (a : Nat) (p1 : Int32) (p2 : Int32) (ha : zz_pp a) (h0 : zz_H) (post : Int32 → zz_H → Prop) (hw : wX0_addCurve a p1 p2 h0 post) : zz_Ct zz_C 0 yX0_addCurve cX0_addCurve 4 (some .int) [.ref a, .int p1, .int p2] h0 post := by
  refine zz_ct (L := [.ref a, .int p1, .int p2, .null]) (by decide +kernel) (Nat.le_of_ble_eq_true rfl) (fun ad q hq => hq) ?_
  show zz_Go zz_C 0 cX0_addCurve RX0 4 (some .int) post 0 [] [.ref a, .int p1, .int p2, .null] h0
  unfold wX0_addCurve at hw
  refine zr_aload_n dX0_addCurve_0 rfl rfl ?_
  refine zr_getI zz_cX0 (zz_ppO ha) 8 (by decide) rfl zf_X0_37 dX0_addCurve_1 ?_
  refine zr_istore_n [.ref a, .int p1, .int p2, .int (h0 a 8)] dX0_addCurve_4 rfl (by decide) rfl rfl ?_
  refine zr_aload_n dX0_addCurve_5 rfl rfl ?_
  refine zr_getR zz_cX0 (zz_ppO ha) 4 (by decide) rfl zf_X0_24 dX0_addCurve_6 ?_
  refine zr_iload_n dX0_addCurve_9 rfl rfl ?_
  refine zr_iload_n dX0_addCurve_10 rfl rfl ?_
  obtain ⟨hi, hw⟩ := hw
  refine zr_iast (zz_ppA4 ha) hi rfl dX0_addCurve_11 hw (fun h1 hw => ?_)
  refine zr_aload_n dX0_addCurve_12 rfl rfl ?_
  refine zr_getR zz_cX0 (zz_ppO ha) 5 (by decide) rfl zf_X0_27 dX0_addCurve_13 ?_
  refine zr_iload_n dX0_addCurve_16 rfl rfl ?_
  refine zr_iload_n dX0_addCurve_17 rfl rfl ?_
  obtain ⟨hi, hw⟩ := hw
  refine zr_iast (zz_ppA5 ha) hi rfl dX0_addCurve_18 hw (fun h2 hw => ?_)
  refine zr_aload_n dX0_addCurve_19 rfl rfl ?_
  refine zr_dup dX0_addCurve_20 rfl ?_
  refine zr_getI zz_cX0 (zz_ppO ha) 8 (by decide) rfl zf_X0_37 dX0_addCurve_21 ?_
  refine zr_iconst dX0_addCurve_24 zqk_1 ?_
  refine zr_iadd dX0_addCurve_25 ?_
  refine zr_putI zz_cX0 (zz_ppO ha) 8 (by decide) rfl rfl rfl rfl rfl zf_X0_37 dX0_addCurve_26 hw (fun h3 hw => ?_)
  refine zr_iload_n dX0_addCurve_29 rfl rfl ?_
  exact zr_ret rfl rfl dX0_addCurve_30 hw
def wX0_scoreOf (a : Nat) (p1 : Int32) (p2 : Int32) (h0 : zz_H) (post : Int32 → Prop) : Prop :=
  wX4_spotOfPoint p1 p2 (0 : Int32) h0 (fun r1 => vp_in r1 192 ∧ (wX4_spotOfPoint p1 p2 (1 : Int32) h0 (fun r2 => vp_in r2 192 ∧ (post (((h0 (a + 4) r1.toNatClampNeg) + (h0 (a + 4) r2.toNatClampNeg)) / (2 : Int32))))))
set_option maxRecDepth 20000 in
set_option maxHeartbeats 4000000 in
theorem ctX0_scoreOf (a : Nat) (p1 : Int32) (p2 : Int32) (ha : zz_pp a) (h0 : zz_H) (post : Int32 → Prop) (hw : wX0_scoreOf a p1 p2 h0 post) : zz_Ct zz_C 1 yX0_scoreOf cX0_scoreOf 3 (some .int) [.ref a, .int p1, .int p2] h0 (zz_pu h0 post) := by
  refine zz_ct (L := [.ref a, .int p1, .int p2]) (by decide +kernel) (Nat.le_of_ble_eq_true rfl) (fun ad q hq => hq) ?_
  show zz_Go zz_C 1 cX0_scoreOf RX0 3 (some .int) (zz_pu h0 post) 0 [] [.ref a, .int p1, .int p2] h0
  unfold wX0_scoreOf at hw
  refine zr_aload_n dX0_scoreOf_0 rfl rfl ?_
  refine zr_getR zz_cX0 (zz_ppO ha) 3 (by decide) rfl zf_X0_21 dX0_scoreOf_1 ?_
  refine zr_iload_n dX0_scoreOf_4 rfl rfl ?_
  refine zr_iload_n dX0_scoreOf_5 rfl rfl ?_
  refine zr_iconst dX0_scoreOf_6 zqk_0 ?_
  refine zr_pNi (ctX4_spotOfPoint p1 p2 (0 : Int32) h0 _ hw) zy_X4_spotOfPoint (i := 55) (host := RX4) (by decide) (by decide) rfl rfl (Nat.le_of_ble_eq_true rfl) dX0_scoreOf_7 (fun r1 hw => ?_)
  obtain ⟨hi, hw⟩ := hw
  refine zr_iald (zz_ppA3 ha) hi rfl dX0_scoreOf_10 ?_
  refine zr_aload_n dX0_scoreOf_11 rfl rfl ?_
  refine zr_getR zz_cX0 (zz_ppO ha) 3 (by decide) rfl zf_X0_21 dX0_scoreOf_12 ?_
  refine zr_iload_n dX0_scoreOf_15 rfl rfl ?_
  refine zr_iload_n dX0_scoreOf_16 rfl rfl ?_
  refine zr_iconst dX0_scoreOf_17 zqk_1 ?_
  refine zr_pNi (ctX4_spotOfPoint p1 p2 (1 : Int32) h0 _ hw) zy_X4_spotOfPoint (i := 55) (host := RX4) (by decide) (by decide) rfl rfl (Nat.le_of_ble_eq_true rfl) dX0_scoreOf_18 (fun r2 hw => ?_)
  obtain ⟨hi, hw⟩ := hw
  refine zr_iald (zz_ppA3 ha) hi rfl dX0_scoreOf_21 ?_
  refine zr_iadd dX0_scoreOf_22 ?_
  refine zr_iconst dX0_scoreOf_23 zqk_2 ?_
  refine zr_idiv dX0_scoreOf_24 (by decide) ?_
  exact zr_ret rfl rfl dX0_scoreOf_25 ⟨rfl, hw⟩
def wX0_rawOf_b4 (a : Nat) (p1 : Int32) (h0 : zz_H) (post : Int32 → Prop) (K3 : Int32 × Int32 → Prop) (x1 : Int32) (x2 : Int32) : Prop :=
  (((8 : Int32) ≤ x2) → (post x1)) ∧ ((¬ (8 : Int32) ≤ x2) → (wX0_scoreOf a p1 x2 h0 (fun r4 => K3 ((x1 + r4), (x2 + 1)))))
def wX0_rawOf (a : Nat) (p1 : Int32) (h0 : zz_H) (post : Int32 → Prop) : Prop :=
  ∃ t9, zz_lp (fun K (s : Int32 × Int32) => wX0_rawOf_b4 a p1 h0 post K s.1 s.2) t9 ((0 : Int32), (0 : Int32))
set_option maxRecDepth 20000 in
set_option maxHeartbeats 4000000 in
theorem ctX0_rawOf (a : Nat) (p1 : Int32) (ha : zz_pp a) (h0 : zz_H) (post : Int32 → Prop) (hw : wX0_rawOf a p1 h0 post) : zz_Ct zz_C 2 yX0_rawOf cX0_rawOf 4 (some .int) [.ref a, .int p1] h0 (zz_pu h0 post) := by
  refine zz_ct (L := [.ref a, .int p1, .null, .null]) (by decide +kernel) (Nat.le_of_ble_eq_true rfl) (fun ad q hq => hq) ?_
  show zz_Go zz_C 2 cX0_rawOf RX0 4 (some .int) (zz_pu h0 post) 0 [] [.ref a, .int p1, .null, .null] h0
  unfold wX0_rawOf at hw
  refine zr_iconst dX0_rawOf_0 zqk_0 ?_
  refine zr_istore_n [.ref a, .int p1, .int (0 : Int32), .null] dX0_rawOf_1 rfl (by decide) rfl rfl ?_
  refine zr_iconst dX0_rawOf_2 zqk_0 ?_
  refine zr_istore_n [.ref a, .int p1, .int (0 : Int32), .int (0 : Int32)] dX0_rawOf_3 rfl (by decide) rfl rfl ?_
  obtain ⟨t9, hw⟩ := hw
  have step4 : ∀ (K3 : Int32 × Int32 → Prop), (∀ (x1 : Int32) (x2 : Int32), K3 (x1, x2) → zz_Go zz_C 2 cX0_rawOf RX0 4 (some .int) (zz_pu h0 post) 4 [] [.ref a, .int p1, .int x1, .int x2] h0) → ∀ (x1 : Int32) (x2 : Int32), wX0_rawOf_b4 a p1 h0 post K3 x1 x2 → zz_Go zz_C 2 cX0_rawOf RX0 4 (some .int) (zz_pu h0 post) 4 [] [.ref a, .int p1, .int x1, .int x2] h0 := by
    intro K3 ih4 x1 x2 hw
    unfold wX0_rawOf_b4 at hw
    refine zr_iload_n dX0_rawOf_4 rfl rfl ?_
    refine zr_bipush dX0_rawOf_5 zbk_8 ?_
    refine zr_icmp_ge 25 dX0_rawOf_7 (by decide) (fun q => ?_) (fun q => ?_)
    · have hw := hw.1 q
      refine zr_iload_n dX0_rawOf_25 rfl rfl ?_
      exact zr_ret rfl rfl dX0_rawOf_26 ⟨rfl, hw⟩
    · have hw := hw.2 q
      refine zr_iload_n dX0_rawOf_10 rfl rfl ?_
      refine zr_aload_n dX0_rawOf_11 rfl rfl ?_
      refine zr_iload_n dX0_rawOf_12 rfl rfl ?_
      refine zr_iload_n dX0_rawOf_13 rfl rfl ?_
      refine zr_pVi zz_cX0 (zz_ppO ha) (ctX0_scoreOf a p1 x2 ha h0 _ hw) zy_X0_scoreOf zm_X0_69 (by decide) rfl rfl (Nat.le_of_ble_eq_true rfl) dX0_rawOf_14 (fun r4 hw => ?_)
      refine zr_iadd dX0_rawOf_17 ?_
      refine zr_istore_n [.ref a, .int p1, .int (x1 + r4), .int x2] dX0_rawOf_18 rfl (by decide) rfl rfl ?_
      refine zr_iinc (x2 + 1) [.ref a, .int p1, .int (x1 + r4), .int (x2 + 1)] dX0_rawOf_19 rfl (zok_1 _) (by decide) rfl rfl ?_
      refine zr_goto 4 dX0_rawOf_22 (by decide) ?_
      exact ih4 _ _ hw
  have key4 : ∀ (t9 : Nat) (x1 : Int32) (x2 : Int32), zz_lp (fun K (s : Int32 × Int32) => wX0_rawOf_b4 a p1 h0 post K s.1 s.2) t9 (x1, x2) → zz_Go zz_C 2 cX0_rawOf RX0 4 (some .int) (zz_pu h0 post) 4 [] [.ref a, .int p1, .int x1, .int x2] h0 := by
    intro t9
    induction t9 with
    | zero => intro x1 x2 hw; exact hw.elim
    | succ t9 ih => intro x1 x2 hw; exact step4 _ ih _ _ hw
  exact key4 t9 _ _ hw
def wX0_leanIn (a : Nat) (p1 : Int32) (p2 : Int32) (h0 : zz_H) (post : Int32 → Prop) : Prop :=
  wX4_spotOfPoint p1 p2 (1 : Int32) h0 (fun r1 => vp_in r1 192 ∧ (wX4_spotOfPoint p1 p2 (0 : Int32) h0 (fun r2 => vp_in r2 192 ∧ (post ((h0 (a + 4) r1.toNatClampNeg) - (h0 (a + 4) r2.toNatClampNeg))))))
set_option maxRecDepth 20000 in
set_option maxHeartbeats 4000000 in
theorem ctX0_leanIn (a : Nat) (p1 : Int32) (p2 : Int32) (ha : zz_pp a) (h0 : zz_H) (post : Int32 → Prop) (hw : wX0_leanIn a p1 p2 h0 post) : zz_Ct zz_C 1 yX0_leanIn cX0_leanIn 3 (some .int) [.ref a, .int p1, .int p2] h0 (zz_pu h0 post) := by
  refine zz_ct (L := [.ref a, .int p1, .int p2]) (by decide +kernel) (Nat.le_of_ble_eq_true rfl) (fun ad q hq => hq) ?_
  show zz_Go zz_C 1 cX0_leanIn RX0 3 (some .int) (zz_pu h0 post) 0 [] [.ref a, .int p1, .int p2] h0
  unfold wX0_leanIn at hw
  refine zr_aload_n dX0_leanIn_0 rfl rfl ?_
  refine zr_getR zz_cX0 (zz_ppO ha) 3 (by decide) rfl zf_X0_21 dX0_leanIn_1 ?_
  refine zr_iload_n dX0_leanIn_4 rfl rfl ?_
  refine zr_iload_n dX0_leanIn_5 rfl rfl ?_
  refine zr_iconst dX0_leanIn_6 zqk_1 ?_
  refine zr_pNi (ctX4_spotOfPoint p1 p2 (1 : Int32) h0 _ hw) zy_X4_spotOfPoint (i := 55) (host := RX4) (by decide) (by decide) rfl rfl (Nat.le_of_ble_eq_true rfl) dX0_leanIn_7 (fun r1 hw => ?_)
  obtain ⟨hi, hw⟩ := hw
  refine zr_iald (zz_ppA3 ha) hi rfl dX0_leanIn_10 ?_
  refine zr_aload_n dX0_leanIn_11 rfl rfl ?_
  refine zr_getR zz_cX0 (zz_ppO ha) 3 (by decide) rfl zf_X0_21 dX0_leanIn_12 ?_
  refine zr_iload_n dX0_leanIn_15 rfl rfl ?_
  refine zr_iload_n dX0_leanIn_16 rfl rfl ?_
  refine zr_iconst dX0_leanIn_17 zqk_0 ?_
  refine zr_pNi (ctX4_spotOfPoint p1 p2 (0 : Int32) h0 _ hw) zy_X4_spotOfPoint (i := 55) (host := RX4) (by decide) (by decide) rfl rfl (Nat.le_of_ble_eq_true rfl) dX0_leanIn_18 (fun r2 hw => ?_)
  obtain ⟨hi, hw⟩ := hw
  refine zr_iald (zz_ppA3 ha) hi rfl dX0_leanIn_21 ?_
  refine zr_isub dX0_leanIn_22 ?_
  exact zr_ret rfl rfl dX0_leanIn_23 ⟨rfl, hw⟩
def wX0_markersApart_b4 (a : Nat) (p1 : Int32) (h0 : zz_H) (post : Int32 → Prop) (K3 : Int32 × Int32 → Prop) (x1 : Int32) (x2 : Int32) : Prop :=
  (((8 : Int32) ≤ x2) → (post x1)) ∧ ((¬ (8 : Int32) ≤ x2) → (wX0_leanIn a p1 x2 h0 (fun r4 => K3 ((x1 + (zz_abs r4)), (x2 + 1)))))
def wX0_markersApart (a : Nat) (p1 : Int32) (h0 : zz_H) (post : Int32 → Prop) : Prop :=
  ∃ t9, zz_lp (fun K (s : Int32 × Int32) => wX0_markersApart_b4 a p1 h0 post K s.1 s.2) t9 ((0 : Int32), (0 : Int32))
set_option maxRecDepth 20000 in
set_option maxHeartbeats 4000000 in
theorem ctX0_markersApart (a : Nat) (p1 : Int32) (ha : zz_pp a) (h0 : zz_H) (post : Int32 → Prop) (hw : wX0_markersApart a p1 h0 post) : zz_Ct zz_C 2 yX0_markersApart cX0_markersApart 4 (some .int) [.ref a, .int p1] h0 (zz_pu h0 post) := by
  refine zz_ct (L := [.ref a, .int p1, .null, .null]) (by decide +kernel) (Nat.le_of_ble_eq_true rfl) (fun ad q hq => hq) ?_
  show zz_Go zz_C 2 cX0_markersApart RX0 4 (some .int) (zz_pu h0 post) 0 [] [.ref a, .int p1, .null, .null] h0
  unfold wX0_markersApart at hw
  refine zr_iconst dX0_markersApart_0 zqk_0 ?_
  refine zr_istore_n [.ref a, .int p1, .int (0 : Int32), .null] dX0_markersApart_1 rfl (by decide) rfl rfl ?_
  refine zr_iconst dX0_markersApart_2 zqk_0 ?_
  refine zr_istore_n [.ref a, .int p1, .int (0 : Int32), .int (0 : Int32)] dX0_markersApart_3 rfl (by decide) rfl rfl ?_
  obtain ⟨t9, hw⟩ := hw
  have step4 : ∀ (K3 : Int32 × Int32 → Prop), (∀ (x1 : Int32) (x2 : Int32), K3 (x1, x2) → zz_Go zz_C 2 cX0_markersApart RX0 4 (some .int) (zz_pu h0 post) 4 [] [.ref a, .int p1, .int x1, .int x2] h0) → ∀ (x1 : Int32) (x2 : Int32), wX0_markersApart_b4 a p1 h0 post K3 x1 x2 → zz_Go zz_C 2 cX0_markersApart RX0 4 (some .int) (zz_pu h0 post) 4 [] [.ref a, .int p1, .int x1, .int x2] h0 := by
    intro K3 ih4 x1 x2 hw
    unfold wX0_markersApart_b4 at hw
    refine zr_iload_n dX0_markersApart_4 rfl rfl ?_
    refine zr_bipush dX0_markersApart_5 zbk_8 ?_
    refine zr_icmp_ge 28 dX0_markersApart_7 (by decide) (fun q => ?_) (fun q => ?_)
    · have hw := hw.1 q
      refine zr_iload_n dX0_markersApart_28 rfl rfl ?_
      exact zr_ret rfl rfl dX0_markersApart_29 ⟨rfl, hw⟩
    · have hw := hw.2 q
      refine zr_iload_n dX0_markersApart_10 rfl rfl ?_
      refine zr_aload_n dX0_markersApart_11 rfl rfl ?_
      refine zr_iload_n dX0_markersApart_12 rfl rfl ?_
      refine zr_iload_n dX0_markersApart_13 rfl rfl ?_
      refine zr_pVi zz_cX0 (zz_ppO ha) (ctX0_leanIn a p1 x2 ha h0 _ hw) zy_X0_leanIn zm_X0_72 (by decide) rfl rfl (Nat.le_of_ble_eq_true rfl) dX0_markersApart_14 (fun r4 hw => ?_)
      refine zr_abs zm_X0_75 zt_Math_abs_name zn_J9 zc_Math_abs_name (by decide) (Nat.le_of_ble_eq_true rfl) dX0_markersApart_17 ?_
      refine zr_iadd dX0_markersApart_20 ?_
      refine zr_istore_n [.ref a, .int p1, .int (x1 + (zz_abs r4)), .int x2] dX0_markersApart_21 rfl (by decide) rfl rfl ?_
      refine zr_iinc (x2 + 1) [.ref a, .int p1, .int (x1 + (zz_abs r4)), .int (x2 + 1)] dX0_markersApart_22 rfl (zok_1 _) (by decide) rfl rfl ?_
      refine zr_goto 4 dX0_markersApart_25 (by decide) ?_
      exact ih4 _ _ hw
  have key4 : ∀ (t9 : Nat) (x1 : Int32) (x2 : Int32), zz_lp (fun K (s : Int32 × Int32) => wX0_markersApart_b4 a p1 h0 post K s.1 s.2) t9 (x1, x2) → zz_Go zz_C 2 cX0_markersApart RX0 4 (some .int) (zz_pu h0 post) 4 [] [.ref a, .int p1, .int x1, .int x2] h0 := by
    intro t9
    induction t9 with
    | zero => intro x1 x2 hw; exact hw.elim
    | succ t9 ih => intro x1 x2 hw; exact step4 _ ih _ _ hw
  exact key4 t9 _ _ hw
def wX0_commonSet_b4 (a : Nat) (h0 : zz_H) (post : Int32 → Prop) (K3 : Int32 × Int32 → Prop) (x1 : Int32) (x2 : Int32) : Prop :=
  (((8 : Int32) ≤ x2) → (post x1)) ∧ ((¬ (8 : Int32) ≤ x2) → (vp_in x2 8 ∧ ((((h0 (a + 2) x2.toNatClampNeg) < 0) → (K3 (x1, (x2 + 1)))) ∧ ((¬ (h0 (a + 2) x2.toNatClampNeg) < 0) → (K3 ((x1 ||| ((1 : Int32) <<< (x2 &&& 31))), (x2 + 1)))))))
def wX0_commonSet (a : Nat) (h0 : zz_H) (post : Int32 → Prop) : Prop :=
  ∃ t9, zz_lp (fun K (s : Int32 × Int32) => wX0_commonSet_b4 a h0 post K s.1 s.2) t9 ((0 : Int32), (0 : Int32))
set_option maxRecDepth 20000 in
set_option maxHeartbeats 4000000 in
theorem ctX0_commonSet (a : Nat) (ha : zz_pp a) (h0 : zz_H) (post : Int32 → Prop) (hw : wX0_commonSet a h0 post) : zz_Ct zz_C 0 yX0_commonSet cX0_commonSet 3 (some .int) [.ref a] h0 (zz_pu h0 post) := by
  refine zz_ct (L := [.ref a, .null, .null]) (by decide +kernel) (Nat.le_of_ble_eq_true rfl) (fun ad q hq => hq) ?_
  show zz_Go zz_C 0 cX0_commonSet RX0 3 (some .int) (zz_pu h0 post) 0 [] [.ref a, .null, .null] h0
  unfold wX0_commonSet at hw
  refine zr_iconst dX0_commonSet_0 zqk_0 ?_
  refine zr_istore_n [.ref a, .int (0 : Int32), .null] dX0_commonSet_1 rfl (by decide) rfl rfl ?_
  refine zr_iconst dX0_commonSet_2 zqk_0 ?_
  refine zr_istore_n [.ref a, .int (0 : Int32), .int (0 : Int32)] dX0_commonSet_3 rfl (by decide) rfl rfl ?_
  obtain ⟨t9, hw⟩ := hw
  have step4 : ∀ (K3 : Int32 × Int32 → Prop), (∀ (x1 : Int32) (x2 : Int32), K3 (x1, x2) → zz_Go zz_C 0 cX0_commonSet RX0 3 (some .int) (zz_pu h0 post) 4 [] [.ref a, .int x1, .int x2] h0) → ∀ (x1 : Int32) (x2 : Int32), wX0_commonSet_b4 a h0 post K3 x1 x2 → zz_Go zz_C 0 cX0_commonSet RX0 3 (some .int) (zz_pu h0 post) 4 [] [.ref a, .int x1, .int x2] h0 := by
    intro K3 ih4 x1 x2 hw
    unfold wX0_commonSet_b4 at hw
    refine zr_iload_n dX0_commonSet_4 rfl rfl ?_
    refine zr_bipush dX0_commonSet_5 zbk_8 ?_
    refine zr_icmp_ge 31 dX0_commonSet_7 (by decide) (fun q => ?_) (fun q => ?_)
    · have hw := hw.1 q
      refine zr_iload_n dX0_commonSet_31 rfl rfl ?_
      exact zr_ret rfl rfl dX0_commonSet_32 ⟨rfl, hw⟩
    · have hw := hw.2 q
      refine zr_aload_n dX0_commonSet_10 rfl rfl ?_
      refine zr_getR zz_cX0 (zz_ppO ha) 1 (by decide) rfl zf_X0_15 dX0_commonSet_11 ?_
      refine zr_iload_n dX0_commonSet_14 rfl rfl ?_
      obtain ⟨hi, hw⟩ := hw
      refine zr_iald (zz_ppA1 ha) hi rfl dX0_commonSet_15 ?_
      refine zr_if_lt 25 dX0_commonSet_16 (by decide) (fun q => ?_) (fun q => ?_)
      · have hw := hw.1 q
        refine zr_iinc (x2 + 1) [.ref a, .int x1, .int (x2 + 1)] dX0_commonSet_25 rfl (zok_1 _) (by decide) rfl rfl ?_
        refine zr_goto 4 dX0_commonSet_28 (by decide) ?_
        exact ih4 _ _ hw
      · have hw := hw.2 q
        refine zr_iload_n dX0_commonSet_19 rfl rfl ?_
        refine zr_iconst dX0_commonSet_20 zqk_1 ?_
        refine zr_iload_n dX0_commonSet_21 rfl rfl ?_
        refine zr_ishl dX0_commonSet_22 ?_
        refine zr_ior dX0_commonSet_23 ?_
        refine zr_istore_n [.ref a, .int (x1 ||| ((1 : Int32) <<< (x2 &&& 31))), .int x2] dX0_commonSet_24 rfl (by decide) rfl rfl ?_
        refine zr_iinc (x2 + 1) [.ref a, .int (x1 ||| ((1 : Int32) <<< (x2 &&& 31))), .int (x2 + 1)] dX0_commonSet_25 rfl (zok_1 _) (by decide) rfl rfl ?_
        refine zr_goto 4 dX0_commonSet_28 (by decide) ?_
        exact ih4 _ _ hw
  have key4 : ∀ (t9 : Nat) (x1 : Int32) (x2 : Int32), zz_lp (fun K (s : Int32 × Int32) => wX0_commonSet_b4 a h0 post K s.1 s.2) t9 (x1, x2) → zz_Go zz_C 0 cX0_commonSet RX0 3 (some .int) (zz_pu h0 post) 4 [] [.ref a, .int x1, .int x2] h0 := by
    intro t9
    induction t9 with
    | zero => intro x1 x2 hw; exact hw.elim
    | succ t9 ih => intro x1 x2 hw; exact step4 _ ih _ _ hw
  exact key4 t9 _ _ hw
def wX0_spotsInUse_b4 (a : Nat) (h0 : zz_H) (post : Int32 → Prop) (K3 : Int32 × Int32 → Prop) (x1 : Int32) (x2 : Int32) : Prop :=
  (((10 : Int32) ≤ x2) → (post x1)) ∧ ((¬ (10 : Int32) ≤ x2) → (vp_in x2 10 ∧ ((((h0 (a + 7) x2.toNatClampNeg) < 0) → (K3 (x1, (x2 + 1)))) ∧ ((¬ (h0 (a + 7) x2.toNatClampNeg) < 0) → (K3 ((x1 + 1), (x2 + 1)))))))
def wX0_spotsInUse (a : Nat) (h0 : zz_H) (post : Int32 → Prop) : Prop :=
  ∃ t9, zz_lp (fun K (s : Int32 × Int32) => wX0_spotsInUse_b4 a h0 post K s.1 s.2) t9 ((0 : Int32), (0 : Int32))
set_option maxRecDepth 20000 in
set_option maxHeartbeats 4000000 in
theorem ctX0_spotsInUse (a : Nat) (ha : zz_pp a) (h0 : zz_H) (post : Int32 → Prop) (hw : wX0_spotsInUse a h0 post) : zz_Ct zz_C 0 yX0_spotsInUse cX0_spotsInUse 3 (some .int) [.ref a] h0 (zz_pu h0 post) := by
  refine zz_ct (L := [.ref a, .null, .null]) (by decide +kernel) (Nat.le_of_ble_eq_true rfl) (fun ad q hq => hq) ?_
  show zz_Go zz_C 0 cX0_spotsInUse RX0 3 (some .int) (zz_pu h0 post) 0 [] [.ref a, .null, .null] h0
  unfold wX0_spotsInUse at hw
  refine zr_iconst dX0_spotsInUse_0 zqk_0 ?_
  refine zr_istore_n [.ref a, .int (0 : Int32), .null] dX0_spotsInUse_1 rfl (by decide) rfl rfl ?_
  refine zr_iconst dX0_spotsInUse_2 zqk_0 ?_
  refine zr_istore_n [.ref a, .int (0 : Int32), .int (0 : Int32)] dX0_spotsInUse_3 rfl (by decide) rfl rfl ?_
  obtain ⟨t9, hw⟩ := hw
  have step4 : ∀ (K3 : Int32 × Int32 → Prop), (∀ (x1 : Int32) (x2 : Int32), K3 (x1, x2) → zz_Go zz_C 0 cX0_spotsInUse RX0 3 (some .int) (zz_pu h0 post) 4 [] [.ref a, .int x1, .int x2] h0) → ∀ (x1 : Int32) (x2 : Int32), wX0_spotsInUse_b4 a h0 post K3 x1 x2 → zz_Go zz_C 0 cX0_spotsInUse RX0 3 (some .int) (zz_pu h0 post) 4 [] [.ref a, .int x1, .int x2] h0 := by
    intro K3 ih4 x1 x2 hw
    unfold wX0_spotsInUse_b4 at hw
    refine zr_iload_n dX0_spotsInUse_4 rfl rfl ?_
    refine zr_bipush dX0_spotsInUse_5 zbk_10 ?_
    refine zr_icmp_ge 28 dX0_spotsInUse_7 (by decide) (fun q => ?_) (fun q => ?_)
    · have hw := hw.1 q
      refine zr_iload_n dX0_spotsInUse_28 rfl rfl ?_
      exact zr_ret rfl rfl dX0_spotsInUse_29 ⟨rfl, hw⟩
    · have hw := hw.2 q
      refine zr_aload_n dX0_spotsInUse_10 rfl rfl ?_
      refine zr_getR zz_cX0 (zz_ppO ha) 6 (by decide) rfl zf_X0_30 dX0_spotsInUse_11 ?_
      refine zr_iload_n dX0_spotsInUse_14 rfl rfl ?_
      obtain ⟨hi, hw⟩ := hw
      refine zr_iald (zz_ppA6 ha) hi rfl dX0_spotsInUse_15 ?_
      refine zr_if_lt 22 dX0_spotsInUse_16 (by decide) (fun q => ?_) (fun q => ?_)
      · have hw := hw.1 q
        refine zr_iinc (x2 + 1) [.ref a, .int x1, .int (x2 + 1)] dX0_spotsInUse_22 rfl (zok_1 _) (by decide) rfl rfl ?_
        refine zr_goto 4 dX0_spotsInUse_25 (by decide) ?_
        exact ih4 _ _ hw
      · have hw := hw.2 q
        refine zr_iinc (x1 + 1) [.ref a, .int (x1 + 1), .int x2] dX0_spotsInUse_19 rfl (zok_1 _) (by decide) rfl rfl ?_
        refine zr_iinc (x2 + 1) [.ref a, .int (x1 + 1), .int (x2 + 1)] dX0_spotsInUse_22 rfl (zok_1 _) (by decide) rfl rfl ?_
        refine zr_goto 4 dX0_spotsInUse_25 (by decide) ?_
        exact ih4 _ _ hw
  have key4 : ∀ (t9 : Nat) (x1 : Int32) (x2 : Int32), zz_lp (fun K (s : Int32 × Int32) => wX0_spotsInUse_b4 a h0 post K s.1 s.2) t9 (x1, x2) → zz_Go zz_C 0 cX0_spotsInUse RX0 3 (some .int) (zz_pu h0 post) 4 [] [.ref a, .int x1, .int x2] h0 := by
    intro t9
    induction t9 with
    | zero => intro x1 x2 hw; exact hw.elim
    | succ t9 ih => intro x1 x2 hw; exact step4 _ ih _ _ hw
  exact key4 t9 _ _ hw
def wX0_nextDraw (a : Nat) (h0 : zz_H) (post : Int32 → zz_H → Prop) : Prop :=
  zz_sto h0 a (upd (h0 a) 9 (((h0 a 9) * (1103515245 : Int32)) + (12345 : Int32))) (fun h1 => post (zz_ushr (h1 a 9) (8 : Int32)) h1)
set_option maxRecDepth 20000 in
set_option maxHeartbeats 4000000 in
theorem ctX0_nextDraw (a : Nat) (ha : zz_pp a) (h0 : zz_H) (post : Int32 → zz_H → Prop) (hw : wX0_nextDraw a h0 post) : zz_Ct zz_C 0 yX0_nextDraw cX0_nextDraw 1 (some .int) [.ref a] h0 post := by
  refine zz_ct (L := [.ref a]) (by decide +kernel) (Nat.le_of_ble_eq_true rfl) (fun ad q hq => hq) ?_
  show zz_Go zz_C 0 cX0_nextDraw RX0 1 (some .int) post 0 [] [.ref a] h0
  unfold wX0_nextDraw at hw
  refine zr_aload_n dX0_nextDraw_0 rfl rfl ?_
  refine zr_aload_n dX0_nextDraw_1 rfl rfl ?_
  refine zr_getI zz_cX0 (zz_ppO ha) 9 (by decide) rfl zf_X0_40 dX0_nextDraw_2 ?_
  refine zr_ldc zk_X0_79 dX0_nextDraw_5 ?_
  refine zr_imul dX0_nextDraw_7 ?_
  refine zr_sipush dX0_nextDraw_8 zhk_12345 ?_
  refine zr_iadd dX0_nextDraw_11 ?_
  refine zr_putI zz_cX0 (zz_ppO ha) 9 (by decide) rfl rfl rfl rfl rfl zf_X0_40 dX0_nextDraw_12 hw (fun h1 hw => ?_)
  refine zr_aload_n dX0_nextDraw_15 rfl rfl ?_
  refine zr_getI zz_cX0 (zz_ppO ha) 9 (by decide) rfl zf_X0_40 dX0_nextDraw_16 ?_
  refine zr_bipush dX0_nextDraw_19 zbk_8 ?_
  refine zr_iushr dX0_nextDraw_21 ?_
  exact zr_ret rfl rfl dX0_nextDraw_22 hw
def wJ7_fill_53178_b5 (k : Nat) (n : Nat) (p2 : Int32) (post : Int32 → zz_H → Prop) (K3 : Int32 × zz_H → Prop) (x1 : Int32) (h2 : zz_H) : Prop :=
  (((nI n) ≤ x1) → (post 0 h2)) ∧ ((¬ (nI n) ≤ x1) → (vp_in x1 n ∧ zz_sto h2 k (upd (h2 k) x1.toNatClampNeg p2) (fun h4 => K3 ((x1 + 1), h4))))
def wJ7_fill_53178 (k : Nat) (n : Nat) (p2 : Int32) (h0 : zz_H) (post : Int32 → zz_H → Prop) : Prop :=
  ∃ t9, zz_lp (fun K (s : Int32 × zz_H) => wJ7_fill_53178_b5 k n p2 post K s.1 s.2) t9 ((0 : Int32), h0)
set_option maxRecDepth 20000 in
set_option maxHeartbeats 4000000 in
theorem ctJ7_fill_53178 (k : Nat) (n : Nat) (p2 : Int32) (hk : zz_C[k]? = some (.inl n)) (h0 : zz_H) (post : Int32 → zz_H → Prop) (hw : wJ7_fill_53178 k n p2 h0 post) : zz_Ct zz_C 0 yJ7_fill_53178 cJ7_fill_53178 4 none [.ref k, .int p2] h0 post := by
  refine zz_ct (L := [.ref k, .int p2, .null, .null]) (by decide +kernel) (Nat.le_of_ble_eq_true rfl) (fun ad q hq => hq) ?_
  show zz_Go zz_C 0 cJ7_fill_53178 RJ7 4 none post 0 [] [.ref k, .int p2, .null, .null] h0
  unfold wJ7_fill_53178 at hw
  refine zr_iconst dJ7_fill_53178_0 zqk_0 ?_
  refine zr_istore_n [.ref k, .int p2, .int (0 : Int32), .null] dJ7_fill_53178_1 rfl (by decide) rfl rfl ?_
  refine zr_aload_n dJ7_fill_53178_2 rfl rfl ?_
  refine zr_alen hk dJ7_fill_53178_3 ?_
  refine zr_istore_n [.ref k, .int p2, .int (0 : Int32), .int (nI n)] dJ7_fill_53178_4 rfl (by decide) rfl rfl ?_
  obtain ⟨t9, hw⟩ := hw
  have step5 : ∀ (K3 : Int32 × zz_H → Prop), (∀ (x1 : Int32) (h2 : zz_H), K3 (x1, h2) → zz_Go zz_C 0 cJ7_fill_53178 RJ7 4 none post 5 [] [.ref k, .int p2, .int x1, .int (nI n)] h2) → ∀ (x1 : Int32) (h2 : zz_H), wJ7_fill_53178_b5 k n p2 post K3 x1 h2 → zz_Go zz_C 0 cJ7_fill_53178 RJ7 4 none post 5 [] [.ref k, .int p2, .int x1, .int (nI n)] h2 := by
    intro K3 ih5 x1 h2 hw
    unfold wJ7_fill_53178_b5 at hw
    refine zr_iload_n dJ7_fill_53178_5 rfl rfl ?_
    refine zr_iload_n dJ7_fill_53178_6 rfl rfl ?_
    refine zr_icmp_ge 20 dJ7_fill_53178_7 (by decide) (fun q => ?_) (fun q => ?_)
    · have hw := hw.1 q
      exact zr_vret rfl dJ7_fill_53178_20 hw
    · have hw := hw.2 q
      refine zr_aload_n dJ7_fill_53178_10 rfl rfl ?_
      refine zr_iload_n dJ7_fill_53178_11 rfl rfl ?_
      refine zr_iload_n dJ7_fill_53178_12 rfl rfl ?_
      obtain ⟨hi, hw⟩ := hw
      refine zr_iast hk hi rfl dJ7_fill_53178_13 hw (fun h4 hw => ?_)
      refine zr_iinc (x1 + 1) [.ref k, .int p2, .int (x1 + 1), .int (nI n)] dJ7_fill_53178_14 rfl (zok_1 _) (by decide) rfl rfl ?_
      refine zr_goto 5 dJ7_fill_53178_17 (by decide) ?_
      exact ih5 _ _ hw
  have key5 : ∀ (t9 : Nat) (x1 : Int32) (h2 : zz_H), zz_lp (fun K (s : Int32 × zz_H) => wJ7_fill_53178_b5 k n p2 post K s.1 s.2) t9 (x1, h2) → zz_Go zz_C 0 cJ7_fill_53178 RJ7 4 none post 5 [] [.ref k, .int p2, .int x1, .int (nI n)] h2 := by
    intro t9
    induction t9 with
    | zero => intro x1 h2 hw; exact hw.elim
    | succ t9 ih => intro x1 h2 hw; exact step5 _ ih _ _ hw
  exact key5 t9 _ _ hw
def wX1_scoreOf (p1 : Int32) (p2 : Int32) (h0 : zz_H) (post : Int32 → Prop) : Prop :=
  vp_in ((p1 * (8 : Int32)) + p2) 96 ∧ (post (h0 27 ((p1 * (8 : Int32)) + p2).toNatClampNeg))
set_option maxRecDepth 20000 in
set_option maxHeartbeats 4000000 in
theorem ctX1_scoreOf (p1 : Int32) (p2 : Int32) (h0 : zz_H) (post : Int32 → Prop) (hw : wX1_scoreOf p1 p2 h0 post) : zz_Ct zz_C 0 yX1_scoreOf cX1_scoreOf 3 (some .int) [.ref 25, .int p1, .int p2] h0 (zz_pu h0 post) := by
  refine zz_ct (L := [.ref 25, .int p1, .int p2]) (by decide +kernel) (Nat.le_of_ble_eq_true rfl) (fun ad q hq => hq) ?_
  show zz_Go zz_C 0 cX1_scoreOf RX1 3 (some .int) (zz_pu h0 post) 0 [] [.ref 25, .int p1, .int p2] h0
  unfold wX1_scoreOf at hw
  refine zr_aload_n dX1_scoreOf_0 rfl rfl ?_
  refine zr_getR zz_cX1 zz_C25 1 (by decide) rfl zf_X1_15 dX1_scoreOf_1 ?_
  refine zr_iload_n dX1_scoreOf_4 rfl rfl ?_
  refine zr_bipush dX1_scoreOf_5 zbk_8 ?_
  refine zr_imul dX1_scoreOf_7 ?_
  refine zr_iload_n dX1_scoreOf_8 rfl rfl ?_
  refine zr_iadd dX1_scoreOf_9 ?_
  obtain ⟨hi, hw⟩ := hw
  refine zr_iald zz_C27 hi rfl dX1_scoreOf_10 ?_
  exact zr_ret rfl rfl dX1_scoreOf_11 ⟨rfl, hw⟩
def wX1_isCommon (p1 : Int32) (h0 : zz_H) (post : Int32 → Prop) : Prop :=
  ((((h0 25 5) &&& ((1 : Int32) <<< (p1 &&& 31))) = 0) → (post (0 : Int32))) ∧ ((¬ ((h0 25 5) &&& ((1 : Int32) <<< (p1 &&& 31))) = 0) → (post (1 : Int32)))
set_option maxRecDepth 20000 in
set_option maxHeartbeats 4000000 in
theorem ctX1_isCommon (p1 : Int32) (h0 : zz_H) (post : Int32 → Prop) (hw : wX1_isCommon p1 h0 post) : zz_Ct zz_C 0 yX1_isCommon cX1_isCommon 2 (some .boolean) [.ref 25, .int p1] h0 (zz_pu h0 post) := by
  refine zz_ct (L := [.ref 25, .int p1]) (by decide +kernel) (Nat.le_of_ble_eq_true rfl) (fun ad q hq => hq) ?_
  show zz_Go zz_C 0 cX1_isCommon RX1 2 (some .boolean) (zz_pu h0 post) 0 [] [.ref 25, .int p1] h0
  unfold wX1_isCommon at hw
  refine zr_aload_n dX1_isCommon_0 rfl rfl ?_
  refine zr_getI zz_cX1 zz_C25 5 (by decide) rfl zf_X1_28 dX1_isCommon_1 ?_
  refine zr_iconst dX1_isCommon_4 zqk_1 ?_
  refine zr_iload_n dX1_isCommon_5 rfl rfl ?_
  refine zr_ishl dX1_isCommon_6 ?_
  refine zr_iand dX1_isCommon_7 ?_
  refine zr_if_eq 15 dX1_isCommon_8 (by decide) (fun q => ?_) (fun q => ?_)
  · have hw := hw.1 q
    refine zr_iconst dX1_isCommon_15 zqk_0 ?_
    exact zr_ret rfl rfl dX1_isCommon_16 ⟨rfl, hw⟩
  · have hw := hw.2 q
    refine zr_iconst dX1_isCommon_11 zqk_1 ?_
    refine zr_goto 16 dX1_isCommon_12 (by decide) ?_
    exact zr_ret rfl rfl dX1_isCommon_16 ⟨rfl, hw⟩
def wX1_setScore (p1 : Int32) (p2 : Int32) (p3 : Int32) (h0 : zz_H) (post : Int32 → zz_H → Prop) : Prop :=
  wX1_scoreOf p1 p2 h0 (fun r1 => vp_in ((p1 * (8 : Int32)) + p2) 96 ∧ zz_sto h0 27 (upd (h0 27) ((p1 * (8 : Int32)) + p2).toNatClampNeg p3) (fun h2 => vp_in p1 12 ∧ (vp_in p1 12 ∧ zz_sto h2 28 (upd (h2 28) p1.toNatClampNeg ((h2 28 p1.toNatClampNeg) + (p3 - r1))) (fun h3 => wX1_isCommon p2 h3 (fun r4 => ((r4 = 0) → (post 0 h3)) ∧ ((¬ r4 = 0) → (zz_sto h3 25 (upd (h3 25) 7 ((h3 25 7) + (p3 - r1))) (fun h5 => post 0 h5))))))))
set_option maxRecDepth 20000 in
set_option maxHeartbeats 4000000 in
theorem ctX1_setScore (p1 : Int32) (p2 : Int32) (p3 : Int32) (h0 : zz_H) (post : Int32 → zz_H → Prop) (hw : wX1_setScore p1 p2 p3 h0 post) : zz_Ct zz_C 1 yX1_setScore cX1_setScore 5 none [.ref 25, .int p1, .int p2, .int p3] h0 post := by
  refine zz_ct (L := [.ref 25, .int p1, .int p2, .int p3, .null]) (by decide +kernel) (Nat.le_of_ble_eq_true rfl) (fun ad q hq => hq) ?_
  show zz_Go zz_C 1 cX1_setScore RX1 5 none post 0 [] [.ref 25, .int p1, .int p2, .int p3, .null] h0
  unfold wX1_setScore at hw
  refine zr_iload_n dX1_setScore_0 rfl rfl ?_
  refine zr_aload_n dX1_setScore_1 rfl rfl ?_
  refine zr_iload_n dX1_setScore_2 rfl rfl ?_
  refine zr_iload_n dX1_setScore_3 rfl rfl ?_
  refine zr_pVi zz_cX1 zz_C25 (ctX1_scoreOf p1 p2 h0 _ hw) zy_X1_scoreOf zm_X1_67 (by decide) rfl rfl (Nat.le_of_ble_eq_true rfl) dX1_setScore_4 (fun r1 hw => ?_)
  refine zr_isub dX1_setScore_7 ?_
  refine zr_istore [.ref 25, .int p1, .int p2, .int p3, .int (p3 - r1)] dX1_setScore_8 (by decide) rfl rfl ?_
  refine zr_aload_n dX1_setScore_10 rfl rfl ?_
  refine zr_getR zz_cX1 zz_C25 1 (by decide) rfl zf_X1_15 dX1_setScore_11 ?_
  refine zr_iload_n dX1_setScore_14 rfl rfl ?_
  refine zr_bipush dX1_setScore_15 zbk_8 ?_
  refine zr_imul dX1_setScore_17 ?_
  refine zr_iload_n dX1_setScore_18 rfl rfl ?_
  refine zr_iadd dX1_setScore_19 ?_
  refine zr_iload_n dX1_setScore_20 rfl rfl ?_
  obtain ⟨hi, hw⟩ := hw
  refine zr_iast zz_C27 hi rfl dX1_setScore_21 hw (fun h2 hw => ?_)
  refine zr_aload_n dX1_setScore_22 rfl rfl ?_
  refine zr_getR zz_cX1 zz_C25 2 (by decide) rfl zf_X1_18 dX1_setScore_23 ?_
  refine zr_iload_n dX1_setScore_26 rfl rfl ?_
  refine zr_dup2 dX1_setScore_27 rfl rfl ?_
  obtain ⟨hi, hw⟩ := hw
  refine zr_iald zz_C28 hi rfl dX1_setScore_28 ?_
  refine zr_iload dX1_setScore_29 rfl ?_
  refine zr_iadd dX1_setScore_31 ?_
  obtain ⟨hi, hw⟩ := hw
  refine zr_iast zz_C28 hi rfl dX1_setScore_32 hw (fun h3 hw => ?_)
  refine zr_aload_n dX1_setScore_33 rfl rfl ?_
  refine zr_iload_n dX1_setScore_34 rfl rfl ?_
  refine zr_pVi zz_cX1 zz_C25 (ctX1_isCommon p2 h3 _ hw) zy_X1_isCommon zm_X1_68 (by decide) rfl rfl (Nat.le_of_ble_eq_true rfl) dX1_setScore_35 (fun r4 hw => ?_)
  refine zr_if_eq 52 dX1_setScore_38 (by decide) (fun q => ?_) (fun q => ?_)
  · have hw := hw.1 q
    exact zr_vret rfl dX1_setScore_52 hw
  · have hw := hw.2 q
    refine zr_aload_n dX1_setScore_41 rfl rfl ?_
    refine zr_dup dX1_setScore_42 rfl ?_
    refine zr_getI zz_cX1 zz_C25 7 (by decide) rfl zf_X1_34 dX1_setScore_43 ?_
    refine zr_iload dX1_setScore_46 rfl ?_
    refine zr_iadd dX1_setScore_48 ?_
    refine zr_putI zz_cX1 zz_C25 7 (by decide) rfl rfl rfl rfl rfl zf_X1_34 dX1_setScore_49 hw (fun h5 hw => ?_)
    exact zr_vret rfl dX1_setScore_52 hw
def wX1_read_b119 (b : Nat) (x12 : Int32) (K14 : Int32 × zz_H → Prop) (K17 : Int32 × zz_H → Prop) (x15 : Int32) (h16 : zz_H) : Prop :=
  (((8 : Int32) ≤ x15) → (K14 ((x12 + 1), h16))) ∧ ((¬ (8 : Int32) ≤ x15) → (wX0_scoreOf b x12 x15 h16 (fun r18 => wX1_setScore x12 x15 r18 h16 (fun _ h19 => K17 ((x15 + 1), h19)))))
def wX1_read_b109 (b : Nat) (post : Int32 → zz_H → Prop) (K14 : Int32 × zz_H → Prop) (x12 : Int32) (h13 : zz_H) : Prop :=
  (((h13 25 3) ≤ x12) → (post 0 h13)) ∧ ((¬ (h13 25 3) ≤ x12) → (∃ t9, zz_lp (fun K (s : Int32 × zz_H) => wX1_read_b119 b x12 K14 K s.1 s.2) t9 ((0 : Int32), h13)))
def wX1_read_j91 (b : Nat) (post : Int32 → zz_H → Prop) (h8 : zz_H) : Prop :=
  wJ7_fill_53178 27 96 (0 : Int32) h8 (fun _ h10 => wJ7_fill_53178 28 12 (0 : Int32) h10 (fun _ h11 => ∃ t9, zz_lp (fun K (s : Int32 × zz_H) => wX1_read_b109 b post K s.1 s.2) t9 ((0 : Int32), h11)))
def wX1_read_b33 (b : Nat) (post : Int32 → zz_H → Prop) (K9 : Int32 × zz_H → Prop) (x7 : Int32) (h8 : zz_H) : Prop :=
  (((8 : Int32) ≤ x7) → (wX1_read_j91 b post h8)) ∧ ((¬ (8 : Int32) ≤ x7) → (vp_in x7 8 ∧ (vp_in x7 8 ∧ zz_sto h8 26 (upd (h8 26) x7.toNatClampNeg (h8 (b + 1) x7.toNatClampNeg)) (fun h20 => vp_in x7 8 ∧ (zz_sto h20 25 (upd (h20 25) 4 ((h20 25 4) + (h20 26 x7.toNatClampNeg))) (fun h21 => vp_in x7 8 ∧ (zz_sto h21 25 (upd (h21 25) 6 ((h21 25 6) + (zz_max (0 : Int32) (h21 (b + 2) x7.toNatClampNeg)))) (fun h22 => K9 ((x7 + 1), h22)))))))))
def wX1_read (b : Nat) (h0 : zz_H) (post : Int32 → zz_H → Prop) : Prop :=
  zz_sto h0 25 (upd (h0 25) 3 (h0 b 7)) (fun h1 => wX0_commonSet b h1 (fun r2 => zz_sto h1 25 (upd (h1 25) 5 r2) (fun h3 => zz_sto h3 25 (upd (h3 25) 4 (0 : Int32)) (fun h4 => zz_sto h4 25 (upd (h4 25) 6 (0 : Int32)) (fun h5 => zz_sto h5 25 (upd (h5 25) 7 (0 : Int32)) (fun h6 => ∃ t9, zz_lp (fun K (s : Int32 × zz_H) => wX1_read_b33 b post K s.1 s.2) t9 ((0 : Int32), h6)))))))
set_option maxRecDepth 20000 in
set_option maxHeartbeats 4000000 in
theorem ctX1_read (b : Nat) (hb : zz_pp b) (h0 : zz_H) (post : Int32 → zz_H → Prop) (hw : wX1_read b h0 post) : zz_Ct zz_C 2 yX1_read cX1_read 4 none [.ref 25, .ref b] h0 post := by
  refine zz_ct (L := [.ref 25, .ref b, .null, .null]) (by decide +kernel) (Nat.le_of_ble_eq_true rfl) (fun ad q hq => hq) ?_
  show zz_Go zz_C 2 cX1_read RX1 4 none post 0 [] [.ref 25, .ref b, .null, .null] h0
  unfold wX1_read at hw
  refine zr_aload_n dX1_read_0 rfl rfl ?_
  refine zr_aload_n dX1_read_1 rfl rfl ?_
  refine zr_getI zz_cX0 (zz_ppO hb) 7 (by decide) rfl zf_X1_37 dX1_read_2 ?_
  refine zr_putI zz_cX1 zz_C25 3 (by decide) rfl rfl rfl rfl rfl zf_X1_21 dX1_read_5 hw (fun h1 hw => ?_)
  refine zr_aload_n dX1_read_8 rfl rfl ?_
  refine zr_aload_n dX1_read_9 rfl rfl ?_
  refine zr_pVi zz_cX0 (zz_ppO hb) (ctX0_commonSet b hb h1 _ hw) zy_X0_commonSet zm_X1_40 (by decide) rfl rfl (Nat.le_of_ble_eq_true rfl) dX1_read_10 (fun r2 hw => ?_)
  refine zr_putI zz_cX1 zz_C25 5 (by decide) rfl rfl rfl rfl rfl zf_X1_28 dX1_read_13 hw (fun h3 hw => ?_)
  refine zr_aload_n dX1_read_16 rfl rfl ?_
  refine zr_iconst dX1_read_17 zqk_0 ?_
  refine zr_putI zz_cX1 zz_C25 4 (by decide) rfl rfl rfl rfl rfl zf_X1_25 dX1_read_18 hw (fun h4 hw => ?_)
  refine zr_aload_n dX1_read_21 rfl rfl ?_
  refine zr_iconst dX1_read_22 zqk_0 ?_
  refine zr_putI zz_cX1 zz_C25 6 (by decide) rfl rfl rfl rfl rfl zf_X1_31 dX1_read_23 hw (fun h5 hw => ?_)
  refine zr_aload_n dX1_read_26 rfl rfl ?_
  refine zr_iconst dX1_read_27 zqk_0 ?_
  refine zr_putI zz_cX1 zz_C25 7 (by decide) rfl rfl rfl rfl rfl zf_X1_34 dX1_read_28 hw (fun h6 hw => ?_)
  refine zr_iconst dX1_read_31 zqk_0 ?_
  refine zr_istore_n [.ref 25, .ref b, .int (0 : Int32), .null] dX1_read_32 rfl (by decide) rfl rfl ?_
  obtain ⟨t9, hw⟩ := hw
  have step33 : ∀ (K9 : Int32 × zz_H → Prop), (∀ (x7 : Int32) (h8 : zz_H), K9 (x7, h8) → zz_Go zz_C 2 cX1_read RX1 4 none post 33 [] [.ref 25, .ref b, .int x7, .null] h8) → ∀ (x7 : Int32) (h8 : zz_H), wX1_read_b33 b post K9 x7 h8 → zz_Go zz_C 2 cX1_read RX1 4 none post 33 [] [.ref 25, .ref b, .int x7, .null] h8 := by
    intro K9 ih33 x7 h8 hw
    unfold wX1_read_b33 at hw
    refine zr_iload_n dX1_read_33 rfl rfl ?_
    refine zr_bipush dX1_read_34 zbk_8 ?_
    have j91 : wX1_read_j91 b post h8 → zz_Go zz_C 2 cX1_read RX1 4 none post 91 [] [.ref 25, .ref b, .null, .null] h8 := by
      intro hw
      unfold wX1_read_j91 at hw
      refine zr_aload_n dX1_read_91 rfl rfl ?_
      refine zr_getR zz_cX1 zz_C25 1 (by decide) rfl zf_X1_15 dX1_read_92 ?_
      refine zr_iconst dX1_read_95 zqk_0 ?_
      refine zr_callSv (ctJ7_fill_53178 27 96 (0 : Int32) zz_C27 h8 _ hw) zy_J7_fill_53178 zm_X1_54 (by decide) rfl rfl (Nat.le_of_ble_eq_true rfl) dX1_read_96 (fun h10 hw => ?_)
      refine zr_aload_n dX1_read_99 rfl rfl ?_
      refine zr_getR zz_cX1 zz_C25 2 (by decide) rfl zf_X1_18 dX1_read_100 ?_
      refine zr_iconst dX1_read_103 zqk_0 ?_
      refine zr_callSv (ctJ7_fill_53178 28 12 (0 : Int32) zz_C28 h10 _ hw) zy_J7_fill_53178 zm_X1_54 (by decide) rfl rfl (Nat.le_of_ble_eq_true rfl) dX1_read_104 (fun h11 hw => ?_)
      refine zr_iconst dX1_read_107 zqk_0 ?_
      refine zr_istore_n [.ref 25, .ref b, .int (0 : Int32), .null] dX1_read_108 rfl (by decide) rfl rfl ?_
      obtain ⟨t9, hw⟩ := hw
      have step109 : ∀ (K14 : Int32 × zz_H → Prop), (∀ (x12 : Int32) (h13 : zz_H), K14 (x12, h13) → zz_Go zz_C 2 cX1_read RX1 4 none post 109 [] [.ref 25, .ref b, .int x12, .null] h13) → ∀ (x12 : Int32) (h13 : zz_H), wX1_read_b109 b post K14 x12 h13 → zz_Go zz_C 2 cX1_read RX1 4 none post 109 [] [.ref 25, .ref b, .int x12, .null] h13 := by
        intro K14 ih109 x12 h13 hw
        unfold wX1_read_b109 at hw
        refine zr_iload_n dX1_read_109 rfl rfl ?_
        refine zr_aload_n dX1_read_110 rfl rfl ?_
        refine zr_getI zz_cX1 zz_C25 3 (by decide) rfl zf_X1_21 dX1_read_111 ?_
        refine zr_icmp_ge 149 dX1_read_114 (by decide) (fun q => ?_) (fun q => ?_)
        · have hw := hw.1 q
          exact zr_vret rfl dX1_read_149 hw
        · have hw := hw.2 q
          refine zr_iconst dX1_read_117 zqk_0 ?_
          refine zr_istore_n [.ref 25, .ref b, .int x12, .int (0 : Int32)] dX1_read_118 rfl (by decide) rfl rfl ?_
          obtain ⟨t9, hw⟩ := hw
          have step119 : ∀ (K17 : Int32 × zz_H → Prop), (∀ (x15 : Int32) (h16 : zz_H), K17 (x15, h16) → zz_Go zz_C 2 cX1_read RX1 4 none post 119 [] [.ref 25, .ref b, .int x12, .int x15] h16) → ∀ (x15 : Int32) (h16 : zz_H), wX1_read_b119 b x12 K14 K17 x15 h16 → zz_Go zz_C 2 cX1_read RX1 4 none post 119 [] [.ref 25, .ref b, .int x12, .int x15] h16 := by
            intro K17 ih119 x15 h16 hw
            unfold wX1_read_b119 at hw
            refine zr_iload_n dX1_read_119 rfl rfl ?_
            refine zr_bipush dX1_read_120 zbk_8 ?_
            refine zr_icmp_ge 143 dX1_read_122 (by decide) (fun q => ?_) (fun q => ?_)
            · have hw := hw.1 q
              refine zr_iinc (x12 + 1) [.ref 25, .ref b, .int (x12 + 1), .int x15] dX1_read_143 rfl (zok_1 _) (by decide) rfl rfl ?_
              refine zr_goto 109 dX1_read_146 (by decide) ?_
              refine zr_sub [.ref 25, .ref b, .int (x12 + 1), .null] ⟨Or.inr rfl, ⟨Or.inr rfl, ⟨Or.inr rfl, ⟨Or.inl rfl, trivial⟩⟩⟩⟩ ?_
              exact ih109 _ _ hw
            · have hw := hw.2 q
              refine zr_aload_n dX1_read_125 rfl rfl ?_
              refine zr_iload_n dX1_read_126 rfl rfl ?_
              refine zr_iload_n dX1_read_127 rfl rfl ?_
              refine zr_aload_n dX1_read_128 rfl rfl ?_
              refine zr_iload_n dX1_read_129 rfl rfl ?_
              refine zr_iload_n dX1_read_130 rfl rfl ?_
              refine zr_pVi zz_cX0 (zz_ppO hb) (ctX0_scoreOf b x12 x15 hb h16 _ hw) zy_X0_scoreOf zm_X1_60 (by decide) rfl rfl (Nat.le_of_ble_eq_true rfl) dX1_read_131 (fun r18 hw => ?_)
              refine zr_callVv zz_cX1 zz_C25 (ctX1_setScore x12 x15 r18 h16 _ hw) zy_X1_setScore zm_X1_63 (by decide) rfl rfl (Nat.le_of_ble_eq_true rfl) dX1_read_134 (fun h19 hw => ?_)
              refine zr_iinc (x15 + 1) [.ref 25, .ref b, .int x12, .int (x15 + 1)] dX1_read_137 rfl (zok_1 _) (by decide) rfl rfl ?_
              refine zr_goto 119 dX1_read_140 (by decide) ?_
              exact ih119 _ _ hw
          have key119 : ∀ (t9 : Nat) (x15 : Int32) (h16 : zz_H), zz_lp (fun K (s : Int32 × zz_H) => wX1_read_b119 b x12 K14 K s.1 s.2) t9 (x15, h16) → zz_Go zz_C 2 cX1_read RX1 4 none post 119 [] [.ref 25, .ref b, .int x12, .int x15] h16 := by
            intro t9
            induction t9 with
            | zero => intro x15 h16 hw; exact hw.elim
            | succ t9 ih => intro x15 h16 hw; exact step119 _ ih _ _ hw
          exact key119 t9 _ _ hw
      have key109 : ∀ (t9 : Nat) (x12 : Int32) (h13 : zz_H), zz_lp (fun K (s : Int32 × zz_H) => wX1_read_b109 b post K s.1 s.2) t9 (x12, h13) → zz_Go zz_C 2 cX1_read RX1 4 none post 109 [] [.ref 25, .ref b, .int x12, .null] h13 := by
        intro t9
        induction t9 with
        | zero => intro x12 h13 hw; exact hw.elim
        | succ t9 ih => intro x12 h13 hw; exact step109 _ ih _ _ hw
      exact key109 t9 _ _ hw
    refine zr_icmp_ge 91 dX1_read_36 (by decide) (fun q => ?_) (fun q => ?_)
    · have hw := hw.1 q
      refine zr_sub [.ref 25, .ref b, .null, .null] ⟨Or.inr rfl, ⟨Or.inr rfl, ⟨Or.inl rfl, ⟨Or.inl rfl, trivial⟩⟩⟩⟩ ?_
      exact j91 hw
    · have hw := hw.2 q
      refine zr_aload_n dX1_read_39 rfl rfl ?_
      refine zr_getR zz_cX1 zz_C25 0 (by decide) rfl zf_X1_9 dX1_read_40 ?_
      refine zr_iload_n dX1_read_43 rfl rfl ?_
      refine zr_aload_n dX1_read_44 rfl rfl ?_
      refine zr_getR zz_cX0 (zz_ppO hb) 0 (by decide) rfl zf_X1_44 dX1_read_45 ?_
      refine zr_iload_n dX1_read_48 rfl rfl ?_
      obtain ⟨hi, hw⟩ := hw
      refine zr_iald (zz_ppA0 hb) hi rfl dX1_read_49 ?_
      obtain ⟨hi, hw⟩ := hw
      refine zr_iast zz_C26 hi rfl dX1_read_50 hw (fun h20 hw => ?_)
      refine zr_aload_n dX1_read_51 rfl rfl ?_
      refine zr_dup dX1_read_52 rfl ?_
      refine zr_getI zz_cX1 zz_C25 4 (by decide) rfl zf_X1_25 dX1_read_53 ?_
      refine zr_aload_n dX1_read_56 rfl rfl ?_
      refine zr_getR zz_cX1 zz_C25 0 (by decide) rfl zf_X1_9 dX1_read_57 ?_
      refine zr_iload_n dX1_read_60 rfl rfl ?_
      obtain ⟨hi, hw⟩ := hw
      refine zr_iald zz_C26 hi rfl dX1_read_61 ?_
      refine zr_iadd dX1_read_62 ?_
      refine zr_putI zz_cX1 zz_C25 4 (by decide) rfl rfl rfl rfl rfl zf_X1_25 dX1_read_63 hw (fun h21 hw => ?_)
      refine zr_aload_n dX1_read_66 rfl rfl ?_
      refine zr_dup dX1_read_67 rfl ?_
      refine zr_getI zz_cX1 zz_C25 6 (by decide) rfl zf_X1_31 dX1_read_68 ?_
      refine zr_iconst dX1_read_71 zqk_0 ?_
      refine zr_aload_n dX1_read_72 rfl rfl ?_
      refine zr_getR zz_cX0 (zz_ppO hb) 1 (by decide) rfl zf_X1_45 dX1_read_73 ?_
      refine zr_iload_n dX1_read_76 rfl rfl ?_
      obtain ⟨hi, hw⟩ := hw
      refine zr_iald (zz_ppA1 hb) hi rfl dX1_read_77 ?_
      refine zr_max zm_X1_48 zt_Math_max_name zn_J9 zc_Math_max_name (by decide) (Nat.le_of_ble_eq_true rfl) dX1_read_78 ?_
      refine zr_iadd dX1_read_81 ?_
      refine zr_putI zz_cX1 zz_C25 6 (by decide) rfl rfl rfl rfl rfl zf_X1_31 dX1_read_82 hw (fun h22 hw => ?_)
      refine zr_iinc (x7 + 1) [.ref 25, .ref b, .int (x7 + 1), .null] dX1_read_85 rfl (zok_1 _) (by decide) rfl rfl ?_
      refine zr_goto 33 dX1_read_88 (by decide) ?_
      exact ih33 _ _ hw
  have key33 : ∀ (t9 : Nat) (x7 : Int32) (h8 : zz_H), zz_lp (fun K (s : Int32 × zz_H) => wX1_read_b33 b post K s.1 s.2) t9 (x7, h8) → zz_Go zz_C 2 cX1_read RX1 4 none post 33 [] [.ref 25, .ref b, .int x7, .null] h8 := by
    intro t9
    induction t9 with
    | zero => intro x7 h8 hw; exact hw.elim
    | succ t9 ih => intro x7 h8 hw; exact step33 _ ih _ _ hw
  exact key33 t9 _ _ hw
def wX1_strike_b24 (p1 : Int32) (post : Int32 → zz_H → Prop) (K5 : Int32 × zz_H → Prop) (x3 : Int32) (h4 : zz_H) : Prop :=
  (((h4 25 3) ≤ x3) → (post 0 h4)) ∧ ((¬ (h4 25 3) ≤ x3) → (wX1_setScore x3 p1 (0 : Int32) h4 (fun _ h6 => K5 ((x3 + 1), h6))))
def wX1_strike (p1 : Int32) (h0 : zz_H) (post : Int32 → zz_H → Prop) : Prop :=
  vp_in p1 8 ∧ (zz_sto h0 25 (upd (h0 25) 4 ((h0 25 4) - (h0 26 p1.toNatClampNeg))) (fun h1 => vp_in p1 8 ∧ zz_sto h1 26 (upd (h1 26) p1.toNatClampNeg (0 : Int32)) (fun h2 => ∃ t9, zz_lp (fun K (s : Int32 × zz_H) => wX1_strike_b24 p1 post K s.1 s.2) t9 ((0 : Int32), h2))))
set_option maxRecDepth 20000 in
set_option maxHeartbeats 4000000 in
theorem ctX1_strike (p1 : Int32) (h0 : zz_H) (post : Int32 → zz_H → Prop) (hw : wX1_strike p1 h0 post) : zz_Ct zz_C 2 yX1_strike cX1_strike 3 none [.ref 25, .int p1] h0 post := by
  refine zz_ct (L := [.ref 25, .int p1, .null]) (by decide +kernel) (Nat.le_of_ble_eq_true rfl) (fun ad q hq => hq) ?_
  show zz_Go zz_C 2 cX1_strike RX1 3 none post 0 [] [.ref 25, .int p1, .null] h0
  unfold wX1_strike at hw
  refine zr_aload_n dX1_strike_0 rfl rfl ?_
  refine zr_dup dX1_strike_1 rfl ?_
  refine zr_getI zz_cX1 zz_C25 4 (by decide) rfl zf_X1_25 dX1_strike_2 ?_
  refine zr_aload_n dX1_strike_5 rfl rfl ?_
  refine zr_getR zz_cX1 zz_C25 0 (by decide) rfl zf_X1_9 dX1_strike_6 ?_
  refine zr_iload_n dX1_strike_9 rfl rfl ?_
  obtain ⟨hi, hw⟩ := hw
  refine zr_iald zz_C26 hi rfl dX1_strike_10 ?_
  refine zr_isub dX1_strike_11 ?_
  refine zr_putI zz_cX1 zz_C25 4 (by decide) rfl rfl rfl rfl rfl zf_X1_25 dX1_strike_12 hw (fun h1 hw => ?_)
  refine zr_aload_n dX1_strike_15 rfl rfl ?_
  refine zr_getR zz_cX1 zz_C25 0 (by decide) rfl zf_X1_9 dX1_strike_16 ?_
  refine zr_iload_n dX1_strike_19 rfl rfl ?_
  refine zr_iconst dX1_strike_20 zqk_0 ?_
  obtain ⟨hi, hw⟩ := hw
  refine zr_iast zz_C26 hi rfl dX1_strike_21 hw (fun h2 hw => ?_)
  refine zr_iconst dX1_strike_22 zqk_0 ?_
  refine zr_istore_n [.ref 25, .int p1, .int (0 : Int32)] dX1_strike_23 rfl (by decide) rfl rfl ?_
  obtain ⟨t9, hw⟩ := hw
  have step24 : ∀ (K5 : Int32 × zz_H → Prop), (∀ (x3 : Int32) (h4 : zz_H), K5 (x3, h4) → zz_Go zz_C 2 cX1_strike RX1 3 none post 24 [] [.ref 25, .int p1, .int x3] h4) → ∀ (x3 : Int32) (h4 : zz_H), wX1_strike_b24 p1 post K5 x3 h4 → zz_Go zz_C 2 cX1_strike RX1 3 none post 24 [] [.ref 25, .int p1, .int x3] h4 := by
    intro K5 ih24 x3 h4 hw
    unfold wX1_strike_b24 at hw
    refine zr_iload_n dX1_strike_24 rfl rfl ?_
    refine zr_aload_n dX1_strike_25 rfl rfl ?_
    refine zr_getI zz_cX1 zz_C25 3 (by decide) rfl zf_X1_21 dX1_strike_26 ?_
    refine zr_icmp_ge 45 dX1_strike_29 (by decide) (fun q => ?_) (fun q => ?_)
    · have hw := hw.1 q
      exact zr_vret rfl dX1_strike_45 hw
    · have hw := hw.2 q
      refine zr_aload_n dX1_strike_32 rfl rfl ?_
      refine zr_iload_n dX1_strike_33 rfl rfl ?_
      refine zr_iload_n dX1_strike_34 rfl rfl ?_
      refine zr_iconst dX1_strike_35 zqk_0 ?_
      refine zr_callVv zz_cX1 zz_C25 (ctX1_setScore x3 p1 (0 : Int32) h4 _ hw) zy_X1_setScore zm_X1_63 (by decide) rfl rfl (Nat.le_of_ble_eq_true rfl) dX1_strike_36 (fun h6 hw => ?_)
      refine zr_iinc (x3 + 1) [.ref 25, .int p1, .int (x3 + 1)] dX1_strike_39 rfl (zok_1 _) (by decide) rfl rfl ?_
      refine zr_goto 24 dX1_strike_42 (by decide) ?_
      exact ih24 _ _ hw
  have key24 : ∀ (t9 : Nat) (x3 : Int32) (h4 : zz_H), zz_lp (fun K (s : Int32 × zz_H) => wX1_strike_b24 p1 post K s.1 s.2) t9 (x3, h4) → zz_Go zz_C 2 cX1_strike RX1 3 none post 24 [] [.ref 25, .int p1, .int x3] h4 := by
    intro t9
    induction t9 with
    | zero => intro x3 h4 hw; exact hw.elim
    | succ t9 ih => intro x3 h4 hw; exact step24 _ ih _ _ hw
  exact key24 t9 _ _ hw
def wX1_join_b17 (p1 : Int32) (h0 : zz_H) (post : Int32 → zz_H → Prop) (K4 : Int32 × zz_H → Prop) (x2 : Int32) (h3 : zz_H) : Prop :=
  (((8 : Int32) ≤ x2) → (post 0 h3)) ∧ ((¬ (8 : Int32) ≤ x2) → (vp_in x2 8 ∧ (wX1_setScore (h0 25 3) x2 (zz_min p1 (h3 26 x2.toNatClampNeg)) h3 (fun _ h5 => K4 ((x2 + 1), h5)))))
def wX1_join (p1 : Int32) (h0 : zz_H) (post : Int32 → zz_H → Prop) : Prop :=
  zz_sto h0 25 (upd (h0 25) 3 ((h0 25 3) + (1 : Int32))) (fun h1 => ∃ t9, zz_lp (fun K (s : Int32 × zz_H) => wX1_join_b17 p1 h0 post K s.1 s.2) t9 ((0 : Int32), h1))
set_option maxRecDepth 20000 in
set_option maxHeartbeats 4000000 in
theorem ctX1_join (p1 : Int32) (h0 : zz_H) (post : Int32 → zz_H → Prop) (hw : wX1_join p1 h0 post) : zz_Ct zz_C 2 yX1_join cX1_join 4 none [.ref 25, .int p1] h0 post := by
  refine zz_ct (L := [.ref 25, .int p1, .null, .null]) (by decide +kernel) (Nat.le_of_ble_eq_true rfl) (fun ad q hq => hq) ?_
  show zz_Go zz_C 2 cX1_join RX1 4 none post 0 [] [.ref 25, .int p1, .null, .null] h0
  unfold wX1_join at hw
  refine zr_aload_n dX1_join_0 rfl rfl ?_
  refine zr_getI zz_cX1 zz_C25 3 (by decide) rfl zf_X1_21 dX1_join_1 ?_
  refine zr_istore_n [.ref 25, .int p1, .int (h0 25 3), .null] dX1_join_4 rfl (by decide) rfl rfl ?_
  refine zr_aload_n dX1_join_5 rfl rfl ?_
  refine zr_dup dX1_join_6 rfl ?_
  refine zr_getI zz_cX1 zz_C25 3 (by decide) rfl zf_X1_21 dX1_join_7 ?_
  refine zr_iconst dX1_join_10 zqk_1 ?_
  refine zr_iadd dX1_join_11 ?_
  refine zr_putI zz_cX1 zz_C25 3 (by decide) rfl rfl rfl rfl rfl zf_X1_21 dX1_join_12 hw (fun h1 hw => ?_)
  refine zr_iconst dX1_join_15 zqk_0 ?_
  refine zr_istore_n [.ref 25, .int p1, .int (h0 25 3), .int (0 : Int32)] dX1_join_16 rfl (by decide) rfl rfl ?_
  obtain ⟨t9, hw⟩ := hw
  have step17 : ∀ (K4 : Int32 × zz_H → Prop), (∀ (x2 : Int32) (h3 : zz_H), K4 (x2, h3) → zz_Go zz_C 2 cX1_join RX1 4 none post 17 [] [.ref 25, .int p1, .int (h0 25 3), .int x2] h3) → ∀ (x2 : Int32) (h3 : zz_H), wX1_join_b17 p1 h0 post K4 x2 h3 → zz_Go zz_C 2 cX1_join RX1 4 none post 17 [] [.ref 25, .int p1, .int (h0 25 3), .int x2] h3 := by
    intro K4 ih17 x2 h3 hw
    unfold wX1_join_b17 at hw
    refine zr_iload_n dX1_join_17 rfl rfl ?_
    refine zr_bipush dX1_join_18 zbk_8 ?_
    refine zr_icmp_ge 45 dX1_join_20 (by decide) (fun q => ?_) (fun q => ?_)
    · have hw := hw.1 q
      exact zr_vret rfl dX1_join_45 hw
    · have hw := hw.2 q
      refine zr_aload_n dX1_join_23 rfl rfl ?_
      refine zr_iload_n dX1_join_24 rfl rfl ?_
      refine zr_iload_n dX1_join_25 rfl rfl ?_
      refine zr_iload_n dX1_join_26 rfl rfl ?_
      refine zr_aload_n dX1_join_27 rfl rfl ?_
      refine zr_getR zz_cX1 zz_C25 0 (by decide) rfl zf_X1_9 dX1_join_28 ?_
      refine zr_iload_n dX1_join_31 rfl rfl ?_
      obtain ⟨hi, hw⟩ := hw
      refine zr_iald zz_C26 hi rfl dX1_join_32 ?_
      refine zr_min zm_X1_72 zt_Math_min_name zn_J9 zc_Math_min_name (by decide) (Nat.le_of_ble_eq_true rfl) dX1_join_33 ?_
      refine zr_callVv zz_cX1 zz_C25 (ctX1_setScore (h0 25 3) x2 (zz_min p1 (h3 26 x2.toNatClampNeg)) h3 _ hw) zy_X1_setScore zm_X1_63 (by decide) rfl rfl (Nat.le_of_ble_eq_true rfl) dX1_join_36 (fun h5 hw => ?_)
      refine zr_iinc (x2 + 1) [.ref 25, .int p1, .int (h0 25 3), .int (x2 + 1)] dX1_join_39 rfl (zok_1 _) (by decide) rfl rfl ?_
      refine zr_goto 17 dX1_join_42 (by decide) ?_
      exact ih17 _ _ hw
  have key17 : ∀ (t9 : Nat) (x2 : Int32) (h3 : zz_H), zz_lp (fun K (s : Int32 × zz_H) => wX1_join_b17 p1 h0 post K s.1 s.2) t9 (x2, h3) → zz_Go zz_C 2 cX1_join RX1 4 none post 17 [] [.ref 25, .int p1, .int (h0 25 3), .int x2] h3 := by
    intro t9
    induction t9 with
    | zero => intro x2 h3 hw; exact hw.elim
    | succ t9 ih => intro x2 h3 hw; exact step17 _ ih _ _ hw
  exact key17 t9 _ _ hw
def wX1_greatestRaw_b4 (h0 : zz_H) (post : Int32 → Prop) (K3 : Int32 × Int32 → Prop) (x1 : Int32) (x2 : Int32) : Prop :=
  (((h0 25 3) ≤ x2) → (post x1)) ∧ ((¬ (h0 25 3) ≤ x2) → (vp_in x2 12 ∧ (K3 ((zz_max x1 (h0 28 x2.toNatClampNeg)), (x2 + 1)))))
def wX1_greatestRaw (h0 : zz_H) (post : Int32 → Prop) : Prop :=
  ∃ t9, zz_lp (fun K (s : Int32 × Int32) => wX1_greatestRaw_b4 h0 post K s.1 s.2) t9 ((0 : Int32), (0 : Int32))
set_option maxRecDepth 20000 in
set_option maxHeartbeats 4000000 in
theorem ctX1_greatestRaw (h0 : zz_H) (post : Int32 → Prop) (hw : wX1_greatestRaw h0 post) : zz_Ct zz_C 1 yX1_greatestRaw cX1_greatestRaw 3 (some .int) [.ref 25] h0 (zz_pu h0 post) := by
  refine zz_ct (L := [.ref 25, .null, .null]) (by decide +kernel) (Nat.le_of_ble_eq_true rfl) (fun ad q hq => hq) ?_
  show zz_Go zz_C 1 cX1_greatestRaw RX1 3 (some .int) (zz_pu h0 post) 0 [] [.ref 25, .null, .null] h0
  unfold wX1_greatestRaw at hw
  refine zr_iconst dX1_greatestRaw_0 zqk_0 ?_
  refine zr_istore_n [.ref 25, .int (0 : Int32), .null] dX1_greatestRaw_1 rfl (by decide) rfl rfl ?_
  refine zr_iconst dX1_greatestRaw_2 zqk_0 ?_
  refine zr_istore_n [.ref 25, .int (0 : Int32), .int (0 : Int32)] dX1_greatestRaw_3 rfl (by decide) rfl rfl ?_
  obtain ⟨t9, hw⟩ := hw
  have step4 : ∀ (K3 : Int32 × Int32 → Prop), (∀ (x1 : Int32) (x2 : Int32), K3 (x1, x2) → zz_Go zz_C 1 cX1_greatestRaw RX1 3 (some .int) (zz_pu h0 post) 4 [] [.ref 25, .int x1, .int x2] h0) → ∀ (x1 : Int32) (x2 : Int32), wX1_greatestRaw_b4 h0 post K3 x1 x2 → zz_Go zz_C 1 cX1_greatestRaw RX1 3 (some .int) (zz_pu h0 post) 4 [] [.ref 25, .int x1, .int x2] h0 := by
    intro K3 ih4 x1 x2 hw
    unfold wX1_greatestRaw_b4 at hw
    refine zr_iload_n dX1_greatestRaw_4 rfl rfl ?_
    refine zr_aload_n dX1_greatestRaw_5 rfl rfl ?_
    refine zr_getI zz_cX1 zz_C25 3 (by decide) rfl zf_X1_21 dX1_greatestRaw_6 ?_
    refine zr_icmp_ge 29 dX1_greatestRaw_9 (by decide) (fun q => ?_) (fun q => ?_)
    · have hw := hw.1 q
      refine zr_iload_n dX1_greatestRaw_29 rfl rfl ?_
      exact zr_ret rfl rfl dX1_greatestRaw_30 ⟨rfl, hw⟩
    · have hw := hw.2 q
      refine zr_iload_n dX1_greatestRaw_12 rfl rfl ?_
      refine zr_aload_n dX1_greatestRaw_13 rfl rfl ?_
      refine zr_getR zz_cX1 zz_C25 2 (by decide) rfl zf_X1_18 dX1_greatestRaw_14 ?_
      refine zr_iload_n dX1_greatestRaw_17 rfl rfl ?_
      obtain ⟨hi, hw⟩ := hw
      refine zr_iald zz_C28 hi rfl dX1_greatestRaw_18 ?_
      refine zr_max zm_X1_48 zt_Math_max_name zn_J9 zc_Math_max_name (by decide) (Nat.le_of_ble_eq_true rfl) dX1_greatestRaw_19 ?_
      refine zr_istore_n [.ref 25, .int (zz_max x1 (h0 28 x2.toNatClampNeg)), .int x2] dX1_greatestRaw_22 rfl (by decide) rfl rfl ?_
      refine zr_iinc (x2 + 1) [.ref 25, .int (zz_max x1 (h0 28 x2.toNatClampNeg)), .int (x2 + 1)] dX1_greatestRaw_23 rfl (zok_1 _) (by decide) rfl rfl ?_
      refine zr_goto 4 dX1_greatestRaw_26 (by decide) ?_
      exact ih4 _ _ hw
  have key4 : ∀ (t9 : Nat) (x1 : Int32) (x2 : Int32), zz_lp (fun K (s : Int32 × Int32) => wX1_greatestRaw_b4 h0 post K s.1 s.2) t9 (x1, x2) → zz_Go zz_C 1 cX1_greatestRaw RX1 3 (some .int) (zz_pu h0 post) 4 [] [.ref 25, .int x1, .int x2] h0 := by
    intro t9
    induction t9 with
    | zero => intro x1 x2 hw; exact hw.elim
    | succ t9 ih => intro x1 x2 hw; exact step4 _ ih _ _ hw
  exact key4 t9 _ _ hw
def wX1_sumOfRaws_b4 (h0 : zz_H) (post : Int32 → Prop) (K3 : Int32 × Int32 → Prop) (x1 : Int32) (x2 : Int32) : Prop :=
  (((h0 25 3) ≤ x2) → (post x1)) ∧ ((¬ (h0 25 3) ≤ x2) → (vp_in x2 12 ∧ (K3 ((x1 + (h0 28 x2.toNatClampNeg)), (x2 + 1)))))
def wX1_sumOfRaws (h0 : zz_H) (post : Int32 → Prop) : Prop :=
  ∃ t9, zz_lp (fun K (s : Int32 × Int32) => wX1_sumOfRaws_b4 h0 post K s.1 s.2) t9 ((0 : Int32), (0 : Int32))
set_option maxRecDepth 20000 in
set_option maxHeartbeats 4000000 in
theorem ctX1_sumOfRaws (h0 : zz_H) (post : Int32 → Prop) (hw : wX1_sumOfRaws h0 post) : zz_Ct zz_C 0 yX1_sumOfRaws cX1_sumOfRaws 3 (some .int) [.ref 25] h0 (zz_pu h0 post) := by
  refine zz_ct (L := [.ref 25, .null, .null]) (by decide +kernel) (Nat.le_of_ble_eq_true rfl) (fun ad q hq => hq) ?_
  show zz_Go zz_C 0 cX1_sumOfRaws RX1 3 (some .int) (zz_pu h0 post) 0 [] [.ref 25, .null, .null] h0
  unfold wX1_sumOfRaws at hw
  refine zr_iconst dX1_sumOfRaws_0 zqk_0 ?_
  refine zr_istore_n [.ref 25, .int (0 : Int32), .null] dX1_sumOfRaws_1 rfl (by decide) rfl rfl ?_
  refine zr_iconst dX1_sumOfRaws_2 zqk_0 ?_
  refine zr_istore_n [.ref 25, .int (0 : Int32), .int (0 : Int32)] dX1_sumOfRaws_3 rfl (by decide) rfl rfl ?_
  obtain ⟨t9, hw⟩ := hw
  have step4 : ∀ (K3 : Int32 × Int32 → Prop), (∀ (x1 : Int32) (x2 : Int32), K3 (x1, x2) → zz_Go zz_C 0 cX1_sumOfRaws RX1 3 (some .int) (zz_pu h0 post) 4 [] [.ref 25, .int x1, .int x2] h0) → ∀ (x1 : Int32) (x2 : Int32), wX1_sumOfRaws_b4 h0 post K3 x1 x2 → zz_Go zz_C 0 cX1_sumOfRaws RX1 3 (some .int) (zz_pu h0 post) 4 [] [.ref 25, .int x1, .int x2] h0 := by
    intro K3 ih4 x1 x2 hw
    unfold wX1_sumOfRaws_b4 at hw
    refine zr_iload_n dX1_sumOfRaws_4 rfl rfl ?_
    refine zr_aload_n dX1_sumOfRaws_5 rfl rfl ?_
    refine zr_getI zz_cX1 zz_C25 3 (by decide) rfl zf_X1_21 dX1_sumOfRaws_6 ?_
    refine zr_icmp_ge 27 dX1_sumOfRaws_9 (by decide) (fun q => ?_) (fun q => ?_)
    · have hw := hw.1 q
      refine zr_iload_n dX1_sumOfRaws_27 rfl rfl ?_
      exact zr_ret rfl rfl dX1_sumOfRaws_28 ⟨rfl, hw⟩
    · have hw := hw.2 q
      refine zr_iload_n dX1_sumOfRaws_12 rfl rfl ?_
      refine zr_aload_n dX1_sumOfRaws_13 rfl rfl ?_
      refine zr_getR zz_cX1 zz_C25 2 (by decide) rfl zf_X1_18 dX1_sumOfRaws_14 ?_
      refine zr_iload_n dX1_sumOfRaws_17 rfl rfl ?_
      obtain ⟨hi, hw⟩ := hw
      refine zr_iald zz_C28 hi rfl dX1_sumOfRaws_18 ?_
      refine zr_iadd dX1_sumOfRaws_19 ?_
      refine zr_istore_n [.ref 25, .int (x1 + (h0 28 x2.toNatClampNeg)), .int x2] dX1_sumOfRaws_20 rfl (by decide) rfl rfl ?_
      refine zr_iinc (x2 + 1) [.ref 25, .int (x1 + (h0 28 x2.toNatClampNeg)), .int (x2 + 1)] dX1_sumOfRaws_21 rfl (zok_1 _) (by decide) rfl rfl ?_
      refine zr_goto 4 dX1_sumOfRaws_24 (by decide) ?_
      exact ih4 _ _ hw
  have key4 : ∀ (t9 : Nat) (x1 : Int32) (x2 : Int32), zz_lp (fun K (s : Int32 × Int32) => wX1_sumOfRaws_b4 h0 post K s.1 s.2) t9 (x1, x2) → zz_Go zz_C 0 cX1_sumOfRaws RX1 3 (some .int) (zz_pu h0 post) 4 [] [.ref 25, .int x1, .int x2] h0 := by
    intro t9
    induction t9 with
    | zero => intro x1 x2 hw; exact hw.elim
    | succ t9 ih => intro x1 x2 hw; exact step4 _ ih _ _ hw
  exact key4 t9 _ _ hw
def wX1_newMean (h0 : zz_H) (post : Int32 → Prop) : Prop :=
  (((h0 25 3) ≤ 0) → (post (0 : Int32))) ∧ ((¬ (h0 25 3) ≤ 0) → (¬ (h0 25 3) = 0 ∧ (post (((10 : Int32) * (h0 25 7)) / (h0 25 3)))))
set_option maxRecDepth 20000 in
set_option maxHeartbeats 4000000 in
theorem ctX1_newMean (h0 : zz_H) (post : Int32 → Prop) (hw : wX1_newMean h0 post) : zz_Ct zz_C 0 yX1_newMean cX1_newMean 1 (some .int) [.ref 25] h0 (zz_pu h0 post) := by
  refine zz_ct (L := [.ref 25]) (by decide +kernel) (Nat.le_of_ble_eq_true rfl) (fun ad q hq => hq) ?_
  show zz_Go zz_C 0 cX1_newMean RX1 1 (some .int) (zz_pu h0 post) 0 [] [.ref 25] h0
  unfold wX1_newMean at hw
  refine zr_aload_n dX1_newMean_0 rfl rfl ?_
  refine zr_getI zz_cX1 zz_C25 3 (by decide) rfl zf_X1_21 dX1_newMean_1 ?_
  refine zr_if_le 22 dX1_newMean_4 (by decide) (fun q => ?_) (fun q => ?_)
  · have hw := hw.1 q
    refine zr_iconst dX1_newMean_22 zqk_0 ?_
    exact zr_ret rfl rfl dX1_newMean_23 ⟨rfl, hw⟩
  · have hw := hw.2 q
    refine zr_bipush dX1_newMean_7 zbk_10 ?_
    refine zr_aload_n dX1_newMean_9 rfl rfl ?_
    refine zr_getI zz_cX1 zz_C25 7 (by decide) rfl zf_X1_34 dX1_newMean_10 ?_
    refine zr_imul dX1_newMean_13 ?_
    refine zr_aload_n dX1_newMean_14 rfl rfl ?_
    refine zr_getI zz_cX1 zz_C25 3 (by decide) rfl zf_X1_21 dX1_newMean_15 ?_
    obtain ⟨hne, hw⟩ := hw
    refine zr_idiv dX1_newMean_18 hne ?_
    refine zr_goto 23 dX1_newMean_19 (by decide) ?_
    exact zr_ret rfl rfl dX1_newMean_23 ⟨rfl, hw⟩
def wX1_spreadIn_b17 (p1 : Int32) (h0 : zz_H) (x2 : Int32) (K3 : Int32 × Int32 → Prop) (K6 : Int32 × Int32 → Prop) (x4 : Int32) (x5 : Int32) : Prop :=
  (((h0 25 3) ≤ x5) → (K3 (x4, (x2 + 1)))) ∧ ((¬ (h0 25 3) ≤ x5) → (wX1_scoreOf x2 p1 h0 (fun r7 => wX1_scoreOf x5 p1 h0 (fun r8 => K6 ((x4 + (zz_abs (r7 - r8))), (x5 + 1))))))
def wX1_spreadIn_b4 (p1 : Int32) (h0 : zz_H) (post : Int32 → Prop) (K3 : Int32 × Int32 → Prop) (x1 : Int32) (x2 : Int32) : Prop :=
  (((h0 25 3) ≤ x2) → (post x1)) ∧ ((¬ (h0 25 3) ≤ x2) → (∃ t9, zz_lp (fun K (s : Int32 × Int32) => wX1_spreadIn_b17 p1 h0 x2 K3 K s.1 s.2) t9 (x1, (x2 + (1 : Int32)))))
def wX1_spreadIn (p1 : Int32) (h0 : zz_H) (post : Int32 → Prop) : Prop :=
  ∃ t9, zz_lp (fun K (s : Int32 × Int32) => wX1_spreadIn_b4 p1 h0 post K s.1 s.2) t9 ((0 : Int32), (0 : Int32))
set_option maxRecDepth 20000 in
set_option maxHeartbeats 4000000 in
theorem ctX1_spreadIn (p1 : Int32) (h0 : zz_H) (post : Int32 → Prop) (hw : wX1_spreadIn p1 h0 post) : zz_Ct zz_C 1 yX1_spreadIn cX1_spreadIn 5 (some .int) [.ref 25, .int p1] h0 (zz_pu h0 post) := by
  refine zz_ct (L := [.ref 25, .int p1, .null, .null, .null]) (by decide +kernel) (Nat.le_of_ble_eq_true rfl) (fun ad q hq => hq) ?_
  show zz_Go zz_C 1 cX1_spreadIn RX1 5 (some .int) (zz_pu h0 post) 0 [] [.ref 25, .int p1, .null, .null, .null] h0
  unfold wX1_spreadIn at hw
  refine zr_iconst dX1_spreadIn_0 zqk_0 ?_
  refine zr_istore_n [.ref 25, .int p1, .int (0 : Int32), .null, .null] dX1_spreadIn_1 rfl (by decide) rfl rfl ?_
  refine zr_iconst dX1_spreadIn_2 zqk_0 ?_
  refine zr_istore_n [.ref 25, .int p1, .int (0 : Int32), .int (0 : Int32), .null] dX1_spreadIn_3 rfl (by decide) rfl rfl ?_
  obtain ⟨t9, hw⟩ := hw
  have step4 : ∀ (K3 : Int32 × Int32 → Prop), (∀ (x1 : Int32) (x2 : Int32), K3 (x1, x2) → zz_Go zz_C 1 cX1_spreadIn RX1 5 (some .int) (zz_pu h0 post) 4 [] [.ref 25, .int p1, .int x1, .int x2, .null] h0) → ∀ (x1 : Int32) (x2 : Int32), wX1_spreadIn_b4 p1 h0 post K3 x1 x2 → zz_Go zz_C 1 cX1_spreadIn RX1 5 (some .int) (zz_pu h0 post) 4 [] [.ref 25, .int p1, .int x1, .int x2, .null] h0 := by
    intro K3 ih4 x1 x2 hw
    unfold wX1_spreadIn_b4 at hw
    refine zr_iload_n dX1_spreadIn_4 rfl rfl ?_
    refine zr_aload_n dX1_spreadIn_5 rfl rfl ?_
    refine zr_getI zz_cX1 zz_C25 3 (by decide) rfl zf_X1_21 dX1_spreadIn_6 ?_
    refine zr_icmp_ge 58 dX1_spreadIn_9 (by decide) (fun q => ?_) (fun q => ?_)
    · have hw := hw.1 q
      refine zr_iload_n dX1_spreadIn_58 rfl rfl ?_
      exact zr_ret rfl rfl dX1_spreadIn_59 ⟨rfl, hw⟩
    · have hw := hw.2 q
      refine zr_iload_n dX1_spreadIn_12 rfl rfl ?_
      refine zr_iconst dX1_spreadIn_13 zqk_1 ?_
      refine zr_iadd dX1_spreadIn_14 ?_
      refine zr_istore [.ref 25, .int p1, .int x1, .int x2, .int (x2 + (1 : Int32))] dX1_spreadIn_15 (by decide) rfl rfl ?_
      obtain ⟨t9, hw⟩ := hw
      have step17 : ∀ (K6 : Int32 × Int32 → Prop), (∀ (x4 : Int32) (x5 : Int32), K6 (x4, x5) → zz_Go zz_C 1 cX1_spreadIn RX1 5 (some .int) (zz_pu h0 post) 17 [] [.ref 25, .int p1, .int x4, .int x2, .int x5] h0) → ∀ (x4 : Int32) (x5 : Int32), wX1_spreadIn_b17 p1 h0 x2 K3 K6 x4 x5 → zz_Go zz_C 1 cX1_spreadIn RX1 5 (some .int) (zz_pu h0 post) 17 [] [.ref 25, .int p1, .int x4, .int x2, .int x5] h0 := by
        intro K6 ih17 x4 x5 hw
        unfold wX1_spreadIn_b17 at hw
        refine zr_iload dX1_spreadIn_17 rfl ?_
        refine zr_aload_n dX1_spreadIn_19 rfl rfl ?_
        refine zr_getI zz_cX1 zz_C25 3 (by decide) rfl zf_X1_21 dX1_spreadIn_20 ?_
        refine zr_icmp_ge 52 dX1_spreadIn_23 (by decide) (fun q => ?_) (fun q => ?_)
        · have hw := hw.1 q
          refine zr_iinc (x2 + 1) [.ref 25, .int p1, .int x4, .int (x2 + 1), .int x5] dX1_spreadIn_52 rfl (zok_1 _) (by decide) rfl rfl ?_
          refine zr_goto 4 dX1_spreadIn_55 (by decide) ?_
          refine zr_sub [.ref 25, .int p1, .int x4, .int (x2 + 1), .null] ⟨Or.inr rfl, ⟨Or.inr rfl, ⟨Or.inr rfl, ⟨Or.inr rfl, ⟨Or.inl rfl, trivial⟩⟩⟩⟩⟩ ?_
          exact ih4 _ _ hw
        · have hw := hw.2 q
          refine zr_iload_n dX1_spreadIn_26 rfl rfl ?_
          refine zr_aload_n dX1_spreadIn_27 rfl rfl ?_
          refine zr_iload_n dX1_spreadIn_28 rfl rfl ?_
          refine zr_iload_n dX1_spreadIn_29 rfl rfl ?_
          refine zr_pVi zz_cX1 zz_C25 (ctX1_scoreOf x2 p1 h0 _ hw) zy_X1_scoreOf zm_X1_67 (by decide) rfl rfl (Nat.le_of_ble_eq_true rfl) dX1_spreadIn_30 (fun r7 hw => ?_)
          refine zr_aload_n dX1_spreadIn_33 rfl rfl ?_
          refine zr_iload dX1_spreadIn_34 rfl ?_
          refine zr_iload_n dX1_spreadIn_36 rfl rfl ?_
          refine zr_pVi zz_cX1 zz_C25 (ctX1_scoreOf x5 p1 h0 _ hw) zy_X1_scoreOf zm_X1_67 (by decide) rfl rfl (Nat.le_of_ble_eq_true rfl) dX1_spreadIn_37 (fun r8 hw => ?_)
          refine zr_isub dX1_spreadIn_40 ?_
          refine zr_abs zm_X1_75 zt_Math_abs_name zn_J9 zc_Math_abs_name (by decide) (Nat.le_of_ble_eq_true rfl) dX1_spreadIn_41 ?_
          refine zr_iadd dX1_spreadIn_44 ?_
          refine zr_istore_n [.ref 25, .int p1, .int (x4 + (zz_abs (r7 - r8))), .int x2, .int x5] dX1_spreadIn_45 rfl (by decide) rfl rfl ?_
          refine zr_iinc (x5 + 1) [.ref 25, .int p1, .int (x4 + (zz_abs (r7 - r8))), .int x2, .int (x5 + 1)] dX1_spreadIn_46 rfl (zok_1 _) (by decide) rfl rfl ?_
          refine zr_goto 17 dX1_spreadIn_49 (by decide) ?_
          exact ih17 _ _ hw
      have key17 : ∀ (t9 : Nat) (x4 : Int32) (x5 : Int32), zz_lp (fun K (s : Int32 × Int32) => wX1_spreadIn_b17 p1 h0 x2 K3 K s.1 s.2) t9 (x4, x5) → zz_Go zz_C 1 cX1_spreadIn RX1 5 (some .int) (zz_pu h0 post) 17 [] [.ref 25, .int p1, .int x4, .int x2, .int x5] h0 := by
        intro t9
        induction t9 with
        | zero => intro x4 x5 hw; exact hw.elim
        | succ t9 ih => intro x4 x5 hw; exact step17 _ ih _ _ hw
      exact key17 t9 _ _ hw
  have key4 : ∀ (t9 : Nat) (x1 : Int32) (x2 : Int32), zz_lp (fun K (s : Int32 × Int32) => wX1_spreadIn_b4 p1 h0 post K s.1 s.2) t9 (x1, x2) → zz_Go zz_C 1 cX1_spreadIn RX1 5 (some .int) (zz_pu h0 post) 4 [] [.ref 25, .int p1, .int x1, .int x2, .null] h0 := by
    intro t9
    induction t9 with
    | zero => intro x1 x2 hw; exact hw.elim
    | succ t9 ih => intro x1 x2 hw; exact step4 _ ih _ _ hw
  exact key4 t9 _ _ hw
def wX1_stretched (p1 : Int32) (h0 : zz_H) (post : Int32 → Prop) : Prop :=
  wX1_greatestRaw h0 (fun r1 => ((r1 ≤ 0) → (post (0 : Int32))) ∧ ((¬ r1 ≤ 0) → (vp_in p1 12 ∧ (¬ r1 = 0 ∧ (post (((100 : Int32) * (h0 28 p1.toNatClampNeg)) / r1))))))
set_option maxRecDepth 20000 in
set_option maxHeartbeats 4000000 in
theorem ctX1_stretched (p1 : Int32) (h0 : zz_H) (post : Int32 → Prop) (hw : wX1_stretched p1 h0 post) : zz_Ct zz_C 2 yX1_stretched cX1_stretched 3 (some .int) [.ref 25, .int p1] h0 (zz_pu h0 post) := by
  refine zz_ct (L := [.ref 25, .int p1, .null]) (by decide +kernel) (Nat.le_of_ble_eq_true rfl) (fun ad q hq => hq) ?_
  show zz_Go zz_C 2 cX1_stretched RX1 3 (some .int) (zz_pu h0 post) 0 [] [.ref 25, .int p1, .null] h0
  unfold wX1_stretched at hw
  refine zr_aload_n dX1_stretched_0 rfl rfl ?_
  refine zr_pVi zz_cX1 zz_C25 (ctX1_greatestRaw h0 _ hw) zy_X1_greatestRaw zm_X1_98 (by decide) rfl rfl (Nat.le_of_ble_eq_true rfl) dX1_stretched_1 (fun r1 hw => ?_)
  refine zr_istore_n [.ref 25, .int p1, .int r1] dX1_stretched_4 rfl (by decide) rfl rfl ?_
  refine zr_iload_n dX1_stretched_5 rfl rfl ?_
  refine zr_if_le 23 dX1_stretched_6 (by decide) (fun q => ?_) (fun q => ?_)
  · have hw := hw.1 q
    refine zr_iconst dX1_stretched_23 zqk_0 ?_
    exact zr_ret rfl rfl dX1_stretched_24 ⟨rfl, hw⟩
  · have hw := hw.2 q
    refine zr_bipush dX1_stretched_9 zbk_100 ?_
    refine zr_aload_n dX1_stretched_11 rfl rfl ?_
    refine zr_getR zz_cX1 zz_C25 2 (by decide) rfl zf_X1_18 dX1_stretched_12 ?_
    refine zr_iload_n dX1_stretched_15 rfl rfl ?_
    obtain ⟨hi, hw⟩ := hw
    refine zr_iald zz_C28 hi rfl dX1_stretched_16 ?_
    refine zr_imul dX1_stretched_17 ?_
    refine zr_iload_n dX1_stretched_18 rfl rfl ?_
    obtain ⟨hne, hw⟩ := hw
    refine zr_idiv dX1_stretched_19 hne ?_
    refine zr_goto 24 dX1_stretched_20 (by decide) ?_
    exact zr_ret rfl rfl dX1_stretched_24 ⟨rfl, hw⟩
def wX1_rootOf_b2 (p1 : Int32) (post : Int32 → Prop) (K2 : Int32 → Prop) (x1 : Int32) : Prop :=
  (((100 : Int32) ≤ x1) → (post x1)) ∧ ((¬ (100 : Int32) ≤ x1) → (((p1 < ((x1 + (1 : Int32)) * (x1 + (1 : Int32)))) → (post x1)) ∧ ((¬ p1 < ((x1 + (1 : Int32)) * (x1 + (1 : Int32)))) → (K2 (x1 + 1)))))
def wX1_rootOf (p1 : Int32) (h0 : zz_H) (post : Int32 → Prop) : Prop :=
  ∃ t9, zz_lp (fun K (s : Int32) => wX1_rootOf_b2 p1 post K s) t9 (0 : Int32)
set_option maxRecDepth 20000 in
set_option maxHeartbeats 4000000 in
theorem ctX1_rootOf (p1 : Int32) (h0 : zz_H) (post : Int32 → Prop) (hw : wX1_rootOf p1 h0 post) : zz_Ct zz_C 0 yX1_rootOf cX1_rootOf 2 (some .int) [.int p1] h0 (zz_pu h0 post) := by
  refine zz_ct (L := [.int p1, .null]) (by decide +kernel) (Nat.le_of_ble_eq_true rfl) (fun ad q hq => hq) ?_
  show zz_Go zz_C 0 cX1_rootOf RX1 2 (some .int) (zz_pu h0 post) 0 [] [.int p1, .null] h0
  unfold wX1_rootOf at hw
  refine zr_iconst dX1_rootOf_0 zqk_0 ?_
  refine zr_istore_n [.int p1, .int (0 : Int32)] dX1_rootOf_1 rfl (by decide) rfl rfl ?_
  obtain ⟨t9, hw⟩ := hw
  have step2 : ∀ (K2 : Int32 → Prop), (∀ (x1 : Int32), K2 x1 → zz_Go zz_C 0 cX1_rootOf RX1 2 (some .int) (zz_pu h0 post) 2 [] [.int p1, .int x1] h0) → ∀ (x1 : Int32), wX1_rootOf_b2 p1 post K2 x1 → zz_Go zz_C 0 cX1_rootOf RX1 2 (some .int) (zz_pu h0 post) 2 [] [.int p1, .int x1] h0 := by
    intro K2 ih2 x1 hw
    unfold wX1_rootOf_b2 at hw
    refine zr_iload_n dX1_rootOf_2 rfl rfl ?_
    refine zr_bipush dX1_rootOf_3 zbk_100 ?_
    refine zr_icmp_ge 25 dX1_rootOf_5 (by decide) (fun q => ?_) (fun q => ?_)
    · have hw := hw.1 q
      refine zr_iload_n dX1_rootOf_25 rfl rfl ?_
      exact zr_ret rfl rfl dX1_rootOf_26 ⟨rfl, hw⟩
    · have hw := hw.2 q
      refine zr_iload_n dX1_rootOf_8 rfl rfl ?_
      refine zr_iconst dX1_rootOf_9 zqk_1 ?_
      refine zr_iadd dX1_rootOf_10 ?_
      refine zr_iload_n dX1_rootOf_11 rfl rfl ?_
      refine zr_iconst dX1_rootOf_12 zqk_1 ?_
      refine zr_iadd dX1_rootOf_13 ?_
      refine zr_imul dX1_rootOf_14 ?_
      refine zr_iload_n dX1_rootOf_15 rfl rfl ?_
      refine zr_icmp_gt 25 dX1_rootOf_16 (by decide) (fun q => ?_) (fun q => ?_)
      · have hw := hw.1 q
        refine zr_iload_n dX1_rootOf_25 rfl rfl ?_
        exact zr_ret rfl rfl dX1_rootOf_26 ⟨rfl, hw⟩
      · have hw := hw.2 q
        refine zr_iinc (x1 + 1) [.int p1, .int (x1 + 1)] dX1_rootOf_19 rfl (zok_1 _) (by decide) rfl rfl ?_
        refine zr_goto 2 dX1_rootOf_22 (by decide) ?_
        exact ih2 _ hw
  have key2 : ∀ (t9 : Nat) (x1 : Int32), zz_lp (fun K (s : Int32) => wX1_rootOf_b2 p1 post K s) t9 x1 → zz_Go zz_C 0 cX1_rootOf RX1 2 (some .int) (zz_pu h0 post) 2 [] [.int p1, .int x1] h0 := by
    intro t9
    induction t9 with
    | zero => intro x1 hw; exact hw.elim
    | succ t9 ih => intro x1 hw; exact step2 _ ih _ hw
  exact key2 t9 _ hw
def wX1_shared_j39 (p1 : Int32) (h0 : zz_H) (post : Int32 → Prop) (x1 : Int32) : Prop :=
  (((p1 * (h0 25 3)) < ((100 : Int32) * x1)) → ((((((p1 + (100 : Int32)) / (2 : Int32)) * (h0 25 3)) < ((100 : Int32) * x1)) → (post (30 : Int32))) ∧ ((¬ (((p1 + (100 : Int32)) / (2 : Int32)) * (h0 25 3)) < ((100 : Int32) * x1)) → (post (60 : Int32))))) ∧ ((¬ (p1 * (h0 25 3)) < ((100 : Int32) * x1)) → (post (100 : Int32)))
def wX1_shared_b5 (p1 : Int32) (p2 : Int32) (h0 : zz_H) (post : Int32 → Prop) (K3 : Int32 × Int32 → Prop) (x1 : Int32) (x2 : Int32) : Prop :=
  (((h0 25 3) ≤ x2) → (wX1_shared_j39 p1 h0 post x1)) ∧ ((¬ (h0 25 3) ≤ x2) → (vp_in x2 12 ∧ (vp_in p2 12 ∧ ((((h0 28 x2.toNatClampNeg) ≤ (h0 28 p2.toNatClampNeg)) → (K3 (x1, (x2 + 1)))) ∧ ((¬ (h0 28 x2.toNatClampNeg) ≤ (h0 28 p2.toNatClampNeg)) → (K3 ((x1 + 1), (x2 + 1))))))))
def wX1_shared (p1 : Int32) (p2 : Int32) (h0 : zz_H) (post : Int32 → Prop) : Prop :=
  ∃ t9, zz_lp (fun K (s : Int32 × Int32) => wX1_shared_b5 p1 p2 h0 post K s.1 s.2) t9 ((1 : Int32), (0 : Int32))
set_option maxRecDepth 20000 in
set_option maxHeartbeats 4000000 in
theorem ctX1_shared (p1 : Int32) (p2 : Int32) (h0 : zz_H) (post : Int32 → Prop) (hw : wX1_shared p1 p2 h0 post) : zz_Ct zz_C 0 yX1_shared cX1_shared 5 (some .int) [.ref 25, .int p1, .int p2] h0 (zz_pu h0 post) := by
  refine zz_ct (L := [.ref 25, .int p1, .int p2, .null, .null]) (by decide +kernel) (Nat.le_of_ble_eq_true rfl) (fun ad q hq => hq) ?_
  show zz_Go zz_C 0 cX1_shared RX1 5 (some .int) (zz_pu h0 post) 0 [] [.ref 25, .int p1, .int p2, .null, .null] h0
  unfold wX1_shared at hw
  refine zr_iconst dX1_shared_0 zqk_1 ?_
  refine zr_istore_n [.ref 25, .int p1, .int p2, .int (1 : Int32), .null] dX1_shared_1 rfl (by decide) rfl rfl ?_
  refine zr_iconst dX1_shared_2 zqk_0 ?_
  refine zr_istore [.ref 25, .int p1, .int p2, .int (1 : Int32), .int (0 : Int32)] dX1_shared_3 (by decide) rfl rfl ?_
  obtain ⟨t9, hw⟩ := hw
  have step5 : ∀ (K3 : Int32 × Int32 → Prop), (∀ (x1 : Int32) (x2 : Int32), K3 (x1, x2) → zz_Go zz_C 0 cX1_shared RX1 5 (some .int) (zz_pu h0 post) 5 [] [.ref 25, .int p1, .int p2, .int x1, .int x2] h0) → ∀ (x1 : Int32) (x2 : Int32), wX1_shared_b5 p1 p2 h0 post K3 x1 x2 → zz_Go zz_C 0 cX1_shared RX1 5 (some .int) (zz_pu h0 post) 5 [] [.ref 25, .int p1, .int p2, .int x1, .int x2] h0 := by
    intro K3 ih5 x1 x2 hw
    unfold wX1_shared_b5 at hw
    refine zr_iload dX1_shared_5 rfl ?_
    refine zr_aload_n dX1_shared_7 rfl rfl ?_
    refine zr_getI zz_cX1 zz_C25 3 (by decide) rfl zf_X1_21 dX1_shared_8 ?_
    have j39 : wX1_shared_j39 p1 h0 post x1 → zz_Go zz_C 0 cX1_shared RX1 5 (some .int) (zz_pu h0 post) 39 [] [.ref 25, .int p1, .null, .int x1, .null] h0 := by
      intro hw
      unfold wX1_shared_j39 at hw
      refine zr_bipush dX1_shared_39 zbk_100 ?_
      refine zr_iload_n dX1_shared_41 rfl rfl ?_
      refine zr_imul dX1_shared_42 ?_
      refine zr_iload_n dX1_shared_43 rfl rfl ?_
      refine zr_aload_n dX1_shared_44 rfl rfl ?_
      refine zr_getI zz_cX1 zz_C25 3 (by decide) rfl zf_X1_21 dX1_shared_45 ?_
      refine zr_imul dX1_shared_48 ?_
      refine zr_icmp_gt 55 dX1_shared_49 (by decide) (fun q => ?_) (fun q => ?_)
      · have hw := hw.1 q
        refine zr_bipush dX1_shared_55 zbk_100 ?_
        refine zr_iload_n dX1_shared_57 rfl rfl ?_
        refine zr_imul dX1_shared_58 ?_
        refine zr_iload_n dX1_shared_59 rfl rfl ?_
        refine zr_bipush dX1_shared_60 zbk_100 ?_
        refine zr_iadd dX1_shared_62 ?_
        refine zr_iconst dX1_shared_63 zqk_2 ?_
        refine zr_idiv dX1_shared_64 (by decide) ?_
        refine zr_aload_n dX1_shared_65 rfl rfl ?_
        refine zr_getI zz_cX1 zz_C25 3 (by decide) rfl zf_X1_21 dX1_shared_66 ?_
        refine zr_imul dX1_shared_69 ?_
        refine zr_icmp_gt 78 dX1_shared_70 (by decide) (fun q => ?_) (fun q => ?_)
        · have hw := hw.1 q
          refine zr_bipush dX1_shared_78 zbk_30 ?_
          exact zr_ret rfl rfl dX1_shared_80 ⟨rfl, hw⟩
        · have hw := hw.2 q
          refine zr_bipush dX1_shared_73 zbk_60 ?_
          refine zr_goto 80 dX1_shared_75 (by decide) ?_
          exact zr_ret rfl rfl dX1_shared_80 ⟨rfl, hw⟩
      · have hw := hw.2 q
        refine zr_bipush dX1_shared_52 zbk_100 ?_
        exact zr_ret rfl rfl dX1_shared_54 ⟨rfl, hw⟩
    refine zr_icmp_ge 39 dX1_shared_11 (by decide) (fun q => ?_) (fun q => ?_)
    · have hw := hw.1 q
      refine zr_sub [.ref 25, .int p1, .null, .int x1, .null] ⟨Or.inr rfl, ⟨Or.inr rfl, ⟨Or.inl rfl, ⟨Or.inr rfl, ⟨Or.inl rfl, trivial⟩⟩⟩⟩⟩ ?_
      exact j39 hw
    · have hw := hw.2 q
      refine zr_aload_n dX1_shared_14 rfl rfl ?_
      refine zr_getR zz_cX1 zz_C25 2 (by decide) rfl zf_X1_18 dX1_shared_15 ?_
      refine zr_iload dX1_shared_18 rfl ?_
      obtain ⟨hi, hw⟩ := hw
      refine zr_iald zz_C28 hi rfl dX1_shared_20 ?_
      refine zr_aload_n dX1_shared_21 rfl rfl ?_
      refine zr_getR zz_cX1 zz_C25 2 (by decide) rfl zf_X1_18 dX1_shared_22 ?_
      refine zr_iload_n dX1_shared_25 rfl rfl ?_
      obtain ⟨hi, hw⟩ := hw
      refine zr_iald zz_C28 hi rfl dX1_shared_26 ?_
      refine zr_icmp_le 33 dX1_shared_27 (by decide) (fun q => ?_) (fun q => ?_)
      · have hw := hw.1 q
        refine zr_iinc (x2 + 1) [.ref 25, .int p1, .int p2, .int x1, .int (x2 + 1)] dX1_shared_33 rfl (zok_1 _) (by decide) rfl rfl ?_
        refine zr_goto 5 dX1_shared_36 (by decide) ?_
        exact ih5 _ _ hw
      · have hw := hw.2 q
        refine zr_iinc (x1 + 1) [.ref 25, .int p1, .int p2, .int (x1 + 1), .int x2] dX1_shared_30 rfl (zok_1 _) (by decide) rfl rfl ?_
        refine zr_iinc (x2 + 1) [.ref 25, .int p1, .int p2, .int (x1 + 1), .int (x2 + 1)] dX1_shared_33 rfl (zok_1 _) (by decide) rfl rfl ?_
        refine zr_goto 5 dX1_shared_36 (by decide) ?_
        exact ih5 _ _ hw
  have key5 : ∀ (t9 : Nat) (x1 : Int32) (x2 : Int32), zz_lp (fun K (s : Int32 × Int32) => wX1_shared_b5 p1 p2 h0 post K s.1 s.2) t9 (x1, x2) → zz_Go zz_C 0 cX1_shared RX1 5 (some .int) (zz_pu h0 post) 5 [] [.ref 25, .int p1, .int p2, .int x1, .int x2] h0 := by
    intro t9
    induction t9 with
    | zero => intro x1 x2 hw; exact hw.elim
    | succ t9 ih => intro x1 x2 hw; exact step5 _ ih _ _ hw
  exact key5 t9 _ _ hw
def wX1_linked (p1 : Int32) (h0 : zz_H) (post : Int32 → Prop) : Prop :=
  vp_in p1 12 ∧ (wX1_newMean h0 (fun r1 => post (zz_max (0 : Int32) (zz_min (h0 25 4) ((h0 28 p1.toNatClampNeg) + (((h0 25 6) - r1) / (10 : Int32)))))))
set_option maxRecDepth 20000 in
set_option maxHeartbeats 4000000 in
theorem ctX1_linked (p1 : Int32) (h0 : zz_H) (post : Int32 → Prop) (hw : wX1_linked p1 h0 post) : zz_Ct zz_C 1 yX1_linked cX1_linked 3 (some .int) [.ref 25, .int p1] h0 (zz_pu h0 post) := by
  refine zz_ct (L := [.ref 25, .int p1, .null]) (by decide +kernel) (Nat.le_of_ble_eq_true rfl) (fun ad q hq => hq) ?_
  show zz_Go zz_C 1 cX1_linked RX1 3 (some .int) (zz_pu h0 post) 0 [] [.ref 25, .int p1, .null] h0
  unfold wX1_linked at hw
  refine zr_aload_n dX1_linked_0 rfl rfl ?_
  refine zr_getR zz_cX1 zz_C25 2 (by decide) rfl zf_X1_18 dX1_linked_1 ?_
  refine zr_iload_n dX1_linked_4 rfl rfl ?_
  obtain ⟨hi, hw⟩ := hw
  refine zr_iald zz_C28 hi rfl dX1_linked_5 ?_
  refine zr_aload_n dX1_linked_6 rfl rfl ?_
  refine zr_getI zz_cX1 zz_C25 6 (by decide) rfl zf_X1_31 dX1_linked_7 ?_
  refine zr_aload_n dX1_linked_10 rfl rfl ?_
  refine zr_pVi zz_cX1 zz_C25 (ctX1_newMean h0 _ hw) zy_X1_newMean zm_X1_101 (by decide) rfl rfl (Nat.le_of_ble_eq_true rfl) dX1_linked_11 (fun r1 hw => ?_)
  refine zr_isub dX1_linked_14 ?_
  refine zr_bipush dX1_linked_15 zbk_10 ?_
  refine zr_idiv dX1_linked_17 (by decide) ?_
  refine zr_iadd dX1_linked_18 ?_
  refine zr_istore_n [.ref 25, .int p1, .int ((h0 28 p1.toNatClampNeg) + (((h0 25 6) - r1) / (10 : Int32)))] dX1_linked_19 rfl (by decide) rfl rfl ?_
  refine zr_iconst dX1_linked_20 zqk_0 ?_
  refine zr_aload_n dX1_linked_21 rfl rfl ?_
  refine zr_getI zz_cX1 zz_C25 4 (by decide) rfl zf_X1_25 dX1_linked_22 ?_
  refine zr_iload_n dX1_linked_25 rfl rfl ?_
  refine zr_min zm_X1_72 zt_Math_min_name zn_J9 zc_Math_min_name (by decide) (Nat.le_of_ble_eq_true rfl) dX1_linked_26 ?_
  refine zr_max zm_X1_48 zt_Math_max_name zn_J9 zc_Math_max_name (by decide) (Nat.le_of_ble_eq_true rfl) dX1_linked_29 ?_
  exact zr_ret rfl rfl dX1_linked_32 ⟨rfl, hw⟩
def wX1_leavingOut (p1 : Int32) (p2 : Int32) (h0 : zz_H) (post : Int32 → Prop) : Prop :=
  vp_in p1 8 ∧ (vp_in p2 12 ∧ (wX1_scoreOf p2 p1 h0 (fun r1 => ((((h0 25 4) - (h0 26 p1.toNatClampNeg)) ≤ 0) → (post (0 : Int32))) ∧ ((¬ ((h0 25 4) - (h0 26 p1.toNatClampNeg)) ≤ 0) → (¬ ((h0 25 4) - (h0 26 p1.toNatClampNeg)) = 0 ∧ (post (((h0 25 4) * ((h0 28 p2.toNatClampNeg) - r1)) / ((h0 25 4) - (h0 26 p1.toNatClampNeg)))))))))
set_option maxRecDepth 20000 in
set_option maxHeartbeats 4000000 in
theorem ctX1_leavingOut (p1 : Int32) (p2 : Int32) (h0 : zz_H) (post : Int32 → Prop) (hw : wX1_leavingOut p1 p2 h0 post) : zz_Ct zz_C 1 yX1_leavingOut cX1_leavingOut 5 (some .int) [.ref 25, .int p1, .int p2] h0 (zz_pu h0 post) := by
  refine zz_ct (L := [.ref 25, .int p1, .int p2, .null, .null]) (by decide +kernel) (Nat.le_of_ble_eq_true rfl) (fun ad q hq => hq) ?_
  show zz_Go zz_C 1 cX1_leavingOut RX1 5 (some .int) (zz_pu h0 post) 0 [] [.ref 25, .int p1, .int p2, .null, .null] h0
  unfold wX1_leavingOut at hw
  refine zr_aload_n dX1_leavingOut_0 rfl rfl ?_
  refine zr_getI zz_cX1 zz_C25 4 (by decide) rfl zf_X1_25 dX1_leavingOut_1 ?_
  refine zr_aload_n dX1_leavingOut_4 rfl rfl ?_
  refine zr_getR zz_cX1 zz_C25 0 (by decide) rfl zf_X1_9 dX1_leavingOut_5 ?_
  refine zr_iload_n dX1_leavingOut_8 rfl rfl ?_
  obtain ⟨hi, hw⟩ := hw
  refine zr_iald zz_C26 hi rfl dX1_leavingOut_9 ?_
  refine zr_isub dX1_leavingOut_10 ?_
  refine zr_istore_n [.ref 25, .int p1, .int p2, .int ((h0 25 4) - (h0 26 p1.toNatClampNeg)), .null] dX1_leavingOut_11 rfl (by decide) rfl rfl ?_
  refine zr_aload_n dX1_leavingOut_12 rfl rfl ?_
  refine zr_getR zz_cX1 zz_C25 2 (by decide) rfl zf_X1_18 dX1_leavingOut_13 ?_
  refine zr_iload_n dX1_leavingOut_16 rfl rfl ?_
  obtain ⟨hi, hw⟩ := hw
  refine zr_iald zz_C28 hi rfl dX1_leavingOut_17 ?_
  refine zr_aload_n dX1_leavingOut_18 rfl rfl ?_
  refine zr_iload_n dX1_leavingOut_19 rfl rfl ?_
  refine zr_iload_n dX1_leavingOut_20 rfl rfl ?_
  refine zr_pVi zz_cX1 zz_C25 (ctX1_scoreOf p2 p1 h0 _ hw) zy_X1_scoreOf zm_X1_67 (by decide) rfl rfl (Nat.le_of_ble_eq_true rfl) dX1_leavingOut_21 (fun r1 hw => ?_)
  refine zr_isub dX1_leavingOut_24 ?_
  refine zr_istore [.ref 25, .int p1, .int p2, .int ((h0 25 4) - (h0 26 p1.toNatClampNeg)), .int ((h0 28 p2.toNatClampNeg) - r1)] dX1_leavingOut_25 (by decide) rfl rfl ?_
  refine zr_iload_n dX1_leavingOut_27 rfl rfl ?_
  refine zr_if_le 43 dX1_leavingOut_28 (by decide) (fun q => ?_) (fun q => ?_)
  · have hw := hw.1 q
    refine zr_iconst dX1_leavingOut_43 zqk_0 ?_
    exact zr_ret rfl rfl dX1_leavingOut_44 ⟨rfl, hw⟩
  · have hw := hw.2 q
    refine zr_aload_n dX1_leavingOut_31 rfl rfl ?_
    refine zr_getI zz_cX1 zz_C25 4 (by decide) rfl zf_X1_25 dX1_leavingOut_32 ?_
    refine zr_iload dX1_leavingOut_35 rfl ?_
    refine zr_imul dX1_leavingOut_37 ?_
    refine zr_iload_n dX1_leavingOut_38 rfl rfl ?_
    obtain ⟨hne, hw⟩ := hw
    refine zr_idiv dX1_leavingOut_39 hne ?_
    refine zr_goto 44 dX1_leavingOut_40 (by decide) ?_
    exact zr_ret rfl rfl dX1_leavingOut_44 ⟨rfl, hw⟩
def wX1_markOf (p1 : Int32) (p2 : Int32) (p3 : Int32) (h0 : zz_H) (post : Int32 → Prop) : Prop :=
  (p1 = (1 : Int32) → (vp_in p3 12 ∧ (post (zz_min ((h0 28 p3.toNatClampNeg) + p2) (h0 25 4))))) ∧ (p1 = (2 : Int32) → (wX1_stretched p3 h0 (fun r1 => post r1))) ∧ (p1 = (3 : Int32) → (wX1_stretched p3 h0 (fun r2 => wX1_rootOf ((100 : Int32) * r2) h0 (fun r3 => post r3)))) ∧ (p1 = (4 : Int32) → (wX1_shared p2 p3 h0 (fun r4 => post r4))) ∧ (p1 = (5 : Int32) → (wX1_linked p3 h0 (fun r5 => post r5))) ∧ (p1 = (6 : Int32) → (wX1_leavingOut (zz_rem p2 (8 : Int32)) p3 h0 (fun r6 => post r6))) ∧ ((¬ p1 = (1 : Int32)) → (¬ p1 = (2 : Int32)) → (¬ p1 = (3 : Int32)) → (¬ p1 = (4 : Int32)) → (¬ p1 = (5 : Int32)) → (¬ p1 = (6 : Int32)) → (vp_in p3 12 ∧ (post (h0 28 p3.toNatClampNeg))))
set_option maxRecDepth 20000 in
set_option maxHeartbeats 4000000 in
theorem ctX1_markOf (p1 : Int32) (p2 : Int32) (p3 : Int32) (h0 : zz_H) (post : Int32 → Prop) (hw : wX1_markOf p1 p2 p3 h0 post) : zz_Ct zz_C 3 yX1_markOf cX1_markOf 4 (some .int) [.ref 25, .int p1, .int p2, .int p3] h0 (zz_pu h0 post) := by
  refine zz_ct (L := [.ref 25, .int p1, .int p2, .int p3]) (by decide +kernel) (Nat.le_of_ble_eq_true rfl) (fun ad q hq => hq) ?_
  show zz_Go zz_C 3 cX1_markOf RX1 4 (some .int) (zz_pu h0 post) 0 [] [.ref 25, .int p1, .int p2, .int p3] h0
  unfold wX1_markOf at hw
  refine zr_iload_n dX1_markOf_0 rfl rfl ?_
  by_cases q1 : p1 = (1 : Int32)
  · have hw := hw.1 q1
    refine zr_tabIn 40 dX1_markOf_1 (by rw [q1]; decide) (by rw [q1]; decide) (off := 39) (by rw [q1]; decide) (by decide) ?_
    refine zr_aload_n dX1_markOf_40 rfl rfl ?_
    refine zr_getR zz_cX1 zz_C25 2 (by decide) rfl zf_X1_18 dX1_markOf_41 ?_
    refine zr_iload_n dX1_markOf_44 rfl rfl ?_
    obtain ⟨hi, hw⟩ := hw
    refine zr_iald zz_C28 hi rfl dX1_markOf_45 ?_
    refine zr_iload_n dX1_markOf_46 rfl rfl ?_
    refine zr_iadd dX1_markOf_47 ?_
    refine zr_aload_n dX1_markOf_48 rfl rfl ?_
    refine zr_getI zz_cX1 zz_C25 4 (by decide) rfl zf_X1_25 dX1_markOf_49 ?_
    refine zr_min zm_X1_72 zt_Math_min_name zn_J9 zc_Math_min_name (by decide) (Nat.le_of_ble_eq_true rfl) dX1_markOf_52 ?_
    exact zr_ret rfl rfl dX1_markOf_55 ⟨rfl, hw⟩
  by_cases q2 : p1 = (2 : Int32)
  · have hw := hw.2.1 q2
    refine zr_tabIn 56 dX1_markOf_1 (by rw [q2]; decide) (by rw [q2]; decide) (off := 55) (by rw [q2]; decide) (by decide) ?_
    refine zr_aload_n dX1_markOf_56 rfl rfl ?_
    refine zr_iload_n dX1_markOf_57 rfl rfl ?_
    refine zr_pVi zz_cX1 zz_C25 (ctX1_stretched p3 h0 _ hw) zy_X1_stretched zm_X1_83 (by decide) rfl rfl (Nat.le_of_ble_eq_true rfl) dX1_markOf_58 (fun r1 hw => ?_)
    exact zr_ret rfl rfl dX1_markOf_61 ⟨rfl, hw⟩
  by_cases q3 : p1 = (3 : Int32)
  · have hw := hw.2.2.1 q3
    refine zr_tabIn 62 dX1_markOf_1 (by rw [q3]; decide) (by rw [q3]; decide) (off := 61) (by rw [q3]; decide) (by decide) ?_
    refine zr_bipush dX1_markOf_62 zbk_100 ?_
    refine zr_aload_n dX1_markOf_64 rfl rfl ?_
    refine zr_iload_n dX1_markOf_65 rfl rfl ?_
    refine zr_pVi zz_cX1 zz_C25 (ctX1_stretched p3 h0 _ hw) zy_X1_stretched zm_X1_83 (by decide) rfl rfl (Nat.le_of_ble_eq_true rfl) dX1_markOf_66 (fun r2 hw => ?_)
    refine zr_imul dX1_markOf_69 ?_
    refine zr_pSi (ctX1_rootOf ((100 : Int32) * r2) h0 _ hw) zy_X1_rootOf zm_X1_86 (by decide) rfl rfl (Nat.le_of_ble_eq_true rfl) dX1_markOf_70 (fun r3 hw => ?_)
    exact zr_ret rfl rfl dX1_markOf_73 ⟨rfl, hw⟩
  by_cases q4 : p1 = (4 : Int32)
  · have hw := hw.2.2.2.1 q4
    refine zr_tabIn 74 dX1_markOf_1 (by rw [q4]; decide) (by rw [q4]; decide) (off := 73) (by rw [q4]; decide) (by decide) ?_
    refine zr_aload_n dX1_markOf_74 rfl rfl ?_
    refine zr_iload_n dX1_markOf_75 rfl rfl ?_
    refine zr_iload_n dX1_markOf_76 rfl rfl ?_
    refine zr_pVi zz_cX1 zz_C25 (ctX1_shared p2 p3 h0 _ hw) zy_X1_shared zm_X1_89 (by decide) rfl rfl (Nat.le_of_ble_eq_true rfl) dX1_markOf_77 (fun r4 hw => ?_)
    exact zr_ret rfl rfl dX1_markOf_80 ⟨rfl, hw⟩
  by_cases q5 : p1 = (5 : Int32)
  · have hw := hw.2.2.2.2.1 q5
    refine zr_tabIn 81 dX1_markOf_1 (by rw [q5]; decide) (by rw [q5]; decide) (off := 80) (by rw [q5]; decide) (by decide) ?_
    refine zr_aload_n dX1_markOf_81 rfl rfl ?_
    refine zr_iload_n dX1_markOf_82 rfl rfl ?_
    refine zr_pVi zz_cX1 zz_C25 (ctX1_linked p3 h0 _ hw) zy_X1_linked zm_X1_92 (by decide) rfl rfl (Nat.le_of_ble_eq_true rfl) dX1_markOf_83 (fun r5 hw => ?_)
    exact zr_ret rfl rfl dX1_markOf_86 ⟨rfl, hw⟩
  by_cases q6 : p1 = (6 : Int32)
  · have hw := hw.2.2.2.2.2.1 q6
    refine zr_tabIn 87 dX1_markOf_1 (by rw [q6]; decide) (by rw [q6]; decide) (off := 86) (by rw [q6]; decide) (by decide) ?_
    refine zr_aload_n dX1_markOf_87 rfl rfl ?_
    refine zr_iload_n dX1_markOf_88 rfl rfl ?_
    refine zr_bipush dX1_markOf_89 zbk_8 ?_
    refine zr_irem dX1_markOf_91 (by decide) ?_
    refine zr_iload_n dX1_markOf_92 rfl rfl ?_
    refine zr_pVi zz_cX1 zz_C25 (ctX1_leavingOut (zz_rem p2 (8 : Int32)) p3 h0 _ hw) zy_X1_leavingOut zm_X1_95 (by decide) rfl rfl (Nat.le_of_ble_eq_true rfl) dX1_markOf_93 (fun r6 hw => ?_)
    exact zr_ret rfl rfl dX1_markOf_96 ⟨rfl, hw⟩
  have hw := hw.2.2.2.2.2.2 q1 q2 q3 q4 q5 q6
  refine zr_tabOut 97 dX1_markOf_1 (zz_tout (fun j h1 h2 => by rcases (show j = 1 ∨ j = 2 ∨ j = 3 ∨ j = 4 ∨ j = 5 ∨ j = 6 by omega) with rfl | rfl | rfl | rfl | rfl | rfl <;> first | exact fun e => q1 (e.trans zqk_1) | exact fun e => q2 (e.trans zqk_2) | exact fun e => q3 (e.trans zqk_3) | exact fun e => q4 (e.trans zqk_4) | exact fun e => q5 (e.trans zqk_5) | exact fun e => q6 (e.trans zqk_6))) (by decide) ?_
  refine zr_aload_n dX1_markOf_97 rfl rfl ?_
  refine zr_getR zz_cX1 zz_C25 2 (by decide) rfl zf_X1_18 dX1_markOf_98 ?_
  refine zr_iload_n dX1_markOf_101 rfl rfl ?_
  obtain ⟨hi, hw⟩ := hw
  refine zr_iald zz_C28 hi rfl dX1_markOf_102 ?_
  exact zr_ret rfl rfl dX1_markOf_103 ⟨rfl, hw⟩
def wX1_markAll_b3 (p1 : Int32) (p2 : Int32) (k : Nat) (post : Int32 → zz_H → Prop) (K3 : Int32 × zz_H → Prop) (x1 : Int32) (h2 : zz_H) : Prop :=
  (((h2 25 3) ≤ x1) → (post 0 h2)) ∧ ((¬ (h2 25 3) ≤ x1) → (wX1_markOf p1 p2 x1 h2 (fun r4 => vp_in x1 12 ∧ zz_sto h2 k (upd (h2 k) x1.toNatClampNeg r4) (fun h5 => K3 ((x1 + 1), h5)))))
def wX1_markAll (p1 : Int32) (p2 : Int32) (k : Nat) (h0 : zz_H) (post : Int32 → zz_H → Prop) : Prop :=
  ∃ t9, zz_lp (fun K (s : Int32 × zz_H) => wX1_markAll_b3 p1 p2 k post K s.1 s.2) t9 ((0 : Int32), h0)
set_option maxRecDepth 20000 in
set_option maxHeartbeats 4000000 in
theorem ctX1_markAll (p1 : Int32) (p2 : Int32) (k : Nat) (hk : zz_C[k]? = some (.inl 12)) (h0 : zz_H) (post : Int32 → zz_H → Prop) (hw : wX1_markAll p1 p2 k h0 post) : zz_Ct zz_C 4 yX1_markAll cX1_markAll 5 none [.ref 25, .int p1, .int p2, .ref k] h0 post := by
  refine zz_ct (L := [.ref 25, .int p1, .int p2, .ref k, .null]) (by decide +kernel) (Nat.le_of_ble_eq_true rfl) (fun ad q hq => hq) ?_
  show zz_Go zz_C 4 cX1_markAll RX1 5 none post 0 [] [.ref 25, .int p1, .int p2, .ref k, .null] h0
  unfold wX1_markAll at hw
  refine zr_iconst dX1_markAll_0 zqk_0 ?_
  refine zr_istore [.ref 25, .int p1, .int p2, .ref k, .int (0 : Int32)] dX1_markAll_1 (by decide) rfl rfl ?_
  obtain ⟨t9, hw⟩ := hw
  have step3 : ∀ (K3 : Int32 × zz_H → Prop), (∀ (x1 : Int32) (h2 : zz_H), K3 (x1, h2) → zz_Go zz_C 4 cX1_markAll RX1 5 none post 3 [] [.ref 25, .int p1, .int p2, .ref k, .int x1] h2) → ∀ (x1 : Int32) (h2 : zz_H), wX1_markAll_b3 p1 p2 k post K3 x1 h2 → zz_Go zz_C 4 cX1_markAll RX1 5 none post 3 [] [.ref 25, .int p1, .int p2, .ref k, .int x1] h2 := by
    intro K3 ih3 x1 h2 hw
    unfold wX1_markAll_b3 at hw
    refine zr_iload dX1_markAll_3 rfl ?_
    refine zr_aload_n dX1_markAll_5 rfl rfl ?_
    refine zr_getI zz_cX1 zz_C25 3 (by decide) rfl zf_X1_21 dX1_markAll_6 ?_
    refine zr_icmp_ge 30 dX1_markAll_9 (by decide) (fun q => ?_) (fun q => ?_)
    · have hw := hw.1 q
      exact zr_vret rfl dX1_markAll_30 hw
    · have hw := hw.2 q
      refine zr_aload_n dX1_markAll_12 rfl rfl ?_
      refine zr_iload dX1_markAll_13 rfl ?_
      refine zr_aload_n dX1_markAll_15 rfl rfl ?_
      refine zr_iload_n dX1_markAll_16 rfl rfl ?_
      refine zr_iload_n dX1_markAll_17 rfl rfl ?_
      refine zr_iload dX1_markAll_18 rfl ?_
      refine zr_pVi zz_cX1 zz_C25 (ctX1_markOf p1 p2 x1 h2 _ hw) zy_X1_markOf zm_X1_79 (by decide) rfl rfl (Nat.le_of_ble_eq_true rfl) dX1_markAll_20 (fun r4 hw => ?_)
      obtain ⟨hi, hw⟩ := hw
      refine zr_iast hk hi rfl dX1_markAll_23 hw (fun h5 hw => ?_)
      refine zr_iinc (x1 + 1) [.ref 25, .int p1, .int p2, .ref k, .int (x1 + 1)] dX1_markAll_24 rfl (zok_1 _) (by decide) rfl rfl ?_
      refine zr_goto 3 dX1_markAll_27 (by decide) ?_
      exact ih3 _ _ hw
  have key3 : ∀ (t9 : Nat) (x1 : Int32) (h2 : zz_H), zz_lp (fun K (s : Int32 × zz_H) => wX1_markAll_b3 p1 p2 k post K s.1 s.2) t9 (x1, h2) → zz_Go zz_C 4 cX1_markAll RX1 5 none post 3 [] [.ref 25, .int p1, .int p2, .ref k, .int x1] h2 := by
    intro t9
    induction t9 with
    | zero => intro x1 h2 hw; exact hw.elim
    | succ t9 ih => intro x1 h2 hw; exact step3 _ ih _ _ hw
  exact key3 t9 _ _ hw
def wX2_isMissing (a : Nat) (h0 : zz_H) (post : Int32 → Prop) : Prop :=
  ((¬ (h0 a 1) = 0) → (post (0 : Int32))) ∧ (((h0 a 1) = 0) → (post (1 : Int32)))
set_option maxRecDepth 20000 in
set_option maxHeartbeats 4000000 in
theorem ctX2_isMissing (a : Nat) (ha : zz_ps a) (h0 : zz_H) (post : Int32 → Prop) (hw : wX2_isMissing a h0 post) : zz_Ct zz_C 0 yX2_isMissing cX2_isMissing 1 (some .boolean) [.ref a] h0 (zz_pu h0 post) := by
  refine zz_ct (L := [.ref a]) (by decide +kernel) (Nat.le_of_ble_eq_true rfl) (fun ad q hq => hq) ?_
  show zz_Go zz_C 0 cX2_isMissing RX2 1 (some .boolean) (zz_pu h0 post) 0 [] [.ref a] h0
  unfold wX2_isMissing at hw
  refine zr_aload_n dX2_isMissing_0 rfl rfl ?_
  refine zr_getI zz_cX2 (zz_psO ha) 1 (by decide) rfl zf_X2_13 dX2_isMissing_1 ?_
  refine zr_if_ne 11 dX2_isMissing_4 (by decide) (fun q => ?_) (fun q => ?_)
  · have hw := hw.1 q
    refine zr_iconst dX2_isMissing_11 zqk_0 ?_
    exact zr_ret rfl rfl dX2_isMissing_12 ⟨rfl, hw⟩
  · have hw := hw.2 q
    refine zr_iconst dX2_isMissing_7 zqk_1 ?_
    refine zr_goto 12 dX2_isMissing_8 (by decide) ?_
    exact zr_ret rfl rfl dX2_isMissing_12 ⟨rfl, hw⟩
def wX2_renew (a : Nat) (p1 : Int32) (p2 : Int32) (h0 : zz_H) (post : Int32 → zz_H → Prop) : Prop :=
  zz_sto h0 a (upd (h0 a) 1 p1) (fun h1 => ((¬ p1 = 0) → (zz_sto h1 a (upd (h1 a) 2 p2) (fun h2 => wJ7_fill_53178 (a + 1) 40 (0 : Int32) h2 (fun _ h3 => post 0 h3)))) ∧ ((p1 = 0) → (zz_sto h1 a (upd (h1 a) 2 (0 : Int32)) (fun h4 => wJ7_fill_53178 (a + 1) 40 (0 : Int32) h4 (fun _ h5 => post 0 h5)))))
set_option maxRecDepth 20000 in
set_option maxHeartbeats 4000000 in
theorem ctX2_renew (a : Nat) (p1 : Int32) (p2 : Int32) (ha : zz_ps a) (h0 : zz_H) (post : Int32 → zz_H → Prop) (hw : wX2_renew a p1 p2 h0 post) : zz_Ct zz_C 1 yX2_renew cX2_renew 3 none [.ref a, .int p1, .int p2] h0 post := by
  refine zz_ct (L := [.ref a, .int p1, .int p2]) (by decide +kernel) (Nat.le_of_ble_eq_true rfl) (fun ad q hq => hq) ?_
  show zz_Go zz_C 1 cX2_renew RX2 3 none post 0 [] [.ref a, .int p1, .int p2] h0
  unfold wX2_renew at hw
  refine zr_aload_n dX2_renew_0 rfl rfl ?_
  refine zr_iload_n dX2_renew_1 rfl rfl ?_
  refine zr_putI zz_cX2 (zz_psO ha) 1 (by decide) rfl rfl rfl rfl rfl zf_X2_13 dX2_renew_2 hw (fun h1 hw => ?_)
  refine zr_aload_n dX2_renew_5 rfl rfl ?_
  refine zr_iload_n dX2_renew_6 rfl rfl ?_
  refine zr_if_ne 14 dX2_renew_7 (by decide) (fun q => ?_) (fun q => ?_)
  · have hw := hw.1 q
    refine zr_iload_n dX2_renew_14 rfl rfl ?_
    refine zr_putI zz_cX2 (zz_psO ha) 2 (by decide) rfl rfl rfl rfl rfl zf_X2_17 dX2_renew_15 hw (fun h2 hw => ?_)
    refine zr_aload_n dX2_renew_18 rfl rfl ?_
    refine zr_getR zz_cX2 (zz_psO ha) 0 (by decide) rfl zf_X2_9 dX2_renew_19 ?_
    refine zr_iconst dX2_renew_22 zqk_0 ?_
    refine zr_callSv (ctJ7_fill_53178 (a + 1) 40 (0 : Int32) (zz_psA0 ha) h2 _ hw) zy_J7_fill_53178 zm_X2_20 (by decide) rfl rfl (Nat.le_of_ble_eq_true rfl) dX2_renew_23 (fun h3 hw => ?_)
    exact zr_vret rfl dX2_renew_26 hw
  · have hw := hw.2 q
    refine zr_iconst dX2_renew_10 zqk_0 ?_
    refine zr_goto 15 dX2_renew_11 (by decide) ?_
    refine zr_putI zz_cX2 (zz_psO ha) 2 (by decide) rfl rfl rfl rfl rfl zf_X2_17 dX2_renew_15 hw (fun h4 hw => ?_)
    refine zr_aload_n dX2_renew_18 rfl rfl ?_
    refine zr_getR zz_cX2 (zz_psO ha) 0 (by decide) rfl zf_X2_9 dX2_renew_19 ?_
    refine zr_iconst dX2_renew_22 zqk_0 ?_
    refine zr_callSv (ctJ7_fill_53178 (a + 1) 40 (0 : Int32) (zz_psA0 ha) h4 _ hw) zy_J7_fill_53178 zm_X2_20 (by decide) rfl rfl (Nat.le_of_ble_eq_true rfl) dX2_renew_23 (fun h5 hw => ?_)
    exact zr_vret rfl dX2_renew_26 hw
def wX2_put (a : Nat) (p1 : Int32) (p2 : Int32) (h0 : zz_H) (post : Int32 → zz_H → Prop) : Prop :=
  vp_in p1 40 ∧ zz_sto h0 (a + 1) (upd (h0 (a + 1)) p1.toNatClampNeg ((p2 <<< (((32 : Int32) - (h0 a 1)) &&& 31)) >>> (((32 : Int32) - (h0 a 1)) &&& 31))) (fun h1 => post 0 h1)
set_option maxRecDepth 20000 in
set_option maxHeartbeats 4000000 in
theorem ctX2_put (a : Nat) (p1 : Int32) (p2 : Int32) (ha : zz_ps a) (h0 : zz_H) (post : Int32 → zz_H → Prop) (hw : wX2_put a p1 p2 h0 post) : zz_Ct zz_C 0 yX2_put cX2_put 4 none [.ref a, .int p1, .int p2] h0 post := by
  refine zz_ct (L := [.ref a, .int p1, .int p2, .null]) (by decide +kernel) (Nat.le_of_ble_eq_true rfl) (fun ad q hq => hq) ?_
  show zz_Go zz_C 0 cX2_put RX2 4 none post 0 [] [.ref a, .int p1, .int p2, .null] h0
  unfold wX2_put at hw
  refine zr_bipush dX2_put_0 zbk_32 ?_
  refine zr_aload_n dX2_put_2 rfl rfl ?_
  refine zr_getI zz_cX2 (zz_psO ha) 1 (by decide) rfl zf_X2_13 dX2_put_3 ?_
  refine zr_isub dX2_put_6 ?_
  refine zr_istore_n [.ref a, .int p1, .int p2, .int ((32 : Int32) - (h0 a 1))] dX2_put_7 rfl (by decide) rfl rfl ?_
  refine zr_aload_n dX2_put_8 rfl rfl ?_
  refine zr_getR zz_cX2 (zz_psO ha) 0 (by decide) rfl zf_X2_9 dX2_put_9 ?_
  refine zr_iload_n dX2_put_12 rfl rfl ?_
  refine zr_iload_n dX2_put_13 rfl rfl ?_
  refine zr_iload_n dX2_put_14 rfl rfl ?_
  refine zr_ishl dX2_put_15 ?_
  refine zr_iload_n dX2_put_16 rfl rfl ?_
  refine zr_ishr dX2_put_17 ?_
  obtain ⟨hi, hw⟩ := hw
  refine zr_iast (zz_psA0 ha) hi rfl dX2_put_18 hw (fun h1 hw => ?_)
  exact zr_vret rfl dX2_put_19 hw
def wX2_hasRun (a : Nat) (p1 : Int32) (p2 : Int32) (h0 : zz_H) (post : Int32 → Prop) : Prop :=
  ((p1 < 0) → (post (0 : Int32))) ∧ ((¬ p1 < 0) → (((p2 < 0) → (post (0 : Int32))) ∧ ((¬ p2 < 0) → ((((h0 a 2) < p2) → (post (0 : Int32))) ∧ ((¬ (h0 a 2) < p2) → (((((h0 a 2) - p2) < p1) → (post (0 : Int32))) ∧ ((¬ ((h0 a 2) - p2) < p1) → (post (1 : Int32)))))))))
set_option maxRecDepth 20000 in
set_option maxHeartbeats 4000000 in
theorem ctX2_hasRun (a : Nat) (p1 : Int32) (p2 : Int32) (ha : zz_ps a) (h0 : zz_H) (post : Int32 → Prop) (hw : wX2_hasRun a p1 p2 h0 post) : zz_Ct zz_C 0 yX2_hasRun cX2_hasRun 3 (some .boolean) [.ref a, .int p1, .int p2] h0 (zz_pu h0 post) := by
  refine zz_ct (L := [.ref a, .int p1, .int p2]) (by decide +kernel) (Nat.le_of_ble_eq_true rfl) (fun ad q hq => hq) ?_
  show zz_Go zz_C 0 cX2_hasRun RX2 3 (some .boolean) (zz_pu h0 post) 0 [] [.ref a, .int p1, .int p2] h0
  unfold wX2_hasRun at hw
  refine zr_iload_n dX2_hasRun_0 rfl rfl ?_
  refine zr_if_lt 30 dX2_hasRun_1 (by decide) (fun q => ?_) (fun q => ?_)
  · have hw := hw.1 q
    refine zr_iconst dX2_hasRun_30 zqk_0 ?_
    exact zr_ret rfl rfl dX2_hasRun_31 ⟨rfl, hw⟩
  · have hw := hw.2 q
    refine zr_iload_n dX2_hasRun_4 rfl rfl ?_
    refine zr_if_lt 30 dX2_hasRun_5 (by decide) (fun q => ?_) (fun q => ?_)
    · have hw := hw.1 q
      refine zr_iconst dX2_hasRun_30 zqk_0 ?_
      exact zr_ret rfl rfl dX2_hasRun_31 ⟨rfl, hw⟩
    · have hw := hw.2 q
      refine zr_iload_n dX2_hasRun_8 rfl rfl ?_
      refine zr_aload_n dX2_hasRun_9 rfl rfl ?_
      refine zr_getI zz_cX2 (zz_psO ha) 2 (by decide) rfl zf_X2_17 dX2_hasRun_10 ?_
      refine zr_icmp_gt 30 dX2_hasRun_13 (by decide) (fun q => ?_) (fun q => ?_)
      · have hw := hw.1 q
        refine zr_iconst dX2_hasRun_30 zqk_0 ?_
        exact zr_ret rfl rfl dX2_hasRun_31 ⟨rfl, hw⟩
      · have hw := hw.2 q
        refine zr_iload_n dX2_hasRun_16 rfl rfl ?_
        refine zr_aload_n dX2_hasRun_17 rfl rfl ?_
        refine zr_getI zz_cX2 (zz_psO ha) 2 (by decide) rfl zf_X2_17 dX2_hasRun_18 ?_
        refine zr_iload_n dX2_hasRun_21 rfl rfl ?_
        refine zr_isub dX2_hasRun_22 ?_
        refine zr_icmp_gt 30 dX2_hasRun_23 (by decide) (fun q => ?_) (fun q => ?_)
        · have hw := hw.1 q
          refine zr_iconst dX2_hasRun_30 zqk_0 ?_
          exact zr_ret rfl rfl dX2_hasRun_31 ⟨rfl, hw⟩
        · have hw := hw.2 q
          refine zr_iconst dX2_hasRun_26 zqk_1 ?_
          refine zr_goto 31 dX2_hasRun_27 (by decide) ?_
          exact zr_ret rfl rfl dX2_hasRun_31 ⟨rfl, hw⟩
def wX3_add (p1 : Int32) (h0 : zz_H) (post : Int32 → zz_H → Prop) : Prop :=
  (((120 : Int32) ≤ (h0 29 1)) → (post 0 h0)) ∧ ((¬ (120 : Int32) ≤ (h0 29 1)) → (vp_in (h0 29 1) 120 ∧ zz_sto h0 30 (upd (h0 30) (h0 29 1).toNatClampNeg (p1 &&& (255 : Int32))) (fun h1 => zz_sto h1 29 (upd (h1 29) 1 ((h1 29 1) + (1 : Int32))) (fun h2 => post 0 h2))))
set_option maxRecDepth 20000 in
set_option maxHeartbeats 4000000 in
theorem ctX3_add (p1 : Int32) (h0 : zz_H) (post : Int32 → zz_H → Prop) (hw : wX3_add p1 h0 post) : zz_Ct zz_C 0 yX3_add cX3_add 2 none [.ref 29, .int p1] h0 post := by
  refine zz_ct (L := [.ref 29, .int p1]) (by decide +kernel) (Nat.le_of_ble_eq_true rfl) (fun ad q hq => hq) ?_
  show zz_Go zz_C 0 cX3_add RX3 2 none post 0 [] [.ref 29, .int p1] h0
  unfold wX3_add at hw
  refine zr_aload_n dX3_add_0 rfl rfl ?_
  refine zr_getI zz_cX3 zz_C29 1 (by decide) rfl zf_X3_15 dX3_add_1 ?_
  refine zr_bipush dX3_add_4 zbk_120 ?_
  refine zr_icmp_ge 33 dX3_add_6 (by decide) (fun q => ?_) (fun q => ?_)
  · have hw := hw.1 q
    exact zr_vret rfl dX3_add_33 hw
  · have hw := hw.2 q
    refine zr_aload_n dX3_add_9 rfl rfl ?_
    refine zr_getR zz_cX3 zz_C29 0 (by decide) rfl zf_X3_11 dX3_add_10 ?_
    refine zr_aload_n dX3_add_13 rfl rfl ?_
    refine zr_getI zz_cX3 zz_C29 1 (by decide) rfl zf_X3_15 dX3_add_14 ?_
    refine zr_iload_n dX3_add_17 rfl rfl ?_
    refine zr_sipush dX3_add_18 zhk_255 ?_
    refine zr_iand dX3_add_21 ?_
    obtain ⟨hi, hw⟩ := hw
    refine zr_iast zz_C30 hi rfl dX3_add_22 hw (fun h1 hw => ?_)
    refine zr_aload_n dX3_add_23 rfl rfl ?_
    refine zr_dup dX3_add_24 rfl ?_
    refine zr_getI zz_cX3 zz_C29 1 (by decide) rfl zf_X3_15 dX3_add_25 ?_
    refine zr_iconst dX3_add_28 zqk_1 ?_
    refine zr_iadd dX3_add_29 ?_
    refine zr_putI zz_cX3 zz_C29 1 (by decide) rfl rfl rfl rfl rfl zf_X3_15 dX3_add_30 hw (fun h2 hw => ?_)
    exact zr_vret rfl dX3_add_33 hw
def wX3_isLetter (p1 : Int32) (h0 : zz_H) (post : Int32 → Prop) : Prop :=
  ((p1 < (97 : Int32)) → (post (0 : Int32))) ∧ ((¬ p1 < (97 : Int32)) → ((((122 : Int32) < p1) → (post (0 : Int32))) ∧ ((¬ (122 : Int32) < p1) → (post (1 : Int32)))))
set_option maxRecDepth 20000 in
set_option maxHeartbeats 4000000 in
theorem ctX3_isLetter (p1 : Int32) (h0 : zz_H) (post : Int32 → Prop) (hw : wX3_isLetter p1 h0 post) : zz_Ct zz_C 0 yX3_isLetter cX3_isLetter 1 (some .boolean) [.int p1] h0 (zz_pu h0 post) := by
  refine zz_ct (L := [.int p1]) (by decide +kernel) (Nat.le_of_ble_eq_true rfl) (fun ad q hq => hq) ?_
  show zz_Go zz_C 0 cX3_isLetter RX3 1 (some .boolean) (zz_pu h0 post) 0 [] [.int p1] h0
  unfold wX3_isLetter at hw
  refine zr_iload_n dX3_isLetter_0 rfl rfl ?_
  refine zr_bipush dX3_isLetter_1 zbk_97 ?_
  refine zr_icmp_lt 16 dX3_isLetter_3 (by decide) (fun q => ?_) (fun q => ?_)
  · have hw := hw.1 q
    refine zr_iconst dX3_isLetter_16 zqk_0 ?_
    exact zr_ret rfl rfl dX3_isLetter_17 ⟨rfl, hw⟩
  · have hw := hw.2 q
    refine zr_iload_n dX3_isLetter_6 rfl rfl ?_
    refine zr_bipush dX3_isLetter_7 zbk_122 ?_
    refine zr_icmp_gt 16 dX3_isLetter_9 (by decide) (fun q => ?_) (fun q => ?_)
    · have hw := hw.1 q
      refine zr_iconst dX3_isLetter_16 zqk_0 ?_
      exact zr_ret rfl rfl dX3_isLetter_17 ⟨rfl, hw⟩
    · have hw := hw.2 q
      refine zr_iconst dX3_isLetter_12 zqk_1 ?_
      refine zr_goto 17 dX3_isLetter_13 (by decide) ?_
      exact zr_ret rfl rfl dX3_isLetter_17 ⟨rfl, hw⟩
def wX3_isDigit (p1 : Int32) (h0 : zz_H) (post : Int32 → Prop) : Prop :=
  ((p1 < (48 : Int32)) → (post (0 : Int32))) ∧ ((¬ p1 < (48 : Int32)) → ((((57 : Int32) < p1) → (post (0 : Int32))) ∧ ((¬ (57 : Int32) < p1) → (post (1 : Int32)))))
set_option maxRecDepth 20000 in
set_option maxHeartbeats 4000000 in
theorem ctX3_isDigit (p1 : Int32) (h0 : zz_H) (post : Int32 → Prop) (hw : wX3_isDigit p1 h0 post) : zz_Ct zz_C 0 yX3_isDigit cX3_isDigit 1 (some .boolean) [.int p1] h0 (zz_pu h0 post) := by
  refine zz_ct (L := [.int p1]) (by decide +kernel) (Nat.le_of_ble_eq_true rfl) (fun ad q hq => hq) ?_
  show zz_Go zz_C 0 cX3_isDigit RX3 1 (some .boolean) (zz_pu h0 post) 0 [] [.int p1] h0
  unfold wX3_isDigit at hw
  refine zr_iload_n dX3_isDigit_0 rfl rfl ?_
  refine zr_bipush dX3_isDigit_1 zbk_48 ?_
  refine zr_icmp_lt 16 dX3_isDigit_3 (by decide) (fun q => ?_) (fun q => ?_)
  · have hw := hw.1 q
    refine zr_iconst dX3_isDigit_16 zqk_0 ?_
    exact zr_ret rfl rfl dX3_isDigit_17 ⟨rfl, hw⟩
  · have hw := hw.2 q
    refine zr_iload_n dX3_isDigit_6 rfl rfl ?_
    refine zr_bipush dX3_isDigit_7 zbk_57 ?_
    refine zr_icmp_gt 16 dX3_isDigit_9 (by decide) (fun q => ?_) (fun q => ?_)
    · have hw := hw.1 q
      refine zr_iconst dX3_isDigit_16 zqk_0 ?_
      exact zr_ret rfl rfl dX3_isDigit_17 ⟨rfl, hw⟩
    · have hw := hw.2 q
      refine zr_iconst dX3_isDigit_12 zqk_1 ?_
      refine zr_goto 17 dX3_isDigit_13 (by decide) ?_
      exact zr_ret rfl rfl dX3_isDigit_17 ⟨rfl, hw⟩
def wX3_stepOverDigits_b5 (post : Int32 → zz_H → Prop) (K3 : zz_H → Prop) (h2 : zz_H) : Prop :=
  (((h2 29 1) ≤ (h2 29 4)) → (post 0 h2)) ∧ ((¬ (h2 29 1) ≤ (h2 29 4)) → (vp_in (h2 29 4) 120 ∧ (wX3_isDigit (h2 30 (h2 29 4).toNatClampNeg) h2 (fun r4 => ((r4 = 0) → (post 0 h2)) ∧ ((¬ r4 = 0) → (vp_in (h2 29 4) 120 ∧ (zz_sto h2 29 (upd (h2 29) 5 (zz_min ((((10 : Int32) * (h2 29 5)) + (h2 30 (h2 29 4).toNatClampNeg)) - (48 : Int32)) (1000 : Int32))) (fun h5 => zz_sto h5 29 (upd (h5 29) 4 ((h5 29 4) + (1 : Int32))) (fun h6 => K3 h6)))))))))
def wX3_stepOverDigits (h0 : zz_H) (post : Int32 → zz_H → Prop) : Prop :=
  zz_sto h0 29 (upd (h0 29) 5 (0 : Int32)) (fun h1 => ∃ t9, zz_lp (fun K (s : zz_H) => wX3_stepOverDigits_b5 post K s) t9 h1)
set_option maxRecDepth 20000 in
set_option maxHeartbeats 4000000 in
theorem ctX3_stepOverDigits (h0 : zz_H) (post : Int32 → zz_H → Prop) (hw : wX3_stepOverDigits h0 post) : zz_Ct zz_C 1 yX3_stepOverDigits cX3_stepOverDigits 1 none [.ref 29] h0 post := by
  refine zz_ct (L := [.ref 29]) (by decide +kernel) (Nat.le_of_ble_eq_true rfl) (fun ad q hq => hq) ?_
  show zz_Go zz_C 1 cX3_stepOverDigits RX3 1 none post 0 [] [.ref 29] h0
  unfold wX3_stepOverDigits at hw
  refine zr_aload_n dX3_stepOverDigits_0 rfl rfl ?_
  refine zr_iconst dX3_stepOverDigits_1 zqk_0 ?_
  refine zr_putI zz_cX3 zz_C29 5 (by decide) rfl rfl rfl rfl rfl zf_X3_28 dX3_stepOverDigits_2 hw (fun h1 hw => ?_)
  obtain ⟨t9, hw⟩ := hw
  have step5 : ∀ (K3 : zz_H → Prop), (∀ (h2 : zz_H), K3 h2 → zz_Go zz_C 1 cX3_stepOverDigits RX3 1 none post 5 [] [.ref 29] h2) → ∀ (h2 : zz_H), wX3_stepOverDigits_b5 post K3 h2 → zz_Go zz_C 1 cX3_stepOverDigits RX3 1 none post 5 [] [.ref 29] h2 := by
    intro K3 ih5 h2 hw
    unfold wX3_stepOverDigits_b5 at hw
    refine zr_aload_n dX3_stepOverDigits_5 rfl rfl ?_
    refine zr_getI zz_cX3 zz_C29 4 (by decide) rfl zf_X3_25 dX3_stepOverDigits_6 ?_
    refine zr_aload_n dX3_stepOverDigits_9 rfl rfl ?_
    refine zr_getI zz_cX3 zz_C29 1 (by decide) rfl zf_X3_15 dX3_stepOverDigits_10 ?_
    refine zr_icmp_ge 74 dX3_stepOverDigits_13 (by decide) (fun q => ?_) (fun q => ?_)
    · have hw := hw.1 q
      exact zr_vret rfl dX3_stepOverDigits_74 hw
    · have hw := hw.2 q
      refine zr_aload_n dX3_stepOverDigits_16 rfl rfl ?_
      refine zr_getR zz_cX3 zz_C29 0 (by decide) rfl zf_X3_11 dX3_stepOverDigits_17 ?_
      refine zr_aload_n dX3_stepOverDigits_20 rfl rfl ?_
      refine zr_getI zz_cX3 zz_C29 4 (by decide) rfl zf_X3_25 dX3_stepOverDigits_21 ?_
      obtain ⟨hi, hw⟩ := hw
      refine zr_iald zz_C30 hi rfl dX3_stepOverDigits_24 ?_
      refine zr_pSi (ctX3_isDigit (h2 30 (h2 29 4).toNatClampNeg) h2 _ hw) zy_X3_isDigit zm_X3_128 (by decide) rfl rfl (Nat.le_of_ble_eq_true rfl) dX3_stepOverDigits_25 (fun r4 hw => ?_)
      refine zr_if_eq 74 dX3_stepOverDigits_28 (by decide) (fun q => ?_) (fun q => ?_)
      · have hw := hw.1 q
        exact zr_vret rfl dX3_stepOverDigits_74 hw
      · have hw := hw.2 q
        refine zr_aload_n dX3_stepOverDigits_31 rfl rfl ?_
        refine zr_bipush dX3_stepOverDigits_32 zbk_10 ?_
        refine zr_aload_n dX3_stepOverDigits_34 rfl rfl ?_
        refine zr_getI zz_cX3 zz_C29 5 (by decide) rfl zf_X3_28 dX3_stepOverDigits_35 ?_
        refine zr_imul dX3_stepOverDigits_38 ?_
        refine zr_aload_n dX3_stepOverDigits_39 rfl rfl ?_
        refine zr_getR zz_cX3 zz_C29 0 (by decide) rfl zf_X3_11 dX3_stepOverDigits_40 ?_
        refine zr_aload_n dX3_stepOverDigits_43 rfl rfl ?_
        refine zr_getI zz_cX3 zz_C29 4 (by decide) rfl zf_X3_25 dX3_stepOverDigits_44 ?_
        obtain ⟨hi, hw⟩ := hw
        refine zr_iald zz_C30 hi rfl dX3_stepOverDigits_47 ?_
        refine zr_iadd dX3_stepOverDigits_48 ?_
        refine zr_bipush dX3_stepOverDigits_49 zbk_48 ?_
        refine zr_isub dX3_stepOverDigits_51 ?_
        refine zr_sipush dX3_stepOverDigits_52 zhk_1000 ?_
        refine zr_min zm_X3_134 zt_Math_min_name zn_J9 zc_Math_min_name (by decide) (Nat.le_of_ble_eq_true rfl) dX3_stepOverDigits_55 ?_
        refine zr_putI zz_cX3 zz_C29 5 (by decide) rfl rfl rfl rfl rfl zf_X3_28 dX3_stepOverDigits_58 hw (fun h5 hw => ?_)
        refine zr_aload_n dX3_stepOverDigits_61 rfl rfl ?_
        refine zr_dup dX3_stepOverDigits_62 rfl ?_
        refine zr_getI zz_cX3 zz_C29 4 (by decide) rfl zf_X3_25 dX3_stepOverDigits_63 ?_
        refine zr_iconst dX3_stepOverDigits_66 zqk_1 ?_
        refine zr_iadd dX3_stepOverDigits_67 ?_
        refine zr_putI zz_cX3 zz_C29 4 (by decide) rfl rfl rfl rfl rfl zf_X3_25 dX3_stepOverDigits_68 hw (fun h6 hw => ?_)
        refine zr_goto 5 dX3_stepOverDigits_71 (by decide) ?_
        exact ih5 _ hw
  have key5 : ∀ (t9 : Nat) (h2 : zz_H), zz_lp (fun K (s : zz_H) => wX3_stepOverDigits_b5 post K s) t9 h2 → zz_Go zz_C 1 cX3_stepOverDigits RX3 1 none post 5 [] [.ref 29] h2 := by
    intro t9
    induction t9 with
    | zero => intro h2 hw; exact hw.elim
    | succ t9 ih => intro h2 hw; exact step5 _ ih _ hw
  exact key5 t9 _ hw
def wX3_step_j179 (post : Int32 → zz_H → Prop) (h4 : zz_H) (y7 : Int32) : Prop :=
  zz_sto h4 29 (upd (h4 29) 2 y7) (fun h8 => zz_sto h8 29 (upd (h8 29) 4 ((h8 29 4) + (1 : Int32))) (fun h9 => post 0 h9))
def wX3_step_b93 (post : Int32 → zz_H → Prop) (K14 : zz_H → Prop) (h13 : zz_H) : Prop :=
  (((h13 29 1) ≤ (h13 29 4)) → (post 0 h13)) ∧ ((¬ (h13 29 1) ≤ (h13 29 4)) → (vp_in (h13 29 4) 120 ∧ (wX3_isLetter (h13 30 (h13 29 4).toNatClampNeg) h13 (fun r15 => ((r15 = 0) → (post 0 h13)) ∧ ((¬ r15 = 0) → (zz_sto h13 29 (upd (h13 29) 4 ((h13 29 4) + (1 : Int32))) (fun h16 => K14 h16)))))))
def wX3_step_j46 (post : Int32 → zz_H → Prop) (h2 : zz_H) : Prop :=
  zz_sto h2 29 (upd (h2 29) 4 (h2 29 3)) (fun h4 => (((h4 29 3) < (h4 29 1)) → (vp_in (h4 29 3) 120 ∧ (wX3_isLetter (h4 30 (h4 29 3).toNatClampNeg) h4 (fun r5 => ((r5 = 0) → (vp_in (h4 29 3) 120 ∧ (wX3_isDigit (h4 30 (h4 29 3).toNatClampNeg) h4 (fun r6 => ((r6 = 0) → (vp_in (h4 29 3) 120 ∧ (((¬ (h4 30 (h4 29 3).toNatClampNeg) = (59 : Int32)) → (wX3_step_j179 post h4 (4 : Int32))) ∧ (((h4 30 (h4 29 3).toNatClampNeg) = (59 : Int32)) → (wX3_step_j179 post h4 (3 : Int32)))))) ∧ ((¬ r6 = 0) → (zz_sto h4 29 (upd (h4 29) 2 (2 : Int32)) (fun h10 => wX3_stepOverDigits h10 (fun _ h11 => post 0 h11)))))))) ∧ ((¬ r5 = 0) → (zz_sto h4 29 (upd (h4 29) 2 (1 : Int32)) (fun h12 => ∃ t9, zz_lp (fun K (s : zz_H) => wX3_step_b93 post K s) t9 h12))))))) ∧ ((¬ (h4 29 3) < (h4 29 1)) → (zz_sto h4 29 (upd (h4 29) 2 (0 : Int32)) (fun h17 => post 0 h17))))
def wX3_step_b8 (post : Int32 → zz_H → Prop) (K3 : zz_H → Prop) (h2 : zz_H) : Prop :=
  (((h2 29 1) ≤ (h2 29 3)) → (wX3_step_j46 post h2)) ∧ ((¬ (h2 29 1) ≤ (h2 29 3)) → (vp_in (h2 29 3) 120 ∧ (((¬ (h2 30 (h2 29 3).toNatClampNeg) = (32 : Int32)) → (wX3_step_j46 post h2)) ∧ (((h2 30 (h2 29 3).toNatClampNeg) = (32 : Int32)) → (zz_sto h2 29 (upd (h2 29) 3 ((h2 29 3) + (1 : Int32))) (fun h18 => K3 h18))))))
def wX3_step (h0 : zz_H) (post : Int32 → zz_H → Prop) : Prop :=
  zz_sto h0 29 (upd (h0 29) 3 (h0 29 4)) (fun h1 => ∃ t9, zz_lp (fun K (s : zz_H) => wX3_step_b8 post K s) t9 h1)
set_option maxRecDepth 20000 in
set_option maxHeartbeats 4000000 in
theorem ctX3_step (h0 : zz_H) (post : Int32 → zz_H → Prop) (hw : wX3_step h0 post) : zz_Ct zz_C 2 yX3_step cX3_step 1 none [.ref 29] h0 post := by
  refine zz_ct (L := [.ref 29]) (by decide +kernel) (Nat.le_of_ble_eq_true rfl) (fun ad q hq => hq) ?_
  show zz_Go zz_C 2 cX3_step RX3 1 none post 0 [] [.ref 29] h0
  unfold wX3_step at hw
  refine zr_aload_n dX3_step_0 rfl rfl ?_
  refine zr_aload_n dX3_step_1 rfl rfl ?_
  refine zr_getI zz_cX3 zz_C29 4 (by decide) rfl zf_X3_25 dX3_step_2 ?_
  refine zr_putI zz_cX3 zz_C29 3 (by decide) rfl rfl rfl rfl rfl zf_X3_22 dX3_step_5 hw (fun h1 hw => ?_)
  obtain ⟨t9, hw⟩ := hw
  have step8 : ∀ (K3 : zz_H → Prop), (∀ (h2 : zz_H), K3 h2 → zz_Go zz_C 2 cX3_step RX3 1 none post 8 [] [.ref 29] h2) → ∀ (h2 : zz_H), wX3_step_b8 post K3 h2 → zz_Go zz_C 2 cX3_step RX3 1 none post 8 [] [.ref 29] h2 := by
    intro K3 ih8 h2 hw
    unfold wX3_step_b8 at hw
    refine zr_aload_n dX3_step_8 rfl rfl ?_
    refine zr_getI zz_cX3 zz_C29 3 (by decide) rfl zf_X3_22 dX3_step_9 ?_
    refine zr_aload_n dX3_step_12 rfl rfl ?_
    refine zr_getI zz_cX3 zz_C29 1 (by decide) rfl zf_X3_15 dX3_step_13 ?_
    have j46 : wX3_step_j46 post h2 → zz_Go zz_C 2 cX3_step RX3 1 none post 46 [] [.ref 29] h2 := by
      intro hw
      unfold wX3_step_j46 at hw
      refine zr_aload_n dX3_step_46 rfl rfl ?_
      refine zr_aload_n dX3_step_47 rfl rfl ?_
      refine zr_getI zz_cX3 zz_C29 3 (by decide) rfl zf_X3_22 dX3_step_48 ?_
      refine zr_putI zz_cX3 zz_C29 4 (by decide) rfl rfl rfl rfl rfl zf_X3_25 dX3_step_51 hw (fun h4 hw => ?_)
      refine zr_aload_n dX3_step_54 rfl rfl ?_
      refine zr_getI zz_cX3 zz_C29 3 (by decide) rfl zf_X3_22 dX3_step_55 ?_
      refine zr_aload_n dX3_step_58 rfl rfl ?_
      refine zr_getI zz_cX3 zz_C29 1 (by decide) rfl zf_X3_15 dX3_step_59 ?_
      refine zr_icmp_lt 73 dX3_step_62 (by decide) (fun q => ?_) (fun q => ?_)
      · have hw := hw.1 q
        refine zr_aload_n dX3_step_73 rfl rfl ?_
        refine zr_getR zz_cX3 zz_C29 0 (by decide) rfl zf_X3_11 dX3_step_74 ?_
        refine zr_aload_n dX3_step_77 rfl rfl ?_
        refine zr_getI zz_cX3 zz_C29 3 (by decide) rfl zf_X3_22 dX3_step_78 ?_
        obtain ⟨hi, hw⟩ := hw
        refine zr_iald zz_C30 hi rfl dX3_step_81 ?_
        refine zr_pSi (ctX3_isLetter (h4 30 (h4 29 3).toNatClampNeg) h4 _ hw) zy_X3_isLetter zm_X3_125 (by decide) rfl rfl (Nat.le_of_ble_eq_true rfl) dX3_step_82 (fun r5 hw => ?_)
        refine zr_if_eq 132 dX3_step_85 (by decide) (fun q => ?_) (fun q => ?_)
        · have hw := hw.1 q
          refine zr_aload_n dX3_step_132 rfl rfl ?_
          refine zr_getR zz_cX3 zz_C29 0 (by decide) rfl zf_X3_11 dX3_step_133 ?_
          refine zr_aload_n dX3_step_136 rfl rfl ?_
          refine zr_getI zz_cX3 zz_C29 3 (by decide) rfl zf_X3_22 dX3_step_137 ?_
          obtain ⟨hi, hw⟩ := hw
          refine zr_iald zz_C30 hi rfl dX3_step_140 ?_
          refine zr_pSi (ctX3_isDigit (h4 30 (h4 29 3).toNatClampNeg) h4 _ hw) zy_X3_isDigit zm_X3_128 (by decide) rfl rfl (Nat.le_of_ble_eq_true rfl) dX3_step_141 (fun r6 hw => ?_)
          refine zr_if_eq 159 dX3_step_144 (by decide) (fun q => ?_) (fun q => ?_)
          · have hw := hw.1 q
            refine zr_aload_n dX3_step_159 rfl rfl ?_
            refine zr_aload_n dX3_step_160 rfl rfl ?_
            refine zr_getR zz_cX3 zz_C29 0 (by decide) rfl zf_X3_11 dX3_step_161 ?_
            refine zr_aload_n dX3_step_164 rfl rfl ?_
            refine zr_getI zz_cX3 zz_C29 3 (by decide) rfl zf_X3_22 dX3_step_165 ?_
            obtain ⟨hi, hw⟩ := hw
            refine zr_iald zz_C30 hi rfl dX3_step_168 ?_
            refine zr_bipush dX3_step_169 zbk_59 ?_
            have j179 : ∀ (y7 : Int32), wX3_step_j179 post h4 y7 → zz_Go zz_C 2 cX3_step RX3 1 none post 179 [.int y7, .ref 29] [.ref 29] h4 := by
              intro y7 hw
              unfold wX3_step_j179 at hw
              refine zr_putI zz_cX3 zz_C29 2 (by decide) rfl rfl rfl rfl rfl zf_X3_19 dX3_step_179 hw (fun h8 hw => ?_)
              refine zr_aload_n dX3_step_182 rfl rfl ?_
              refine zr_dup dX3_step_183 rfl ?_
              refine zr_getI zz_cX3 zz_C29 4 (by decide) rfl zf_X3_25 dX3_step_184 ?_
              refine zr_iconst dX3_step_187 zqk_1 ?_
              refine zr_iadd dX3_step_188 ?_
              refine zr_putI zz_cX3 zz_C29 4 (by decide) rfl rfl rfl rfl rfl zf_X3_25 dX3_step_189 hw (fun h9 hw => ?_)
              exact zr_vret rfl dX3_step_192 hw
            refine zr_icmp_ne 178 dX3_step_171 (by decide) (fun q => ?_) (fun q => ?_)
            · have hw := hw.1 q
              refine zr_iconst dX3_step_178 zqk_4 ?_
              exact j179 _ hw
            · have hw := hw.2 q
              refine zr_iconst dX3_step_174 zqk_3 ?_
              refine zr_goto 179 dX3_step_175 (by decide) ?_
              exact j179 _ hw
          · have hw := hw.2 q
            refine zr_aload_n dX3_step_147 rfl rfl ?_
            refine zr_iconst dX3_step_148 zqk_2 ?_
            refine zr_putI zz_cX3 zz_C29 2 (by decide) rfl rfl rfl rfl rfl zf_X3_19 dX3_step_149 hw (fun h10 hw => ?_)
            refine zr_aload_n dX3_step_152 rfl rfl ?_
            refine zr_callVv zz_cX3 zz_C29 (ctX3_stepOverDigits h10 _ hw) zy_X3_stepOverDigits zm_X3_131 (by decide) rfl rfl (Nat.le_of_ble_eq_true rfl) dX3_step_153 (fun h11 hw => ?_)
            refine zr_goto 192 dX3_step_156 (by decide) ?_
            exact zr_vret rfl dX3_step_192 hw
        · have hw := hw.2 q
          refine zr_aload_n dX3_step_88 rfl rfl ?_
          refine zr_iconst dX3_step_89 zqk_1 ?_
          refine zr_putI zz_cX3 zz_C29 2 (by decide) rfl rfl rfl rfl rfl zf_X3_19 dX3_step_90 hw (fun h12 hw => ?_)
          obtain ⟨t9, hw⟩ := hw
          have step93 : ∀ (K14 : zz_H → Prop), (∀ (h13 : zz_H), K14 h13 → zz_Go zz_C 2 cX3_step RX3 1 none post 93 [] [.ref 29] h13) → ∀ (h13 : zz_H), wX3_step_b93 post K14 h13 → zz_Go zz_C 2 cX3_step RX3 1 none post 93 [] [.ref 29] h13 := by
            intro K14 ih93 h13 hw
            unfold wX3_step_b93 at hw
            refine zr_aload_n dX3_step_93 rfl rfl ?_
            refine zr_getI zz_cX3 zz_C29 4 (by decide) rfl zf_X3_25 dX3_step_94 ?_
            refine zr_aload_n dX3_step_97 rfl rfl ?_
            refine zr_getI zz_cX3 zz_C29 1 (by decide) rfl zf_X3_15 dX3_step_98 ?_
            refine zr_icmp_ge 192 dX3_step_101 (by decide) (fun q => ?_) (fun q => ?_)
            · have hw := hw.1 q
              exact zr_vret rfl dX3_step_192 hw
            · have hw := hw.2 q
              refine zr_aload_n dX3_step_104 rfl rfl ?_
              refine zr_getR zz_cX3 zz_C29 0 (by decide) rfl zf_X3_11 dX3_step_105 ?_
              refine zr_aload_n dX3_step_108 rfl rfl ?_
              refine zr_getI zz_cX3 zz_C29 4 (by decide) rfl zf_X3_25 dX3_step_109 ?_
              obtain ⟨hi, hw⟩ := hw
              refine zr_iald zz_C30 hi rfl dX3_step_112 ?_
              refine zr_pSi (ctX3_isLetter (h13 30 (h13 29 4).toNatClampNeg) h13 _ hw) zy_X3_isLetter zm_X3_125 (by decide) rfl rfl (Nat.le_of_ble_eq_true rfl) dX3_step_113 (fun r15 hw => ?_)
              refine zr_if_eq 192 dX3_step_116 (by decide) (fun q => ?_) (fun q => ?_)
              · have hw := hw.1 q
                exact zr_vret rfl dX3_step_192 hw
              · have hw := hw.2 q
                refine zr_aload_n dX3_step_119 rfl rfl ?_
                refine zr_dup dX3_step_120 rfl ?_
                refine zr_getI zz_cX3 zz_C29 4 (by decide) rfl zf_X3_25 dX3_step_121 ?_
                refine zr_iconst dX3_step_124 zqk_1 ?_
                refine zr_iadd dX3_step_125 ?_
                refine zr_putI zz_cX3 zz_C29 4 (by decide) rfl rfl rfl rfl rfl zf_X3_25 dX3_step_126 hw (fun h16 hw => ?_)
                refine zr_goto 93 dX3_step_129 (by decide) ?_
                exact ih93 _ hw
          have key93 : ∀ (t9 : Nat) (h13 : zz_H), zz_lp (fun K (s : zz_H) => wX3_step_b93 post K s) t9 h13 → zz_Go zz_C 2 cX3_step RX3 1 none post 93 [] [.ref 29] h13 := by
            intro t9
            induction t9 with
            | zero => intro h13 hw; exact hw.elim
            | succ t9 ih => intro h13 hw; exact step93 _ ih _ hw
          exact key93 t9 _ hw
      · have hw := hw.2 q
        refine zr_aload_n dX3_step_65 rfl rfl ?_
        refine zr_iconst dX3_step_66 zqk_0 ?_
        refine zr_putI zz_cX3 zz_C29 2 (by decide) rfl rfl rfl rfl rfl zf_X3_19 dX3_step_67 hw (fun h17 hw => ?_)
        refine zr_goto 192 dX3_step_70 (by decide) ?_
        exact zr_vret rfl dX3_step_192 hw
    refine zr_icmp_ge 46 dX3_step_16 (by decide) (fun q => ?_) (fun q => ?_)
    · have hw := hw.1 q
      exact j46 hw
    · have hw := hw.2 q
      refine zr_aload_n dX3_step_19 rfl rfl ?_
      refine zr_getR zz_cX3 zz_C29 0 (by decide) rfl zf_X3_11 dX3_step_20 ?_
      refine zr_aload_n dX3_step_23 rfl rfl ?_
      refine zr_getI zz_cX3 zz_C29 3 (by decide) rfl zf_X3_22 dX3_step_24 ?_
      obtain ⟨hi, hw⟩ := hw
      refine zr_iald zz_C30 hi rfl dX3_step_27 ?_
      refine zr_bipush dX3_step_28 zbk_32 ?_
      refine zr_icmp_ne 46 dX3_step_30 (by decide) (fun q => ?_) (fun q => ?_)
      · have hw := hw.1 q
        exact j46 hw
      · have hw := hw.2 q
        refine zr_aload_n dX3_step_33 rfl rfl ?_
        refine zr_dup dX3_step_34 rfl ?_
        refine zr_getI zz_cX3 zz_C29 3 (by decide) rfl zf_X3_22 dX3_step_35 ?_
        refine zr_iconst dX3_step_38 zqk_1 ?_
        refine zr_iadd dX3_step_39 ?_
        refine zr_putI zz_cX3 zz_C29 3 (by decide) rfl rfl rfl rfl rfl zf_X3_22 dX3_step_40 hw (fun h18 hw => ?_)
        refine zr_goto 8 dX3_step_43 (by decide) ?_
        exact ih8 _ hw
  have key8 : ∀ (t9 : Nat) (h2 : zz_H), zz_lp (fun K (s : zz_H) => wX3_step_b8 post K s) t9 h2 → zz_Go zz_C 2 cX3_step RX3 1 none post 8 [] [.ref 29] h2 := by
    intro t9
    induction t9 with
    | zero => intro h2 hw; exact hw.elim
    | succ t9 ih => intro h2 hw; exact step8 _ ih _ hw
  exact key8 t9 _ hw
def wX3_isWord_b28 (j : Nat) (h0 : zz_H) (post : Int32 → Prop) (K2 : Int32 → Prop) (x1 : Int32) : Prop :=
  (((nI (zz_len.getD j 0)) ≤ x1) → (post (1 : Int32))) ∧ ((¬ (nI (zz_len.getD j 0)) ≤ x1) → (vp_in ((h0 29 3) + x1) 120 ∧ (vp_in x1 (zz_len.getD j 0) ∧ ((((h0 30 ((h0 29 3) + x1).toNatClampNeg) = ((zz_byt.getD j []).getD x1.toNatClampNeg 0)) → (K2 (x1 + 1))) ∧ ((¬ (h0 30 ((h0 29 3) + x1).toNatClampNeg) = ((zz_byt.getD j []).getD x1.toNatClampNeg 0)) → (post (0 : Int32)))))))
def wX3_isWord (j : Nat) (h0 : zz_H) (post : Int32 → Prop) : Prop :=
  ((¬ (h0 29 2) = (1 : Int32)) → (post (0 : Int32))) ∧ (((h0 29 2) = (1 : Int32)) → (((((h0 29 4) - (h0 29 3)) = (nI (zz_len.getD j 0))) → (∃ t9, zz_lp (fun K (s : Int32) => wX3_isWord_b28 j h0 post K s) t9 (0 : Int32))) ∧ ((¬ ((h0 29 4) - (h0 29 3)) = (nI (zz_len.getD j 0))) → (post (0 : Int32)))))
set_option maxRecDepth 20000 in
set_option maxHeartbeats 4000000 in
theorem ctX3_isWord (j : Nat) (hj : j < 12) (h0 : zz_H) (post : Int32 → Prop) (hw : wX3_isWord j h0 post) : zz_Ct zz_C 5 yX3_isWord cX3_isWord 3 (some .boolean) [.ref 29, .ref (1000 + j)] h0 (zz_pu h0 post) := by
  refine zz_ct (L := [.ref 29, .ref (1000 + j), .null]) (by decide +kernel) (Nat.le_of_ble_eq_true rfl) (fun ad q hq => hq) ?_
  show zz_Go zz_C 5 cX3_isWord RX3 3 (some .boolean) (zz_pu h0 post) 0 [] [.ref 29, .ref (1000 + j), .null] h0
  unfold wX3_isWord at hw
  refine zr_aload_n dX3_isWord_0 rfl rfl ?_
  refine zr_getI zz_cX3 zz_C29 2 (by decide) rfl zf_X3_19 dX3_isWord_1 ?_
  refine zr_iconst dX3_isWord_4 zqk_1 ?_
  refine zr_icmp_ne 24 dX3_isWord_5 (by decide) (fun q => ?_) (fun q => ?_)
  · have hw := hw.1 q
    refine zr_iconst dX3_isWord_24 zqk_0 ?_
    exact zr_ret rfl rfl dX3_isWord_25 ⟨rfl, hw⟩
  · have hw := hw.2 q
    refine zr_aload_n dX3_isWord_8 rfl rfl ?_
    refine zr_getI zz_cX3 zz_C29 4 (by decide) rfl zf_X3_25 dX3_isWord_9 ?_
    refine zr_aload_n dX3_isWord_12 rfl rfl ?_
    refine zr_getI zz_cX3 zz_C29 3 (by decide) rfl zf_X3_22 dX3_isWord_13 ?_
    refine zr_isub dX3_isWord_16 ?_
    refine zr_aload_n dX3_isWord_17 rfl rfl ?_
    refine zr_slen j hj zm_X3_117 (by decide) (Nat.le_of_ble_eq_true rfl) dX3_isWord_18 ?_
    refine zr_icmp_eq 26 dX3_isWord_21 (by decide) (fun q => ?_) (fun q => ?_)
    · have hw := hw.1 q
      refine zr_iconst dX3_isWord_26 zqk_0 ?_
      refine zr_istore_n [.ref 29, .ref (1000 + j), .int (0 : Int32)] dX3_isWord_27 rfl (by decide) rfl rfl ?_
      obtain ⟨t9, hw⟩ := hw
      have step28 : ∀ (K2 : Int32 → Prop), (∀ (x1 : Int32), K2 x1 → zz_Go zz_C 5 cX3_isWord RX3 3 (some .boolean) (zz_pu h0 post) 28 [] [.ref 29, .ref (1000 + j), .int x1] h0) → ∀ (x1 : Int32), wX3_isWord_b28 j h0 post K2 x1 → zz_Go zz_C 5 cX3_isWord RX3 3 (some .boolean) (zz_pu h0 post) 28 [] [.ref 29, .ref (1000 + j), .int x1] h0 := by
        intro K2 ih28 x1 hw
        unfold wX3_isWord_b28 at hw
        refine zr_iload_n dX3_isWord_28 rfl rfl ?_
        refine zr_aload_n dX3_isWord_29 rfl rfl ?_
        refine zr_slen j hj zm_X3_117 (by decide) (Nat.le_of_ble_eq_true rfl) dX3_isWord_30 ?_
        refine zr_icmp_ge 63 dX3_isWord_33 (by decide) (fun q => ?_) (fun q => ?_)
        · have hw := hw.1 q
          refine zr_iconst dX3_isWord_63 zqk_1 ?_
          exact zr_ret rfl rfl dX3_isWord_64 ⟨rfl, hw⟩
        · have hw := hw.2 q
          refine zr_aload_n dX3_isWord_36 rfl rfl ?_
          refine zr_getR zz_cX3 zz_C29 0 (by decide) rfl zf_X3_11 dX3_isWord_37 ?_
          refine zr_aload_n dX3_isWord_40 rfl rfl ?_
          refine zr_getI zz_cX3 zz_C29 3 (by decide) rfl zf_X3_22 dX3_isWord_41 ?_
          refine zr_iload_n dX3_isWord_44 rfl rfl ?_
          refine zr_iadd dX3_isWord_45 ?_
          obtain ⟨hi, hw⟩ := hw
          refine zr_iald zz_C30 hi rfl dX3_isWord_46 ?_
          refine zr_aload_n dX3_isWord_47 rfl rfl ?_
          refine zr_iload_n dX3_isWord_48 rfl rfl ?_
          obtain ⟨hi, hw⟩ := hw
          refine zr_schar j hj hi zm_X3_121 (by decide) (Nat.le_of_ble_eq_true rfl) dX3_isWord_49 ?_
          refine zr_icmp_eq 57 dX3_isWord_52 (by decide) (fun q => ?_) (fun q => ?_)
          · have hw := hw.1 q
            refine zr_iinc (x1 + 1) [.ref 29, .ref (1000 + j), .int (x1 + 1)] dX3_isWord_57 rfl (zok_1 _) (by decide) rfl rfl ?_
            refine zr_goto 28 dX3_isWord_60 (by decide) ?_
            exact ih28 _ hw
          · have hw := hw.2 q
            refine zr_iconst dX3_isWord_55 zqk_0 ?_
            exact zr_ret rfl rfl dX3_isWord_56 ⟨rfl, hw⟩
      have key28 : ∀ (t9 : Nat) (x1 : Int32), zz_lp (fun K (s : Int32) => wX3_isWord_b28 j h0 post K s) t9 x1 → zz_Go zz_C 5 cX3_isWord RX3 3 (some .boolean) (zz_pu h0 post) 28 [] [.ref 29, .ref (1000 + j), .int x1] h0 := by
        intro t9
        induction t9 with
        | zero => intro x1 hw; exact hw.elim
        | succ t9 ih => intro x1 hw; exact step28 _ ih _ hw
      exact key28 t9 _ hw
    · have hw := hw.2 q
      refine zr_iconst dX3_isWord_24 zqk_0 ?_
      exact zr_ret rfl rfl dX3_isWord_25 ⟨rfl, hw⟩
def wX3_isNumber (p1 : Int32) (h0 : zz_H) (post : Int32 → Prop) : Prop :=
  ((¬ (h0 29 2) = (2 : Int32)) → (post (0 : Int32))) ∧ (((h0 29 2) = (2 : Int32)) → (((p1 < (h0 29 5)) → (post (0 : Int32))) ∧ ((¬ p1 < (h0 29 5)) → (post (1 : Int32)))))
set_option maxRecDepth 20000 in
set_option maxHeartbeats 4000000 in
theorem ctX3_isNumber (p1 : Int32) (h0 : zz_H) (post : Int32 → Prop) (hw : wX3_isNumber p1 h0 post) : zz_Ct zz_C 0 yX3_isNumber cX3_isNumber 2 (some .boolean) [.ref 29, .int p1] h0 (zz_pu h0 post) := by
  refine zz_ct (L := [.ref 29, .int p1]) (by decide +kernel) (Nat.le_of_ble_eq_true rfl) (fun ad q hq => hq) ?_
  show zz_Go zz_C 0 cX3_isNumber RX3 2 (some .boolean) (zz_pu h0 post) 0 [] [.ref 29, .int p1] h0
  unfold wX3_isNumber at hw
  refine zr_aload_n dX3_isNumber_0 rfl rfl ?_
  refine zr_getI zz_cX3 zz_C29 2 (by decide) rfl zf_X3_19 dX3_isNumber_1 ?_
  refine zr_iconst dX3_isNumber_4 zqk_2 ?_
  refine zr_icmp_ne 20 dX3_isNumber_5 (by decide) (fun q => ?_) (fun q => ?_)
  · have hw := hw.1 q
    refine zr_iconst dX3_isNumber_20 zqk_0 ?_
    exact zr_ret rfl rfl dX3_isNumber_21 ⟨rfl, hw⟩
  · have hw := hw.2 q
    refine zr_aload_n dX3_isNumber_8 rfl rfl ?_
    refine zr_getI zz_cX3 zz_C29 5 (by decide) rfl zf_X3_28 dX3_isNumber_9 ?_
    refine zr_iload_n dX3_isNumber_12 rfl rfl ?_
    refine zr_icmp_gt 20 dX3_isNumber_13 (by decide) (fun q => ?_) (fun q => ?_)
    · have hw := hw.1 q
      refine zr_iconst dX3_isNumber_20 zqk_0 ?_
      exact zr_ret rfl rfl dX3_isNumber_21 ⟨rfl, hw⟩
    · have hw := hw.2 q
      refine zr_iconst dX3_isNumber_16 zqk_1 ?_
      refine zr_goto 21 dX3_isNumber_17 (by decide) ?_
      exact zr_ret rfl rfl dX3_isNumber_21 ⟨rfl, hw⟩
def wX3_readQuestion (b : Nat) (h0 : zz_H) (post : Int32 → zz_H → Prop) : Prop :=
  wX3_step h0 (fun _ h1 => wX3_isNumber (7 : Int32) h1 (fun r2 => ((¬ r2 = 0) → (wX3_step h1 (fun _ h3 => wX3_isWord 3 h3 (fun r4 => ((¬ r4 = 0) → (wX3_step h3 (fun _ h5 => wX3_isNumber (40 : Int32) h5 (fun r6 => ((¬ r6 = 0) → (wX0_setWorth b (h1 29 5) (h5 29 5) h5 (fun _ h7 => wX3_step h7 (fun _ h8 => post (1 : Int32) h8)))) ∧ ((r6 = 0) → (post (0 : Int32) h5)))))) ∧ ((r4 = 0) → (post (0 : Int32) h3)))))) ∧ ((r2 = 0) → (post (0 : Int32) h1))))
set_option maxRecDepth 20000 in
set_option maxHeartbeats 4000000 in
theorem ctX3_readQuestion (b : Nat) (hb : zz_pp b) (h0 : zz_H) (post : Int32 → zz_H → Prop) (hw : wX3_readQuestion b h0 post) : zz_Ct zz_C 6 yX3_readQuestion cX3_readQuestion 3 (some .boolean) [.ref 29, .ref b] h0 post := by
  refine zz_ct (L := [.ref 29, .ref b, .null]) (by decide +kernel) (Nat.le_of_ble_eq_true rfl) (fun ad q hq => hq) ?_
  show zz_Go zz_C 6 cX3_readQuestion RX3 3 (some .boolean) post 0 [] [.ref 29, .ref b, .null] h0
  unfold wX3_readQuestion at hw
  refine zr_aload_n dX3_readQuestion_0 rfl rfl ?_
  refine zr_callVv zz_cX3 zz_C29 (ctX3_step h0 _ hw) zy_X3_step zm_X3_31 (by decide) rfl rfl (Nat.le_of_ble_eq_true rfl) dX3_readQuestion_1 (fun h1 hw => ?_)
  refine zr_aload_n dX3_readQuestion_4 rfl rfl ?_
  refine zr_bipush dX3_readQuestion_5 zbk_7 ?_
  refine zr_pVi zz_cX3 zz_C29 (ctX3_isNumber (7 : Int32) h1 _ hw) zy_X3_isNumber zm_X3_65 (by decide) rfl rfl (Nat.le_of_ble_eq_true rfl) dX3_readQuestion_7 (fun r2 hw => ?_)
  refine zr_if_ne 15 dX3_readQuestion_10 (by decide) (fun q => ?_) (fun q => ?_)
  · have hw := hw.1 q
    refine zr_aload_n dX3_readQuestion_15 rfl rfl ?_
    refine zr_getI zz_cX3 zz_C29 5 (by decide) rfl zf_X3_28 dX3_readQuestion_16 ?_
    refine zr_istore_n [.ref 29, .ref b, .int (h1 29 5)] dX3_readQuestion_19 rfl (by decide) rfl rfl ?_
    refine zr_aload_n dX3_readQuestion_20 rfl rfl ?_
    refine zr_callVv zz_cX3 zz_C29 (ctX3_step h1 _ hw) zy_X3_step zm_X3_31 (by decide) rfl rfl (Nat.le_of_ble_eq_true rfl) dX3_readQuestion_21 (fun h3 hw => ?_)
    refine zr_aload_n dX3_readQuestion_24 rfl rfl ?_
    refine zr_ldcS 3 (by decide) rfl rfl dX3_readQuestion_25 ?_
    refine zr_pVi zz_cX3 zz_C29 (ctX3_isWord 3 (by decide) h3 _ hw) zy_X3_isWord zm_X3_40 (by decide) rfl rfl (Nat.le_of_ble_eq_true rfl) dX3_readQuestion_27 (fun r4 hw => ?_)
    refine zr_if_ne 35 dX3_readQuestion_30 (by decide) (fun q => ?_) (fun q => ?_)
    · have hw := hw.1 q
      refine zr_aload_n dX3_readQuestion_35 rfl rfl ?_
      refine zr_callVv zz_cX3 zz_C29 (ctX3_step h3 _ hw) zy_X3_step zm_X3_31 (by decide) rfl rfl (Nat.le_of_ble_eq_true rfl) dX3_readQuestion_36 (fun h5 hw => ?_)
      refine zr_aload_n dX3_readQuestion_39 rfl rfl ?_
      refine zr_bipush dX3_readQuestion_40 zbk_40 ?_
      refine zr_pVi zz_cX3 zz_C29 (ctX3_isNumber (40 : Int32) h5 _ hw) zy_X3_isNumber zm_X3_65 (by decide) rfl rfl (Nat.le_of_ble_eq_true rfl) dX3_readQuestion_42 (fun r6 hw => ?_)
      refine zr_if_ne 50 dX3_readQuestion_45 (by decide) (fun q => ?_) (fun q => ?_)
      · have hw := hw.1 q
        refine zr_aload_n dX3_readQuestion_50 rfl rfl ?_
        refine zr_iload_n dX3_readQuestion_51 rfl rfl ?_
        refine zr_aload_n dX3_readQuestion_52 rfl rfl ?_
        refine zr_getI zz_cX3 zz_C29 5 (by decide) rfl zf_X3_28 dX3_readQuestion_53 ?_
        refine zr_callVv zz_cX0 (zz_ppO hb) (ctX0_setWorth b (h1 29 5) (h5 29 5) hb h5 _ hw) zy_X0_setWorth zm_X3_71 (by decide) rfl rfl (Nat.le_of_ble_eq_true rfl) dX3_readQuestion_56 (fun h7 hw => ?_)
        refine zr_aload_n dX3_readQuestion_59 rfl rfl ?_
        refine zr_callVv zz_cX3 zz_C29 (ctX3_step h7 _ hw) zy_X3_step zm_X3_31 (by decide) rfl rfl (Nat.le_of_ble_eq_true rfl) dX3_readQuestion_60 (fun h8 hw => ?_)
        refine zr_iconst dX3_readQuestion_63 zqk_1 ?_
        exact zr_ret rfl rfl dX3_readQuestion_64 hw
      · have hw := hw.2 q
        refine zr_iconst dX3_readQuestion_48 zqk_0 ?_
        exact zr_ret rfl rfl dX3_readQuestion_49 hw
    · have hw := hw.2 q
      refine zr_iconst dX3_readQuestion_33 zqk_0 ?_
      exact zr_ret rfl rfl dX3_readQuestion_34 hw
  · have hw := hw.2 q
    refine zr_iconst dX3_readQuestion_13 zqk_0 ?_
    exact zr_ret rfl rfl dX3_readQuestion_14 hw
