def wX4_judge_j102 (p1 : Int32) (post : Int32 → zz_H → Prop) (h5 : zz_H) (x6 : Int32) : Prop :=
  ((¬ x6 = (h5 (zz_sheet p1) 2)) → (post ((1 : Int32) + x6) h5)) ∧ ((x6 = (h5 (zz_sheet p1) 2)) → (((¬ x6 = (h5 1 7)) → (post ((1 : Int32) + x6) h5)) ∧ ((x6 = (h5 1 7)) → (post (0 : Int32) h5))))
def wX4_judge_b58 (p1 : Int32) (post : Int32 → zz_H → Prop) (h5 : zz_H) (K7 : Int32 → Prop) (x6 : Int32) : Prop :=
  (((h5 (zz_sheet p1) 2) ≤ x6) → (wX4_judge_j102 p1 post h5 x6)) ∧ ((¬ (h5 (zz_sheet p1) 2) ≤ x6) → ((((h5 1 7) ≤ x6) → (wX4_judge_j102 p1 post h5 x6)) ∧ ((¬ (h5 1 7) ≤ x6) → (vp_in x6 40 ∧ (vp_in x6 12 ∧ (((¬ (h5 ((zz_sheet p1) + 1) x6.toNatClampNeg) = (h5 32 x6.toNatClampNeg)) → (wX4_judge_j102 p1 post h5 x6)) ∧ (((h5 ((zz_sheet p1) + 1) x6.toNatClampNeg) = (h5 32 x6.toNatClampNeg)) → (K7 (x6 + 1)))))))))
def wX4_judge (p1 : Int32) (p2 : Int32) (h0 : zz_H) (post : Int32 → zz_H → Prop) : Prop :=
  wX4_isSheet p1 h0 (fun r1 => ((¬ r1 = 0) → (vp_in p1 4 ∧ (wX2_isMissing (zz_sheet p1) h0 (fun r3 => ((r3 = 0) → (wX4_isCurve p2 h0 (fun r4 => ((¬ r4 = 0) → (wX4_workOut p2 h0 (fun _ h5 => ∃ t9, zz_lp (fun K (s : Int32) => wX4_judge_b58 p1 post h5 K s) t9 (0 : Int32)))) ∧ ((r4 = 0) → (wX4_tell ((-1000001) : Int32) h0 (fun r9 h8 => post r9 h8)))))) ∧ ((¬ r3 = 0) → (wX4_tell ((-1000006) : Int32) h0 (fun r11 h10 => post r11 h10))))))) ∧ ((r1 = 0) → (wX4_tell ((-1000001) : Int32) h0 (fun r13 h12 => post r13 h12))))
set_option maxRecDepth 20000 in
set_option maxHeartbeats 4000000 in
theorem ctX4_judge (p1 : Int32) (p2 : Int32) (h0 : zz_H) (post : Int32 → zz_H → Prop) (hw : wX4_judge p1 p2 h0 post) : zz_Ct zz_C 6 yX4_judge cX4_judge 5 (some .int) [.ref 0, .int p1, .int p2] h0 post := by
  refine zz_ct (L := [.ref 0, .int p1, .int p2, .null, .null]) (by decide +kernel) (Nat.le_of_ble_eq_true rfl) (fun ad q hq => hq) ?_
  show zz_Go zz_C 6 cX4_judge RX4 5 (some .int) post 0 [] [.ref 0, .int p1, .int p2, .null, .null] h0
  unfold wX4_judge at hw
  refine zr_iload_n dX4_judge_0 rfl rfl ?_
  refine zr_pSi (ctX4_isSheet p1 h0 _ hw) zy_X4_isSheet zm_X4_240 (by decide) rfl rfl (Nat.le_of_ble_eq_true rfl) dX4_judge_1 (fun r1 hw => ?_)
  refine zr_if_ne 14 dX4_judge_4 (by decide) (fun q => ?_) (fun q => ?_)
  · have hw := hw.1 q
    refine zr_aload_n dX4_judge_14 rfl rfl ?_
    refine zr_getR zz_cX4 zz_C0 5 (by decide) rfl zf_X4_38 dX4_judge_15 ?_
    refine zr_iload_n dX4_judge_18 rfl rfl ?_
    obtain ⟨hi, hw⟩ := hw
    have hq2 := (zz_sheet_at hi).2
    refine zr_aald zz_C31 hi (zz_sheet_at hi).1 dX4_judge_19 ?_
    refine zr_astore_n [.ref 0, .int p1, .int p2, .ref (zz_sheet p1), .null] dX4_judge_20 rfl (by decide) rfl rfl ?_
    refine zr_aload_n dX4_judge_21 rfl rfl ?_
    refine zr_pVi zz_cX2 (zz_psO hq2) (ctX2_isMissing (zz_sheet p1) hq2 h0 _ hw) zy_X2_isMissing zm_X4_250 (by decide) rfl rfl (Nat.le_of_ble_eq_true rfl) dX4_judge_22 (fun r3 hw => ?_)
    refine zr_if_eq 35 dX4_judge_25 (by decide) (fun q => ?_) (fun q => ?_)
    · have hw := hw.1 q
      refine zr_aload_n dX4_judge_35 rfl rfl ?_
      refine zr_iload_n dX4_judge_36 rfl rfl ?_
      refine zr_pVi zz_cX4 zz_C0 (ctX4_isCurve p2 h0 _ hw) zy_X4_isCurve zm_X4_150 (by decide) rfl rfl (Nat.le_of_ble_eq_true rfl) dX4_judge_37 (fun r4 hw => ?_)
      refine zr_if_ne 50 dX4_judge_40 (by decide) (fun q => ?_) (fun q => ?_)
      · have hw := hw.1 q
        refine zr_aload_n dX4_judge_50 rfl rfl ?_
        refine zr_iload_n dX4_judge_51 rfl rfl ?_
        refine zr_callVv zz_cX4 zz_C0 (ctX4_workOut p2 h0 _ hw) zy_X4_workOut zm_X4_162 (by decide) rfl rfl (Nat.le_of_ble_eq_true rfl) dX4_judge_52 (fun h5 hw => ?_)
        refine zr_iconst dX4_judge_55 zqk_0 ?_
        refine zr_istore [.ref 0, .int p1, .int p2, .ref (zz_sheet p1), .int (0 : Int32)] dX4_judge_56 (by decide) rfl rfl ?_
        refine zr_sub [.ref 0, .null, .null, .ref (zz_sheet p1), .int (0 : Int32)] ⟨Or.inr rfl, ⟨Or.inl rfl, ⟨Or.inl rfl, ⟨Or.inr rfl, ⟨Or.inr rfl, trivial⟩⟩⟩⟩⟩ ?_
        obtain ⟨t9, hw⟩ := hw
        have step58 : ∀ (K7 : Int32 → Prop), (∀ (x6 : Int32), K7 x6 → zz_Go zz_C 6 cX4_judge RX4 5 (some .int) post 58 [] [.ref 0, .null, .null, .ref (zz_sheet p1), .int x6] h5) → ∀ (x6 : Int32), wX4_judge_b58 p1 post h5 K7 x6 → zz_Go zz_C 6 cX4_judge RX4 5 (some .int) post 58 [] [.ref 0, .null, .null, .ref (zz_sheet p1), .int x6] h5 := by
          intro K7 ih58 x6 hw
          unfold wX4_judge_b58 at hw
          refine zr_iload dX4_judge_58 rfl ?_
          refine zr_aload_n dX4_judge_60 rfl rfl ?_
          refine zr_getI zz_cX2 (zz_psO hq2) 2 (by decide) rfl zf_X4_247 dX4_judge_61 ?_
          have j102 : wX4_judge_j102 p1 post h5 x6 → zz_Go zz_C 6 cX4_judge RX4 5 (some .int) post 102 [] [.ref 0, .null, .null, .ref (zz_sheet p1), .int x6] h5 := by
            intro hw
            unfold wX4_judge_j102 at hw
            refine zr_iload dX4_judge_102 rfl ?_
            refine zr_aload_n dX4_judge_104 rfl rfl ?_
            refine zr_getI zz_cX2 (zz_psO hq2) 2 (by decide) rfl zf_X4_247 dX4_judge_105 ?_
            refine zr_icmp_ne 127 dX4_judge_108 (by decide) (fun q => ?_) (fun q => ?_)
            · have hw := hw.1 q
              refine zr_iconst dX4_judge_127 zqk_1 ?_
              refine zr_iload dX4_judge_128 rfl ?_
              refine zr_iadd dX4_judge_130 ?_
              exact zr_ret rfl rfl dX4_judge_131 hw
            · have hw := hw.2 q
              refine zr_iload dX4_judge_111 rfl ?_
              refine zr_aload_n dX4_judge_113 rfl rfl ?_
              refine zr_getR zz_cX4 zz_C0 0 (by decide) rfl zf_X4_12 dX4_judge_114 ?_
              refine zr_getI zz_cX0 zz_C1 7 (by decide) rfl zf_X4_80 dX4_judge_117 ?_
              refine zr_icmp_ne 127 dX4_judge_120 (by decide) (fun q => ?_) (fun q => ?_)
              · have hw := hw.1 q
                refine zr_iconst dX4_judge_127 zqk_1 ?_
                refine zr_iload dX4_judge_128 rfl ?_
                refine zr_iadd dX4_judge_130 ?_
                exact zr_ret rfl rfl dX4_judge_131 hw
              · have hw := hw.2 q
                refine zr_iconst dX4_judge_123 zqk_0 ?_
                refine zr_goto 131 dX4_judge_124 (by decide) ?_
                exact zr_ret rfl rfl dX4_judge_131 hw
          refine zr_icmp_ge 102 dX4_judge_64 (by decide) (fun q => ?_) (fun q => ?_)
          · have hw := hw.1 q
            exact j102 hw
          · have hw := hw.2 q
            refine zr_iload dX4_judge_67 rfl ?_
            refine zr_aload_n dX4_judge_69 rfl rfl ?_
            refine zr_getR zz_cX4 zz_C0 0 (by decide) rfl zf_X4_12 dX4_judge_70 ?_
            refine zr_getI zz_cX0 zz_C1 7 (by decide) rfl zf_X4_80 dX4_judge_73 ?_
            refine zr_icmp_ge 102 dX4_judge_76 (by decide) (fun q => ?_) (fun q => ?_)
            · have hw := hw.1 q
              exact j102 hw
            · have hw := hw.2 q
              refine zr_aload_n dX4_judge_79 rfl rfl ?_
              refine zr_getR zz_cX2 (zz_psO hq2) 0 (by decide) rfl zf_X4_263 dX4_judge_80 ?_
              refine zr_iload dX4_judge_83 rfl ?_
              obtain ⟨hi, hw⟩ := hw
              refine zr_iald (zz_psA0 hq2) hi rfl dX4_judge_85 ?_
              refine zr_aload_n dX4_judge_86 rfl rfl ?_
              refine zr_getR zz_cX4 zz_C0 6 (by decide) rfl zf_X4_42 dX4_judge_87 ?_
              refine zr_iload dX4_judge_90 rfl ?_
              obtain ⟨hi, hw⟩ := hw
              refine zr_iald zz_C32 hi rfl dX4_judge_92 ?_
              refine zr_icmp_ne 102 dX4_judge_93 (by decide) (fun q => ?_) (fun q => ?_)
              · have hw := hw.1 q
                exact j102 hw
              · have hw := hw.2 q
                refine zr_iinc (x6 + 1) [.ref 0, .null, .null, .ref (zz_sheet p1), .int (x6 + 1)] dX4_judge_96 rfl (zok_1 _) (by decide) rfl rfl ?_
                refine zr_goto 58 dX4_judge_99 (by decide) ?_
                exact ih58 _ hw
        have key58 : ∀ (t9 : Nat) (x6 : Int32), zz_lp (fun K (s : Int32) => wX4_judge_b58 p1 post h5 K s) t9 x6 → zz_Go zz_C 6 cX4_judge RX4 5 (some .int) post 58 [] [.ref 0, .null, .null, .ref (zz_sheet p1), .int x6] h5 := by
          intro t9
          induction t9 with
          | zero => intro x6 hw; exact hw.elim
          | succ t9 ih => intro x6 hw; exact step58 _ ih _ hw
        exact key58 t9 _ hw
      · have hw := hw.2 q
        refine zr_aload_n dX4_judge_43 rfl rfl ?_
        refine zr_ldc zk_X4_65 dX4_judge_44 ?_
        refine zr_callVi zz_cX4 zz_C0 (ctX4_tell ((-1000001) : Int32) h0 _ hw) zy_X4_tell zm_X4_66 (by decide) rfl rfl (Nat.le_of_ble_eq_true rfl) dX4_judge_46 (fun r9 h8 hw => ?_)
        exact zr_ret rfl rfl dX4_judge_49 hw
    · have hw := hw.2 q
      refine zr_aload_n dX4_judge_28 rfl rfl ?_
      refine zr_ldc zk_X4_234 dX4_judge_29 ?_
      refine zr_callVi zz_cX4 zz_C0 (ctX4_tell ((-1000006) : Int32) h0 _ hw) zy_X4_tell zm_X4_66 (by decide) rfl rfl (Nat.le_of_ble_eq_true rfl) dX4_judge_31 (fun r11 h10 hw => ?_)
      exact zr_ret rfl rfl dX4_judge_34 hw
  · have hw := hw.2 q
    refine zr_aload_n dX4_judge_7 rfl rfl ?_
    refine zr_ldc zk_X4_65 dX4_judge_8 ?_
    refine zr_callVi zz_cX4 zz_C0 (ctX4_tell ((-1000001) : Int32) h0 _ hw) zy_X4_tell zm_X4_66 (by decide) rfl rfl (Nat.le_of_ble_eq_true rfl) dX4_judge_10 (fun r13 h12 hw => ?_)
    exact zr_ret rfl rfl dX4_judge_13 hw
def wX4_image (h0 : zz_H) (post : Int32 → zz_H → Prop) : Prop :=
  wX0_takeFrom 9 1 h0 (fun _ h1 => zz_sto h1 0 (upd (h1 0) 9 (1 : Int32)) (fun h2 => post (1 : Int32) h2))
set_option maxRecDepth 20000 in
set_option maxHeartbeats 4000000 in
theorem ctX4_image (h0 : zz_H) (post : Int32 → zz_H → Prop) (hw : wX4_image h0 post) : zz_Ct zz_C 2 yX4_image cX4_image 1 (some .int) [.ref 0] h0 post := by
  refine zz_ct (L := [.ref 0]) (by decide +kernel) (Nat.le_of_ble_eq_true rfl) (fun ad q hq => hq) ?_
  show zz_Go zz_C 2 cX4_image RX4 1 (some .int) post 0 [] [.ref 0] h0
  unfold wX4_image at hw
  refine zr_aload_n dX4_image_0 rfl rfl ?_
  refine zr_getR zz_cX4 zz_C0 1 (by decide) rfl zf_X4_16 dX4_image_1 ?_
  refine zr_aload_n dX4_image_4 rfl rfl ?_
  refine zr_getR zz_cX4 zz_C0 0 (by decide) rfl zf_X4_12 dX4_image_5 ?_
  refine zr_callVv zz_cX0 zz_C9 (ctX0_takeFrom 9 1 (Or.inr (Or.inl rfl)) (Or.inl rfl) h0 _ hw) zy_X0_takeFrom zm_X4_221 (by decide) rfl rfl (Nat.le_of_ble_eq_true rfl) dX4_image_8 (fun h1 hw => ?_)
  refine zr_aload_n dX4_image_11 rfl rfl ?_
  refine zr_iconst dX4_image_12 zqk_1 ?_
  refine zr_putI zz_cX4 zz_C0 9 (by decide) rfl rfl rfl rfl rfl zf_X4_52 dX4_image_13 hw (fun h2 hw => ?_)
  refine zr_iconst dX4_image_16 zqk_1 ?_
  exact zr_ret rfl rfl dX4_image_17 hw
def wX4_undo (h0 : zz_H) (post : Int32 → zz_H → Prop) : Prop :=
  ((¬ (h0 0 9) = 0) → (wX0_takeFrom 1 9 h0 (fun _ h1 => post (h1 1 7) h1))) ∧ (((h0 0 9) = 0) → (wX4_tell ((-1000004) : Int32) h0 (fun r3 h2 => post r3 h2)))
set_option maxRecDepth 20000 in
set_option maxHeartbeats 4000000 in
theorem ctX4_undo (h0 : zz_H) (post : Int32 → zz_H → Prop) (hw : wX4_undo h0 post) : zz_Ct zz_C 2 yX4_undo cX4_undo 1 (some .int) [.ref 0] h0 post := by
  refine zz_ct (L := [.ref 0]) (by decide +kernel) (Nat.le_of_ble_eq_true rfl) (fun ad q hq => hq) ?_
  show zz_Go zz_C 2 cX4_undo RX4 1 (some .int) post 0 [] [.ref 0] h0
  unfold wX4_undo at hw
  refine zr_aload_n dX4_undo_0 rfl rfl ?_
  refine zr_getI zz_cX4 zz_C0 9 (by decide) rfl zf_X4_52 dX4_undo_1 ?_
  refine zr_if_ne 14 dX4_undo_4 (by decide) (fun q => ?_) (fun q => ?_)
  · have hw := hw.1 q
    refine zr_aload_n dX4_undo_14 rfl rfl ?_
    refine zr_getR zz_cX4 zz_C0 0 (by decide) rfl zf_X4_12 dX4_undo_15 ?_
    refine zr_aload_n dX4_undo_18 rfl rfl ?_
    refine zr_getR zz_cX4 zz_C0 1 (by decide) rfl zf_X4_16 dX4_undo_19 ?_
    refine zr_callVv zz_cX0 zz_C1 (ctX0_takeFrom 1 9 (Or.inl rfl) (Or.inr (Or.inl rfl)) h0 _ hw) zy_X0_takeFrom zm_X4_221 (by decide) rfl rfl (Nat.le_of_ble_eq_true rfl) dX4_undo_22 (fun h1 hw => ?_)
    refine zr_aload_n dX4_undo_25 rfl rfl ?_
    refine zr_getR zz_cX4 zz_C0 0 (by decide) rfl zf_X4_12 dX4_undo_26 ?_
    refine zr_getI zz_cX0 zz_C1 7 (by decide) rfl zf_X4_80 dX4_undo_29 ?_
    exact zr_ret rfl rfl dX4_undo_32 hw
  · have hw := hw.2 q
    refine zr_aload_n dX4_undo_7 rfl rfl ?_
    refine zr_ldc zk_X4_111 dX4_undo_8 ?_
    refine zr_callVi zz_cX4 zz_C0 (ctX4_tell ((-1000004) : Int32) h0 _ hw) zy_X4_tell zm_X4_66 (by decide) rfl rfl (Nat.le_of_ble_eq_true rfl) dX4_undo_10 (fun r3 h2 hw => ?_)
    exact zr_ret rfl rfl dX4_undo_13 hw
def wX4_tear (h0 : zz_H) (post : Int32 → zz_H → Prop) : Prop :=
  (((h0 0 9) = 0) → (zz_sto h0 0 (upd (h0 0) 9 (0 : Int32)) (fun h1 => post (0 : Int32) h1))) ∧ ((¬ (h0 0 9) = 0) → (zz_sto h0 0 (upd (h0 0) 9 (0 : Int32)) (fun h2 => post (1 : Int32) h2)))
set_option maxRecDepth 20000 in
set_option maxHeartbeats 4000000 in
theorem ctX4_tear (h0 : zz_H) (post : Int32 → zz_H → Prop) (hw : wX4_tear h0 post) : zz_Ct zz_C 0 yX4_tear cX4_tear 2 (some .int) [.ref 0] h0 post := by
  refine zz_ct (L := [.ref 0, .null]) (by decide +kernel) (Nat.le_of_ble_eq_true rfl) (fun ad q hq => hq) ?_
  show zz_Go zz_C 0 cX4_tear RX4 2 (some .int) post 0 [] [.ref 0, .null] h0
  unfold wX4_tear at hw
  refine zr_aload_n dX4_tear_0 rfl rfl ?_
  refine zr_getI zz_cX4 zz_C0 9 (by decide) rfl zf_X4_52 dX4_tear_1 ?_
  refine zr_if_eq 11 dX4_tear_4 (by decide) (fun q => ?_) (fun q => ?_)
  · have hw := hw.1 q
    refine zr_iconst dX4_tear_11 zqk_0 ?_
    refine zr_istore_n [.ref 0, .int (0 : Int32)] dX4_tear_12 rfl (by decide) rfl rfl ?_
    refine zr_aload_n dX4_tear_13 rfl rfl ?_
    refine zr_iconst dX4_tear_14 zqk_0 ?_
    refine zr_putI zz_cX4 zz_C0 9 (by decide) rfl rfl rfl rfl rfl zf_X4_52 dX4_tear_15 hw (fun h1 hw => ?_)
    refine zr_iload_n dX4_tear_18 rfl rfl ?_
    exact zr_ret rfl rfl dX4_tear_19 hw
  · have hw := hw.2 q
    refine zr_iconst dX4_tear_7 zqk_1 ?_
    refine zr_goto 12 dX4_tear_8 (by decide) ?_
    refine zr_istore_n [.ref 0, .int (1 : Int32)] dX4_tear_12 rfl (by decide) rfl rfl ?_
    refine zr_aload_n dX4_tear_13 rfl rfl ?_
    refine zr_iconst dX4_tear_14 zqk_0 ?_
    refine zr_putI zz_cX4 zz_C0 9 (by decide) rfl rfl rfl rfl rfl zf_X4_52 dX4_tear_15 hw (fun h2 hw => ?_)
    refine zr_iload_n dX4_tear_18 rfl rfl ?_
    exact zr_ret rfl rfl dX4_tear_19 hw
def wJ6_bitCount_0f7a4 (p1 : Int32) (h0 : zz_H) (post : Int32 → Prop) : Prop :=
  post ((((((((p1 - ((zz_ushr p1 (1 : Int32)) &&& (1431655765 : Int32))) &&& (858993459 : Int32)) + ((zz_ushr (p1 - ((zz_ushr p1 (1 : Int32)) &&& (1431655765 : Int32))) (2 : Int32)) &&& (858993459 : Int32))) + (zz_ushr (((p1 - ((zz_ushr p1 (1 : Int32)) &&& (1431655765 : Int32))) &&& (858993459 : Int32)) + ((zz_ushr (p1 - ((zz_ushr p1 (1 : Int32)) &&& (1431655765 : Int32))) (2 : Int32)) &&& (858993459 : Int32))) (4 : Int32))) &&& (252645135 : Int32)) + (zz_ushr (((((p1 - ((zz_ushr p1 (1 : Int32)) &&& (1431655765 : Int32))) &&& (858993459 : Int32)) + ((zz_ushr (p1 - ((zz_ushr p1 (1 : Int32)) &&& (1431655765 : Int32))) (2 : Int32)) &&& (858993459 : Int32))) + (zz_ushr (((p1 - ((zz_ushr p1 (1 : Int32)) &&& (1431655765 : Int32))) &&& (858993459 : Int32)) + ((zz_ushr (p1 - ((zz_ushr p1 (1 : Int32)) &&& (1431655765 : Int32))) (2 : Int32)) &&& (858993459 : Int32))) (4 : Int32))) &&& (252645135 : Int32)) (8 : Int32))) + (zz_ushr ((((((p1 - ((zz_ushr p1 (1 : Int32)) &&& (1431655765 : Int32))) &&& (858993459 : Int32)) + ((zz_ushr (p1 - ((zz_ushr p1 (1 : Int32)) &&& (1431655765 : Int32))) (2 : Int32)) &&& (858993459 : Int32))) + (zz_ushr (((p1 - ((zz_ushr p1 (1 : Int32)) &&& (1431655765 : Int32))) &&& (858993459 : Int32)) + ((zz_ushr (p1 - ((zz_ushr p1 (1 : Int32)) &&& (1431655765 : Int32))) (2 : Int32)) &&& (858993459 : Int32))) (4 : Int32))) &&& (252645135 : Int32)) + (zz_ushr (((((p1 - ((zz_ushr p1 (1 : Int32)) &&& (1431655765 : Int32))) &&& (858993459 : Int32)) + ((zz_ushr (p1 - ((zz_ushr p1 (1 : Int32)) &&& (1431655765 : Int32))) (2 : Int32)) &&& (858993459 : Int32))) + (zz_ushr (((p1 - ((zz_ushr p1 (1 : Int32)) &&& (1431655765 : Int32))) &&& (858993459 : Int32)) + ((zz_ushr (p1 - ((zz_ushr p1 (1 : Int32)) &&& (1431655765 : Int32))) (2 : Int32)) &&& (858993459 : Int32))) (4 : Int32))) &&& (252645135 : Int32)) (8 : Int32))) (16 : Int32))) &&& (63 : Int32))
set_option maxRecDepth 20000 in
set_option maxHeartbeats 4000000 in
theorem ctJ6_bitCount_0f7a4 (p1 : Int32) (h0 : zz_H) (post : Int32 → Prop) (hw : wJ6_bitCount_0f7a4 p1 h0 post) : zz_Ct zz_C 0 yJ6_bitCount_0f7a4 cJ6_bitCount_0f7a4 1 (some .int) [.int p1] h0 (zz_pu h0 post) := by
  refine zz_ct (L := [.int p1]) (by decide +kernel) (Nat.le_of_ble_eq_true rfl) (fun ad q hq => hq) ?_
  show zz_Go zz_C 0 cJ6_bitCount_0f7a4 RJ6 1 (some .int) (zz_pu h0 post) 0 [] [.int p1] h0
  unfold wJ6_bitCount_0f7a4 at hw
  refine zr_iload_n dJ6_bitCount_0f7a4_0 rfl rfl ?_
  refine zr_iload_n dJ6_bitCount_0f7a4_1 rfl rfl ?_
  refine zr_iconst dJ6_bitCount_0f7a4_2 zqk_1 ?_
  refine zr_iushr dJ6_bitCount_0f7a4_3 ?_
  refine zr_ldcw zk_J6_265 dJ6_bitCount_0f7a4_4 ?_
  refine zr_iand dJ6_bitCount_0f7a4_7 ?_
  refine zr_isub dJ6_bitCount_0f7a4_8 ?_
  refine zr_istore_n [.int (p1 - ((zz_ushr p1 (1 : Int32)) &&& (1431655765 : Int32)))] dJ6_bitCount_0f7a4_9 rfl (by decide) rfl rfl ?_
  refine zr_iload_n dJ6_bitCount_0f7a4_10 rfl rfl ?_
  refine zr_ldcw zk_J6_266 dJ6_bitCount_0f7a4_11 ?_
  refine zr_iand dJ6_bitCount_0f7a4_14 ?_
  refine zr_iload_n dJ6_bitCount_0f7a4_15 rfl rfl ?_
  refine zr_iconst dJ6_bitCount_0f7a4_16 zqk_2 ?_
  refine zr_iushr dJ6_bitCount_0f7a4_17 ?_
  refine zr_ldcw zk_J6_266 dJ6_bitCount_0f7a4_18 ?_
  refine zr_iand dJ6_bitCount_0f7a4_21 ?_
  refine zr_iadd dJ6_bitCount_0f7a4_22 ?_
  refine zr_istore_n [.int (((p1 - ((zz_ushr p1 (1 : Int32)) &&& (1431655765 : Int32))) &&& (858993459 : Int32)) + ((zz_ushr (p1 - ((zz_ushr p1 (1 : Int32)) &&& (1431655765 : Int32))) (2 : Int32)) &&& (858993459 : Int32)))] dJ6_bitCount_0f7a4_23 rfl (by decide) rfl rfl ?_
  refine zr_iload_n dJ6_bitCount_0f7a4_24 rfl rfl ?_
  refine zr_iload_n dJ6_bitCount_0f7a4_25 rfl rfl ?_
  refine zr_iconst dJ6_bitCount_0f7a4_26 zqk_4 ?_
  refine zr_iushr dJ6_bitCount_0f7a4_27 ?_
  refine zr_iadd dJ6_bitCount_0f7a4_28 ?_
  refine zr_ldcw zk_J6_267 dJ6_bitCount_0f7a4_29 ?_
  refine zr_iand dJ6_bitCount_0f7a4_32 ?_
  refine zr_istore_n [.int (((((p1 - ((zz_ushr p1 (1 : Int32)) &&& (1431655765 : Int32))) &&& (858993459 : Int32)) + ((zz_ushr (p1 - ((zz_ushr p1 (1 : Int32)) &&& (1431655765 : Int32))) (2 : Int32)) &&& (858993459 : Int32))) + (zz_ushr (((p1 - ((zz_ushr p1 (1 : Int32)) &&& (1431655765 : Int32))) &&& (858993459 : Int32)) + ((zz_ushr (p1 - ((zz_ushr p1 (1 : Int32)) &&& (1431655765 : Int32))) (2 : Int32)) &&& (858993459 : Int32))) (4 : Int32))) &&& (252645135 : Int32))] dJ6_bitCount_0f7a4_33 rfl (by decide) rfl rfl ?_
  refine zr_iload_n dJ6_bitCount_0f7a4_34 rfl rfl ?_
  refine zr_iload_n dJ6_bitCount_0f7a4_35 rfl rfl ?_
  refine zr_bipush dJ6_bitCount_0f7a4_36 zbk_8 ?_
  refine zr_iushr dJ6_bitCount_0f7a4_38 ?_
  refine zr_iadd dJ6_bitCount_0f7a4_39 ?_
  refine zr_istore_n [.int ((((((p1 - ((zz_ushr p1 (1 : Int32)) &&& (1431655765 : Int32))) &&& (858993459 : Int32)) + ((zz_ushr (p1 - ((zz_ushr p1 (1 : Int32)) &&& (1431655765 : Int32))) (2 : Int32)) &&& (858993459 : Int32))) + (zz_ushr (((p1 - ((zz_ushr p1 (1 : Int32)) &&& (1431655765 : Int32))) &&& (858993459 : Int32)) + ((zz_ushr (p1 - ((zz_ushr p1 (1 : Int32)) &&& (1431655765 : Int32))) (2 : Int32)) &&& (858993459 : Int32))) (4 : Int32))) &&& (252645135 : Int32)) + (zz_ushr (((((p1 - ((zz_ushr p1 (1 : Int32)) &&& (1431655765 : Int32))) &&& (858993459 : Int32)) + ((zz_ushr (p1 - ((zz_ushr p1 (1 : Int32)) &&& (1431655765 : Int32))) (2 : Int32)) &&& (858993459 : Int32))) + (zz_ushr (((p1 - ((zz_ushr p1 (1 : Int32)) &&& (1431655765 : Int32))) &&& (858993459 : Int32)) + ((zz_ushr (p1 - ((zz_ushr p1 (1 : Int32)) &&& (1431655765 : Int32))) (2 : Int32)) &&& (858993459 : Int32))) (4 : Int32))) &&& (252645135 : Int32)) (8 : Int32)))] dJ6_bitCount_0f7a4_40 rfl (by decide) rfl rfl ?_
  refine zr_iload_n dJ6_bitCount_0f7a4_41 rfl rfl ?_
  refine zr_iload_n dJ6_bitCount_0f7a4_42 rfl rfl ?_
  refine zr_bipush dJ6_bitCount_0f7a4_43 zbk_16 ?_
  refine zr_iushr dJ6_bitCount_0f7a4_45 ?_
  refine zr_iadd dJ6_bitCount_0f7a4_46 ?_
  refine zr_istore_n [.int (((((((p1 - ((zz_ushr p1 (1 : Int32)) &&& (1431655765 : Int32))) &&& (858993459 : Int32)) + ((zz_ushr (p1 - ((zz_ushr p1 (1 : Int32)) &&& (1431655765 : Int32))) (2 : Int32)) &&& (858993459 : Int32))) + (zz_ushr (((p1 - ((zz_ushr p1 (1 : Int32)) &&& (1431655765 : Int32))) &&& (858993459 : Int32)) + ((zz_ushr (p1 - ((zz_ushr p1 (1 : Int32)) &&& (1431655765 : Int32))) (2 : Int32)) &&& (858993459 : Int32))) (4 : Int32))) &&& (252645135 : Int32)) + (zz_ushr (((((p1 - ((zz_ushr p1 (1 : Int32)) &&& (1431655765 : Int32))) &&& (858993459 : Int32)) + ((zz_ushr (p1 - ((zz_ushr p1 (1 : Int32)) &&& (1431655765 : Int32))) (2 : Int32)) &&& (858993459 : Int32))) + (zz_ushr (((p1 - ((zz_ushr p1 (1 : Int32)) &&& (1431655765 : Int32))) &&& (858993459 : Int32)) + ((zz_ushr (p1 - ((zz_ushr p1 (1 : Int32)) &&& (1431655765 : Int32))) (2 : Int32)) &&& (858993459 : Int32))) (4 : Int32))) &&& (252645135 : Int32)) (8 : Int32))) + (zz_ushr ((((((p1 - ((zz_ushr p1 (1 : Int32)) &&& (1431655765 : Int32))) &&& (858993459 : Int32)) + ((zz_ushr (p1 - ((zz_ushr p1 (1 : Int32)) &&& (1431655765 : Int32))) (2 : Int32)) &&& (858993459 : Int32))) + (zz_ushr (((p1 - ((zz_ushr p1 (1 : Int32)) &&& (1431655765 : Int32))) &&& (858993459 : Int32)) + ((zz_ushr (p1 - ((zz_ushr p1 (1 : Int32)) &&& (1431655765 : Int32))) (2 : Int32)) &&& (858993459 : Int32))) (4 : Int32))) &&& (252645135 : Int32)) + (zz_ushr (((((p1 - ((zz_ushr p1 (1 : Int32)) &&& (1431655765 : Int32))) &&& (858993459 : Int32)) + ((zz_ushr (p1 - ((zz_ushr p1 (1 : Int32)) &&& (1431655765 : Int32))) (2 : Int32)) &&& (858993459 : Int32))) + (zz_ushr (((p1 - ((zz_ushr p1 (1 : Int32)) &&& (1431655765 : Int32))) &&& (858993459 : Int32)) + ((zz_ushr (p1 - ((zz_ushr p1 (1 : Int32)) &&& (1431655765 : Int32))) (2 : Int32)) &&& (858993459 : Int32))) (4 : Int32))) &&& (252645135 : Int32)) (8 : Int32))) (16 : Int32)))] dJ6_bitCount_0f7a4_47 rfl (by decide) rfl rfl ?_
  refine zr_iload_n dJ6_bitCount_0f7a4_48 rfl rfl ?_
  refine zr_bipush dJ6_bitCount_0f7a4_49 zbk_63 ?_
  refine zr_iand dJ6_bitCount_0f7a4_51 ?_
  exact zr_ret rfl rfl dJ6_bitCount_0f7a4_52 ⟨rfl, hw⟩
def wX4_count (p1 : Int32) (h0 : zz_H) (post : Int32 → zz_H → Prop) : Prop :=
  (p1 = (0 : Int32) → (post (h0 1 7) h0)) ∧ (p1 = (1 : Int32) → (post (h0 1 8) h0)) ∧ (p1 = (2 : Int32) → (wX0_commonSet 1 h0 (fun r1 => wJ6_bitCount_0f7a4 r1 h0 (fun r2 => post r2 h0)))) ∧ (p1 = (3 : Int32) → (post (h0 29 1) h0)) ∧ (p1 = (4 : Int32) → (post (h0 1 9) h0)) ∧ (p1 = (5 : Int32) → (wX0_spotsInUse 1 h0 (fun r3 => post r3 h0))) ∧ ((¬ p1 = (0 : Int32)) → (¬ p1 = (1 : Int32)) → (¬ p1 = (2 : Int32)) → (¬ p1 = (3 : Int32)) → (¬ p1 = (4 : Int32)) → (¬ p1 = (5 : Int32)) → (wX4_tell ((-1000001) : Int32) h0 (fun r5 h4 => post r5 h4)))
set_option maxRecDepth 20000 in
set_option maxHeartbeats 4000000 in
theorem ctX4_count (p1 : Int32) (h0 : zz_H) (post : Int32 → zz_H → Prop) (hw : wX4_count p1 h0 post) : zz_Ct zz_C 2 yX4_count cX4_count 2 (some .int) [.ref 0, .int p1] h0 post := by
  refine zz_ct (L := [.ref 0, .int p1]) (by decide +kernel) (Nat.le_of_ble_eq_true rfl) (fun ad q hq => hq) ?_
  show zz_Go zz_C 2 cX4_count RX4 2 (some .int) post 0 [] [.ref 0, .int p1] h0
  unfold wX4_count at hw
  refine zr_iload_n dX4_count_0 rfl rfl ?_
  by_cases q0 : p1 = (0 : Int32)
  · have hw := hw.1 q0
    refine zr_tabIn 40 dX4_count_1 (by rw [q0]; decide) (by rw [q0]; decide) (off := 39) (by rw [q0]; decide) (by decide) ?_
    refine zr_aload_n dX4_count_40 rfl rfl ?_
    refine zr_getR zz_cX4 zz_C0 0 (by decide) rfl zf_X4_12 dX4_count_41 ?_
    refine zr_getI zz_cX0 zz_C1 7 (by decide) rfl zf_X4_80 dX4_count_44 ?_
    exact zr_ret rfl rfl dX4_count_47 hw
  by_cases q1 : p1 = (1 : Int32)
  · have hw := hw.2.1 q1
    refine zr_tabIn 48 dX4_count_1 (by rw [q1]; decide) (by rw [q1]; decide) (off := 47) (by rw [q1]; decide) (by decide) ?_
    refine zr_aload_n dX4_count_48 rfl rfl ?_
    refine zr_getR zz_cX4 zz_C0 0 (by decide) rfl zf_X4_12 dX4_count_49 ?_
    refine zr_getI zz_cX0 zz_C1 8 (by decide) rfl zf_X4_144 dX4_count_52 ?_
    exact zr_ret rfl rfl dX4_count_55 hw
  by_cases q2 : p1 = (2 : Int32)
  · have hw := hw.2.2.1 q2
    refine zr_tabIn 56 dX4_count_1 (by rw [q2]; decide) (by rw [q2]; decide) (off := 55) (by rw [q2]; decide) (by decide) ?_
    refine zr_aload_n dX4_count_56 rfl rfl ?_
    refine zr_getR zz_cX4 zz_C0 0 (by decide) rfl zf_X4_12 dX4_count_57 ?_
    refine zr_pVi zz_cX0 zz_C1 (ctX0_commonSet 1 (Or.inl rfl) h0 _ hw) zy_X0_commonSet zm_X4_272 (by decide) rfl rfl (Nat.le_of_ble_eq_true rfl) dX4_count_60 (fun r1 hw => ?_)
    refine zr_pSi (ctJ6_bitCount_0f7a4 r1 h0 _ hw) zy_J6_bitCount_0f7a4 zm_X4_275 (by decide) rfl rfl (Nat.le_of_ble_eq_true rfl) dX4_count_63 (fun r2 hw => ?_)
    exact zr_ret rfl rfl dX4_count_66 hw
  by_cases q3 : p1 = (3 : Int32)
  · have hw := hw.2.2.2.1 q3
    refine zr_tabIn 67 dX4_count_1 (by rw [q3]; decide) (by rw [q3]; decide) (off := 66) (by rw [q3]; decide) (by decide) ?_
    refine zr_aload_n dX4_count_67 rfl rfl ?_
    refine zr_getR zz_cX4 zz_C0 4 (by decide) rfl zf_X4_32 dX4_count_68 ?_
    refine zr_getI zz_cX3 zz_C29 1 (by decide) rfl zf_X4_215 dX4_count_71 ?_
    exact zr_ret rfl rfl dX4_count_74 hw
  by_cases q4 : p1 = (4 : Int32)
  · have hw := hw.2.2.2.2.1 q4
    refine zr_tabIn 75 dX4_count_1 (by rw [q4]; decide) (by rw [q4]; decide) (off := 74) (by rw [q4]; decide) (by decide) ?_
    refine zr_aload_n dX4_count_75 rfl rfl ?_
    refine zr_getR zz_cX4 zz_C0 0 (by decide) rfl zf_X4_12 dX4_count_76 ?_
    refine zr_getI zz_cX0 zz_C1 9 (by decide) rfl zf_X4_212 dX4_count_79 ?_
    exact zr_ret rfl rfl dX4_count_82 hw
  by_cases q5 : p1 = (5 : Int32)
  · have hw := hw.2.2.2.2.2.1 q5
    refine zr_tabIn 83 dX4_count_1 (by rw [q5]; decide) (by rw [q5]; decide) (off := 82) (by rw [q5]; decide) (by decide) ?_
    refine zr_aload_n dX4_count_83 rfl rfl ?_
    refine zr_getR zz_cX4 zz_C0 0 (by decide) rfl zf_X4_12 dX4_count_84 ?_
    refine zr_pVi zz_cX0 zz_C1 (ctX0_spotsInUse 1 (Or.inl rfl) h0 _ hw) zy_X0_spotsInUse zm_X4_280 (by decide) rfl rfl (Nat.le_of_ble_eq_true rfl) dX4_count_87 (fun r3 hw => ?_)
    exact zr_ret rfl rfl dX4_count_90 hw
  have hw := hw.2.2.2.2.2.2 q0 q1 q2 q3 q4 q5
  refine zr_tabOut 91 dX4_count_1 (zz_tout (fun j h1 h2 => by rcases (show j = 0 ∨ j = 1 ∨ j = 2 ∨ j = 3 ∨ j = 4 ∨ j = 5 by omega) with rfl | rfl | rfl | rfl | rfl | rfl <;> first | exact fun e => q0 (e.trans zqk_0) | exact fun e => q1 (e.trans zqk_1) | exact fun e => q2 (e.trans zqk_2) | exact fun e => q3 (e.trans zqk_3) | exact fun e => q4 (e.trans zqk_4) | exact fun e => q5 (e.trans zqk_5))) (by decide) ?_
  refine zr_aload_n dX4_count_91 rfl rfl ?_
  refine zr_ldc zk_X4_65 dX4_count_92 ?_
  refine zr_callVi zz_cX4 zz_C0 (ctX4_tell ((-1000001) : Int32) h0 _ hw) zy_X4_tell zm_X4_66 (by decide) rfl rfl (Nat.le_of_ble_eq_true rfl) dX4_count_94 (fun r5 h4 hw => ?_)
  exact zr_ret rfl rfl dX4_count_97 hw
def wX4_status_b32 (h0 : zz_H) (post : Int32 → zz_H → Prop) (K4 : Int32 × Int32 → Prop) (x2 : Int32) (x3 : Int32) : Prop :=
  (((7 : Int32) ≤ x3) → (post x2 h0)) ∧ ((¬ (7 : Int32) ≤ x3) → (vp_in x3 7 ∧ (K4 ((x2 + (h0 34 x3.toNatClampNeg)), (x3 + 1)))))
def wX4_status (p1 : Int32) (h0 : zz_H) (post : Int32 → zz_H → Prop) : Prop :=
  wX4_within p1 ((-1) : Int32) (6 : Int32) h0 (fun r1 => ((¬ r1 = 0) → (((p1 < 0) → (∃ t9, zz_lp (fun K (s : Int32 × Int32) => wX4_status_b32 h0 post K s.1 s.2) t9 ((0 : Int32), (0 : Int32)))) ∧ ((¬ p1 < 0) → (vp_in p1 7 ∧ (post (h0 34 p1.toNatClampNeg) h0))))) ∧ ((r1 = 0) → (wX4_tell ((-1000001) : Int32) h0 (fun r6 h5 => post r6 h5))))
set_option maxRecDepth 20000 in
set_option maxHeartbeats 4000000 in
theorem ctX4_status (p1 : Int32) (h0 : zz_H) (post : Int32 → zz_H → Prop) (hw : wX4_status p1 h0 post) : zz_Ct zz_C 2 yX4_status cX4_status 4 (some .int) [.ref 0, .int p1] h0 post := by
  refine zz_ct (L := [.ref 0, .int p1, .null, .null]) (by decide +kernel) (Nat.le_of_ble_eq_true rfl) (fun ad q hq => hq) ?_
  show zz_Go zz_C 2 cX4_status RX4 4 (some .int) post 0 [] [.ref 0, .int p1, .null, .null] h0
  unfold wX4_status at hw
  refine zr_iload_n dX4_status_0 rfl rfl ?_
  refine zr_iconst dX4_status_1 zqk_m1 ?_
  refine zr_bipush dX4_status_2 zbk_6 ?_
  refine zr_pSi (ctX4_within p1 ((-1) : Int32) (6 : Int32) h0 _ hw) zy_X4_within zm_X4_61 (by decide) rfl rfl (Nat.le_of_ble_eq_true rfl) dX4_status_4 (fun r1 hw => ?_)
  refine zr_if_ne 17 dX4_status_7 (by decide) (fun q => ?_) (fun q => ?_)
  · have hw := hw.1 q
    refine zr_iload_n dX4_status_17 rfl rfl ?_
    refine zr_if_lt 28 dX4_status_18 (by decide) (fun q => ?_) (fun q => ?_)
    · have hw := hw.1 q
      refine zr_iconst dX4_status_28 zqk_0 ?_
      refine zr_istore_n [.ref 0, .int p1, .int (0 : Int32), .null] dX4_status_29 rfl (by decide) rfl rfl ?_
      refine zr_iconst dX4_status_30 zqk_0 ?_
      refine zr_istore_n [.ref 0, .int p1, .int (0 : Int32), .int (0 : Int32)] dX4_status_31 rfl (by decide) rfl rfl ?_
      refine zr_sub [.ref 0, .null, .int (0 : Int32), .int (0 : Int32)] ⟨Or.inr rfl, ⟨Or.inl rfl, ⟨Or.inr rfl, ⟨Or.inr rfl, trivial⟩⟩⟩⟩ ?_
      obtain ⟨t9, hw⟩ := hw
      have step32 : ∀ (K4 : Int32 × Int32 → Prop), (∀ (x2 : Int32) (x3 : Int32), K4 (x2, x3) → zz_Go zz_C 2 cX4_status RX4 4 (some .int) post 32 [] [.ref 0, .null, .int x2, .int x3] h0) → ∀ (x2 : Int32) (x3 : Int32), wX4_status_b32 h0 post K4 x2 x3 → zz_Go zz_C 2 cX4_status RX4 4 (some .int) post 32 [] [.ref 0, .null, .int x2, .int x3] h0 := by
        intro K4 ih32 x2 x3 hw
        unfold wX4_status_b32 at hw
        refine zr_iload_n dX4_status_32 rfl rfl ?_
        refine zr_bipush dX4_status_33 zbk_7 ?_
        refine zr_icmp_ge 53 dX4_status_35 (by decide) (fun q => ?_) (fun q => ?_)
        · have hw := hw.1 q
          refine zr_iload_n dX4_status_53 rfl rfl ?_
          exact zr_ret rfl rfl dX4_status_54 hw
        · have hw := hw.2 q
          refine zr_iload_n dX4_status_38 rfl rfl ?_
          refine zr_aload_n dX4_status_39 rfl rfl ?_
          refine zr_getR zz_cX4 zz_C0 8 (by decide) rfl zf_X4_49 dX4_status_40 ?_
          refine zr_iload_n dX4_status_43 rfl rfl ?_
          obtain ⟨hi, hw⟩ := hw
          refine zr_iald zz_C34 hi rfl dX4_status_44 ?_
          refine zr_iadd dX4_status_45 ?_
          refine zr_istore_n [.ref 0, .null, .int (x2 + (h0 34 x3.toNatClampNeg)), .int x3] dX4_status_46 rfl (by decide) rfl rfl ?_
          refine zr_iinc (x3 + 1) [.ref 0, .null, .int (x2 + (h0 34 x3.toNatClampNeg)), .int (x3 + 1)] dX4_status_47 rfl (zok_1 _) (by decide) rfl rfl ?_
          refine zr_goto 32 dX4_status_50 (by decide) ?_
          exact ih32 _ _ hw
      have key32 : ∀ (t9 : Nat) (x2 : Int32) (x3 : Int32), zz_lp (fun K (s : Int32 × Int32) => wX4_status_b32 h0 post K s.1 s.2) t9 (x2, x3) → zz_Go zz_C 2 cX4_status RX4 4 (some .int) post 32 [] [.ref 0, .null, .int x2, .int x3] h0 := by
        intro t9
        induction t9 with
        | zero => intro x2 x3 hw; exact hw.elim
        | succ t9 ih => intro x2 x3 hw; exact step32 _ ih _ _ hw
      exact key32 t9 _ _ hw
    · have hw := hw.2 q
      refine zr_aload_n dX4_status_21 rfl rfl ?_
      refine zr_getR zz_cX4 zz_C0 8 (by decide) rfl zf_X4_49 dX4_status_22 ?_
      refine zr_iload_n dX4_status_25 rfl rfl ?_
      obtain ⟨hi, hw⟩ := hw
      refine zr_iald zz_C34 hi rfl dX4_status_26 ?_
      exact zr_ret rfl rfl dX4_status_27 hw
  · have hw := hw.2 q
    refine zr_aload_n dX4_status_10 rfl rfl ?_
    refine zr_ldc zk_X4_65 dX4_status_11 ?_
    refine zr_callVi zz_cX4 zz_C0 (ctX4_tell ((-1000001) : Int32) h0 _ hw) zy_X4_tell zm_X4_66 (by decide) rfl rfl (Nat.le_of_ble_eq_true rfl) dX4_status_13 (fun r6 h5 hw => ?_)
    exact zr_ret rfl rfl dX4_status_16 hw
def wX5_in (p1 : Int64) (p2 : Int64) (p3 : Int64) (h0 : zz_H) (post : Int32 → Prop) : Prop :=
  (((lg_cmp p1 p2) < 0) → (post (0 : Int32))) ∧ ((¬ (lg_cmp p1 p2) < 0) → (((0 < (lg_cmp p1 p3)) → (post (0 : Int32))) ∧ ((¬ 0 < (lg_cmp p1 p3)) → (post (1 : Int32)))))
set_option maxRecDepth 20000 in
set_option maxHeartbeats 4000000 in
theorem ctX5_in (p1 : Int64) (p2 : Int64) (p3 : Int64) (h0 : zz_H) (post : Int32 → Prop) (hw : wX5_in p1 p2 p3 h0 post) : zz_Ct zz_M 0 yX5_in cX5_in 6 (some .boolean) [.long p1, .long p2, .long p3] h0 (zz_pu h0 post) := by
  refine zz_ct (L := [.long p1, .null, .long p2, .null, .long p3, .null]) (by decide +kernel) (Nat.le_of_ble_eq_true rfl) (fun ad q hq => hq) ?_
  show zz_Go zz_M 0 cX5_in RX5 6 (some .boolean) (zz_pu h0 post) 0 [] [.long p1, .null, .long p2, .null, .long p3, .null] h0
  unfold wX5_in at hw
  refine zr_lload_n dX5_in_0 rfl rfl ?_
  refine zr_lload_n dX5_in_1 rfl rfl ?_
  refine zr_lcmp dX5_in_2 ?_
  refine zr_if_lt 17 dX5_in_3 (by decide) (fun q => ?_) (fun q => ?_)
  · have hw := hw.1 q
    refine zr_iconst dX5_in_17 zqk_0 ?_
    exact zr_ret rfl rfl dX5_in_18 ⟨rfl, hw⟩
  · have hw := hw.2 q
    refine zr_lload_n dX5_in_6 rfl rfl ?_
    refine zr_lload dX5_in_7 rfl ?_
    refine zr_lcmp dX5_in_9 ?_
    refine zr_if_gt 17 dX5_in_10 (by decide) (fun q => ?_) (fun q => ?_)
    · have hw := hw.1 q
      refine zr_iconst dX5_in_17 zqk_0 ?_
      exact zr_ret rfl rfl dX5_in_18 ⟨rfl, hw⟩
    · have hw := hw.2 q
      refine zr_iconst dX5_in_13 zqk_1 ?_
      refine zr_goto 18 dX5_in_14 (by decide) ?_
      exact zr_ret rfl rfl dX5_in_18 ⟨rfl, hw⟩
def wX5_finds (p1 : Int32) (h0 : zz_H) (post : Int32 → zz_H → Prop) : Prop :=
  vp_in (((-1000001) : Int32) - p1) 7 ∧ (vp_in (((-1000001) : Int32) - p1) 7 ∧ zz_sto h0 4 (upd (h0 4) (((-1000001) : Int32) - p1).toNatClampNeg ((h0 4 (((-1000001) : Int32) - p1).toNatClampNeg) + (1 : Int32))) (fun h1 => post p1 h1))
set_option maxRecDepth 20000 in
set_option maxHeartbeats 4000000 in
theorem ctX5_finds (p1 : Int32) (h0 : zz_H) (post : Int32 → zz_H → Prop) (hw : wX5_finds p1 h0 post) : zz_Ct zz_M 0 yX5_finds cX5_finds 2 (some .int) [.ref 0, .int p1] h0 post := by
  refine zz_ct (L := [.ref 0, .int p1]) (by decide +kernel) (Nat.le_of_ble_eq_true rfl) (fun ad q hq => hq) ?_
  show zz_Go zz_M 0 cX5_finds RX5 2 (some .int) post 0 [] [.ref 0, .int p1] h0
  unfold wX5_finds at hw
  refine zr_aload_n dX5_finds_0 rfl rfl ?_
  refine zr_getR zz_cX5 zz_M0 3 (by decide) rfl zf_X5_19 dX5_finds_1 ?_
  refine zr_ldc zk_X5_40 dX5_finds_4 ?_
  refine zr_iload_n dX5_finds_6 rfl rfl ?_
  refine zr_isub dX5_finds_7 ?_
  refine zr_dup2 dX5_finds_8 rfl rfl ?_
  obtain ⟨hi, hw⟩ := hw
  refine zr_iald zz_M4 hi rfl dX5_finds_9 ?_
  refine zr_iconst dX5_finds_10 zqk_1 ?_
  refine zr_iadd dX5_finds_11 ?_
  obtain ⟨hi, hw⟩ := hw
  refine zr_iast zz_M4 hi rfl dX5_finds_12 hw (fun h1 hw => ?_)
  refine zr_iload_n dX5_finds_13 rfl rfl ?_
  exact zr_ret rfl rfl dX5_finds_14 hw
def wX5_isQuestion (p1 : Int32) (h0 : zz_H) (post : Int32 → Prop) : Prop :=
  wX5_in (p1.toInt64) (0 : Int64) (7 : Int64) h0 (fun r1 => zz_z r1 ∧ post r1)
set_option maxRecDepth 20000 in
set_option maxHeartbeats 4000000 in
theorem ctX5_isQuestion (p1 : Int32) (h0 : zz_H) (post : Int32 → Prop) (hw : wX5_isQuestion p1 h0 post) : zz_Ct zz_M 1 yX5_isQuestion cX5_isQuestion 1 (some .boolean) [.int p1] h0 (zz_pu h0 post) := by
  refine zz_ct (L := [.int p1]) (by decide +kernel) (Nat.le_of_ble_eq_true rfl) (fun ad q hq => hq) ?_
  show zz_Go zz_M 1 cX5_isQuestion RX5 1 (some .boolean) (zz_pu h0 post) 0 [] [.int p1] h0
  unfold wX5_isQuestion at hw
  refine zr_iload_n dX5_isQuestion_0 rfl rfl ?_
  refine zr_i2l dX5_isQuestion_1 ?_
  refine zr_lconst (v := 0) dX5_isQuestion_2 (by decide) ?_
  refine zr_ldc2 zl_X5_41 dX5_isQuestion_3 ?_
  refine zr_pSi (ctX5_in (p1.toInt64) (0 : Int64) (7 : Int64) h0 _ hw) zy_X5_in zm_X5_43 (by decide) rfl rfl (Nat.le_of_ble_eq_true rfl) dX5_isQuestion_6 (fun r1 hw => ?_)
  exact zr_ret rfl hw.1 dX5_isQuestion_9 ⟨rfl, hw.2⟩
def wX5_isPupil (p1 : Int32) (h0 : zz_H) (post : Int32 → Prop) : Prop :=
  wX5_in (p1.toInt64) (0 : Int64) (((h0 1 17) - (1 : Int32)).toInt64) h0 (fun r1 => zz_z r1 ∧ post r1)
set_option maxRecDepth 20000 in
set_option maxHeartbeats 4000000 in
theorem ctX5_isPupil (p1 : Int32) (h0 : zz_H) (post : Int32 → Prop) (hw : wX5_isPupil p1 h0 post) : zz_Ct zz_M 1 yX5_isPupil cX5_isPupil 2 (some .boolean) [.ref 0, .int p1] h0 (zz_pu h0 post) := by
  refine zz_ct (L := [.ref 0, .int p1]) (by decide +kernel) (Nat.le_of_ble_eq_true rfl) (fun ad q hq => hq) ?_
  show zz_Go zz_M 1 cX5_isPupil RX5 2 (some .boolean) (zz_pu h0 post) 0 [] [.ref 0, .int p1] h0
  unfold wX5_isPupil at hw
  refine zr_iload_n dX5_isPupil_0 rfl rfl ?_
  refine zr_i2l dX5_isPupil_1 ?_
  refine zr_lconst (v := 0) dX5_isPupil_2 (by decide) ?_
  refine zr_aload_n dX5_isPupil_3 rfl rfl ?_
  refine zr_getR zz_cX5 zz_M0 0 (by decide) rfl zf_X5_7 dX5_isPupil_4 ?_
  refine zr_bipush dX5_isPupil_7 zbk_17 ?_
  refine zr_iald zz_M1 (zz_vin (by decide)) (j := 17) (by decide) dX5_isPupil_9 ?_
  refine zr_iconst dX5_isPupil_10 zqk_1 ?_
  refine zr_isub dX5_isPupil_11 ?_
  refine zr_i2l dX5_isPupil_12 ?_
  refine zr_pSi (ctX5_in (p1.toInt64) (0 : Int64) (((h0 1 17) - (1 : Int32)).toInt64) h0 _ hw) zy_X5_in zm_X5_43 (by decide) rfl rfl (Nat.le_of_ble_eq_true rfl) dX5_isPupil_13 (fun r1 hw => ?_)
  exact zr_ret rfl hw.1 dX5_isPupil_16 ⟨rfl, hw.2⟩
def wX5_isCurve (p1 : Int32) (h0 : zz_H) (post : Int32 → Prop) : Prop :=
  wX5_in (p1.toInt64) (0 : Int64) (((h0 1 18) - (1 : Int32)).toInt64) h0 (fun r1 => zz_z r1 ∧ post r1)
set_option maxRecDepth 20000 in
set_option maxHeartbeats 4000000 in
theorem ctX5_isCurve (p1 : Int32) (h0 : zz_H) (post : Int32 → Prop) (hw : wX5_isCurve p1 h0 post) : zz_Ct zz_M 1 yX5_isCurve cX5_isCurve 2 (some .boolean) [.ref 0, .int p1] h0 (zz_pu h0 post) := by
  refine zz_ct (L := [.ref 0, .int p1]) (by decide +kernel) (Nat.le_of_ble_eq_true rfl) (fun ad q hq => hq) ?_
  show zz_Go zz_M 1 cX5_isCurve RX5 2 (some .boolean) (zz_pu h0 post) 0 [] [.ref 0, .int p1] h0
  unfold wX5_isCurve at hw
  refine zr_iload_n dX5_isCurve_0 rfl rfl ?_
  refine zr_i2l dX5_isCurve_1 ?_
  refine zr_lconst (v := 0) dX5_isCurve_2 (by decide) ?_
  refine zr_aload_n dX5_isCurve_3 rfl rfl ?_
  refine zr_getR zz_cX5 zz_M0 0 (by decide) rfl zf_X5_7 dX5_isCurve_4 ?_
  refine zr_bipush dX5_isCurve_7 zbk_18 ?_
  refine zr_iald zz_M1 (zz_vin (by decide)) (j := 18) (by decide) dX5_isCurve_9 ?_
  refine zr_iconst dX5_isCurve_10 zqk_1 ?_
  refine zr_isub dX5_isCurve_11 ?_
  refine zr_i2l dX5_isCurve_12 ?_
  refine zr_pSi (ctX5_in (p1.toInt64) (0 : Int64) (((h0 1 18) - (1 : Int32)).toInt64) h0 _ hw) zy_X5_in zm_X5_43 (by decide) rfl rfl (Nat.le_of_ble_eq_true rfl) dX5_isCurve_13 (fun r1 hw => ?_)
  exact zr_ret rfl hw.1 dX5_isCurve_16 ⟨rfl, hw.2⟩
def wX5_isLine (p1 : Int32) (h0 : zz_H) (post : Int32 → Prop) : Prop :=
  wX5_in (p1.toInt64) (0 : Int64) (400 : Int64) h0 (fun r1 => zz_z r1 ∧ post r1)
set_option maxRecDepth 20000 in
set_option maxHeartbeats 4000000 in
theorem ctX5_isLine (p1 : Int32) (h0 : zz_H) (post : Int32 → Prop) (hw : wX5_isLine p1 h0 post) : zz_Ct zz_M 1 yX5_isLine cX5_isLine 1 (some .boolean) [.int p1] h0 (zz_pu h0 post) := by
  refine zz_ct (L := [.int p1]) (by decide +kernel) (Nat.le_of_ble_eq_true rfl) (fun ad q hq => hq) ?_
  show zz_Go zz_M 1 cX5_isLine RX5 1 (some .boolean) (zz_pu h0 post) 0 [] [.int p1] h0
  unfold wX5_isLine at hw
  refine zr_iload_n dX5_isLine_0 rfl rfl ?_
  refine zr_i2l dX5_isLine_1 ?_
  refine zr_lconst (v := 0) dX5_isLine_2 (by decide) ?_
  refine zr_ldc2 zl_X5_47 dX5_isLine_3 ?_
  refine zr_pSi (ctX5_in (p1.toInt64) (0 : Int64) (400 : Int64) h0 _ hw) zy_X5_in zm_X5_43 (by decide) rfl rfl (Nat.le_of_ble_eq_true rfl) dX5_isLine_6 (fun r1 hw => ?_)
  exact zr_ret rfl hw.1 dX5_isLine_9 ⟨rfl, hw.2⟩
def wX5_at (p1 : Int32) (p2 : Int32) (p3 : Int32) (h0 : zz_H) (post : Int32 → Prop) : Prop :=
  post (((((19 : Int32) + ((17 : Int32) * p1)) + (1 : Int32)) + ((8 : Int32) * p2)) + p3)
set_option maxRecDepth 20000 in
set_option maxHeartbeats 4000000 in
theorem ctX5_at (p1 : Int32) (p2 : Int32) (p3 : Int32) (h0 : zz_H) (post : Int32 → Prop) (hw : wX5_at p1 p2 p3 h0 post) : zz_Ct zz_M 0 yX5_at cX5_at 3 (some .int) [.int p1, .int p2, .int p3] h0 (zz_pu h0 post) := by
  refine zz_ct (L := [.int p1, .int p2, .int p3]) (by decide +kernel) (Nat.le_of_ble_eq_true rfl) (fun ad q hq => hq) ?_
  show zz_Go zz_M 0 cX5_at RX5 3 (some .int) (zz_pu h0 post) 0 [] [.int p1, .int p2, .int p3] h0
  unfold wX5_at at hw
  refine zr_bipush dX5_at_0 zbk_19 ?_
  refine zr_bipush dX5_at_2 zbk_17 ?_
  refine zr_iload_n dX5_at_4 rfl rfl ?_
  refine zr_imul dX5_at_5 ?_
  refine zr_iadd dX5_at_6 ?_
  refine zr_iconst dX5_at_7 zqk_1 ?_
  refine zr_iadd dX5_at_8 ?_
  refine zr_bipush dX5_at_9 zbk_8 ?_
  refine zr_iload_n dX5_at_11 rfl rfl ?_
  refine zr_imul dX5_at_12 ?_
  refine zr_iadd dX5_at_13 ?_
  refine zr_iload_n dX5_at_14 rfl rfl ?_
  refine zr_iadd dX5_at_15 ?_
  exact zr_ret rfl rfl dX5_at_16 ⟨rfl, hw⟩
def wX5_puts_b2 (post : Int32 → zz_H → Prop) (K3 : Int32 × zz_H → Prop) (x1 : Int32) (h2 : zz_H) : Prop :=
  (((245 : Int32) ≤ x1) → (post 0 h2)) ∧ ((¬ (245 : Int32) ≤ x1) → (vp_in x1 245 ∧ (vp_in x1 245 ∧ zz_sto h2 3 (upd (h2 3) x1.toNatClampNeg (h2 1 x1.toNatClampNeg)) (fun h4 => K3 ((x1 + 1), h4)))))
def wX5_puts (h0 : zz_H) (post : Int32 → zz_H → Prop) : Prop :=
  ∃ t9, zz_lp (fun K (s : Int32 × zz_H) => wX5_puts_b2 post K s.1 s.2) t9 ((0 : Int32), h0)
set_option maxRecDepth 20000 in
set_option maxHeartbeats 4000000 in
theorem ctX5_puts (h0 : zz_H) (post : Int32 → zz_H → Prop) (hw : wX5_puts h0 post) : zz_Ct zz_M 0 yX5_puts cX5_puts 2 none [.ref 0] h0 post := by
  refine zz_ct (L := [.ref 0, .null]) (by decide +kernel) (Nat.le_of_ble_eq_true rfl) (fun ad q hq => hq) ?_
  show zz_Go zz_M 0 cX5_puts RX5 2 none post 0 [] [.ref 0, .null] h0
  unfold wX5_puts at hw
  refine zr_iconst dX5_puts_0 zqk_0 ?_
  refine zr_istore_n [.ref 0, .int (0 : Int32)] dX5_puts_1 rfl (by decide) rfl rfl ?_
  obtain ⟨t9, hw⟩ := hw
  have step2 : ∀ (K3 : Int32 × zz_H → Prop), (∀ (x1 : Int32) (h2 : zz_H), K3 (x1, h2) → zz_Go zz_M 0 cX5_puts RX5 2 none post 2 [] [.ref 0, .int x1] h2) → ∀ (x1 : Int32) (h2 : zz_H), wX5_puts_b2 post K3 x1 h2 → zz_Go zz_M 0 cX5_puts RX5 2 none post 2 [] [.ref 0, .int x1] h2 := by
    intro K3 ih2 x1 h2 hw
    unfold wX5_puts_b2 at hw
    refine zr_iload_n dX5_puts_2 rfl rfl ?_
    refine zr_sipush dX5_puts_3 zhk_245 ?_
    refine zr_icmp_ge 27 dX5_puts_6 (by decide) (fun q => ?_) (fun q => ?_)
    · have hw := hw.1 q
      exact zr_vret rfl dX5_puts_27 hw
    · have hw := hw.2 q
      refine zr_aload_n dX5_puts_9 rfl rfl ?_
      refine zr_getR zz_cX5 zz_M0 2 (by decide) rfl zf_X5_16 dX5_puts_10 ?_
      refine zr_iload_n dX5_puts_13 rfl rfl ?_
      refine zr_aload_n dX5_puts_14 rfl rfl ?_
      refine zr_getR zz_cX5 zz_M0 0 (by decide) rfl zf_X5_7 dX5_puts_15 ?_
      refine zr_iload_n dX5_puts_18 rfl rfl ?_
      obtain ⟨hi, hw⟩ := hw
      refine zr_iald zz_M1 hi rfl dX5_puts_19 ?_
      obtain ⟨hi, hw⟩ := hw
      refine zr_iast zz_M3 hi rfl dX5_puts_20 hw (fun h4 hw => ?_)
      refine zr_iinc (x1 + 1) [.ref 0, .int (x1 + 1)] dX5_puts_21 rfl (zok_1 _) (by decide) rfl rfl ?_
      refine zr_goto 2 dX5_puts_24 (by decide) ?_
      exact ih2 _ _ hw
  have key2 : ∀ (t9 : Nat) (x1 : Int32) (h2 : zz_H), zz_lp (fun K (s : Int32 × zz_H) => wX5_puts_b2 post K s.1 s.2) t9 (x1, h2) → zz_Go zz_M 0 cX5_puts RX5 2 none post 2 [] [.ref 0, .int x1] h2 := by
    intro t9
    induction t9 with
    | zero => intro x1 h2 hw; exact hw.elim
    | succ t9 ih => intro x1 h2 hw; exact step2 _ ih _ _ hw
  exact key2 t9 _ _ hw
def wX5_putsBack_b2 (post : Int32 → zz_H → Prop) (K3 : Int32 × zz_H → Prop) (x1 : Int32) (h2 : zz_H) : Prop :=
  (((245 : Int32) ≤ x1) → (post 0 h2)) ∧ ((¬ (245 : Int32) ≤ x1) → (vp_in x1 245 ∧ (vp_in x1 245 ∧ zz_sto h2 1 (upd (h2 1) x1.toNatClampNeg (h2 3 x1.toNatClampNeg)) (fun h4 => K3 ((x1 + 1), h4)))))
def wX5_putsBack (h0 : zz_H) (post : Int32 → zz_H → Prop) : Prop :=
  ∃ t9, zz_lp (fun K (s : Int32 × zz_H) => wX5_putsBack_b2 post K s.1 s.2) t9 ((0 : Int32), h0)
set_option maxRecDepth 20000 in
set_option maxHeartbeats 4000000 in
theorem ctX5_putsBack (h0 : zz_H) (post : Int32 → zz_H → Prop) (hw : wX5_putsBack h0 post) : zz_Ct zz_M 0 yX5_putsBack cX5_putsBack 2 none [.ref 0] h0 post := by
  refine zz_ct (L := [.ref 0, .null]) (by decide +kernel) (Nat.le_of_ble_eq_true rfl) (fun ad q hq => hq) ?_
  show zz_Go zz_M 0 cX5_putsBack RX5 2 none post 0 [] [.ref 0, .null] h0
  unfold wX5_putsBack at hw
  refine zr_iconst dX5_putsBack_0 zqk_0 ?_
  refine zr_istore_n [.ref 0, .int (0 : Int32)] dX5_putsBack_1 rfl (by decide) rfl rfl ?_
  obtain ⟨t9, hw⟩ := hw
  have step2 : ∀ (K3 : Int32 × zz_H → Prop), (∀ (x1 : Int32) (h2 : zz_H), K3 (x1, h2) → zz_Go zz_M 0 cX5_putsBack RX5 2 none post 2 [] [.ref 0, .int x1] h2) → ∀ (x1 : Int32) (h2 : zz_H), wX5_putsBack_b2 post K3 x1 h2 → zz_Go zz_M 0 cX5_putsBack RX5 2 none post 2 [] [.ref 0, .int x1] h2 := by
    intro K3 ih2 x1 h2 hw
    unfold wX5_putsBack_b2 at hw
    refine zr_iload_n dX5_putsBack_2 rfl rfl ?_
    refine zr_sipush dX5_putsBack_3 zhk_245 ?_
    refine zr_icmp_ge 27 dX5_putsBack_6 (by decide) (fun q => ?_) (fun q => ?_)
    · have hw := hw.1 q
      exact zr_vret rfl dX5_putsBack_27 hw
    · have hw := hw.2 q
      refine zr_aload_n dX5_putsBack_9 rfl rfl ?_
      refine zr_getR zz_cX5 zz_M0 0 (by decide) rfl zf_X5_7 dX5_putsBack_10 ?_
      refine zr_iload_n dX5_putsBack_13 rfl rfl ?_
      refine zr_aload_n dX5_putsBack_14 rfl rfl ?_
      refine zr_getR zz_cX5 zz_M0 2 (by decide) rfl zf_X5_16 dX5_putsBack_15 ?_
      refine zr_iload_n dX5_putsBack_18 rfl rfl ?_
      obtain ⟨hi, hw⟩ := hw
      refine zr_iald zz_M3 hi rfl dX5_putsBack_19 ?_
      obtain ⟨hi, hw⟩ := hw
      refine zr_iast zz_M1 hi rfl dX5_putsBack_20 hw (fun h4 hw => ?_)
      refine zr_iinc (x1 + 1) [.ref 0, .int (x1 + 1)] dX5_putsBack_21 rfl (zok_1 _) (by decide) rfl rfl ?_
      refine zr_goto 2 dX5_putsBack_24 (by decide) ?_
      exact ih2 _ _ hw
  have key2 : ∀ (t9 : Nat) (x1 : Int32) (h2 : zz_H), zz_lp (fun K (s : Int32 × zz_H) => wX5_putsBack_b2 post K s.1 s.2) t9 (x1, h2) → zz_Go zz_M 0 cX5_putsBack RX5 2 none post 2 [] [.ref 0, .int x1] h2 := by
    intro t9
    induction t9 with
    | zero => intro x1 h2 hw; exact hw.elim
    | succ t9 ih => intro x1 h2 hw; exact step2 _ ih _ _ hw
  exact key2 t9 _ _ hw
def wX5_worths_b25 (p1 : Int32) (p2 : Int32) (x2 : Int32) (K4 : Int32 × zz_H → Prop) (K7 : Int32 × zz_H → Prop) (x5 : Int32) (h6 : zz_H) : Prop :=
  (((2 : Int32) ≤ x5) → (K4 ((x2 + 1), h6))) ∧ ((¬ (2 : Int32) ≤ x5) → (wX5_at x2 x5 p1 h6 (fun r8 => wX5_at x2 x5 p1 h6 (fun r9 => vp_in r9 245 ∧ ((((h6 1 r9.toNatClampNeg) ≤ p2) → (wX5_at x2 x5 p1 h6 (fun r10 => vp_in r10 245 ∧ (vp_in r8 245 ∧ zz_sto h6 1 (upd (h6 1) r8.toNatClampNeg (h6 1 r10.toNatClampNeg)) (fun h11 => K7 ((x5 + 1), h11)))))) ∧ ((¬ (h6 1 r9.toNatClampNeg) ≤ p2) → (vp_in r8 245 ∧ zz_sto h6 1 (upd (h6 1) r8.toNatClampNeg p2) (fun h12 => K7 ((x5 + 1), h12)))))))))
def wX5_worths_b11 (p1 : Int32) (p2 : Int32) (post : Int32 → zz_H → Prop) (K4 : Int32 × zz_H → Prop) (x2 : Int32) (h3 : zz_H) : Prop :=
  (((h3 1 17) ≤ x2) → (post 0 h3)) ∧ ((¬ (h3 1 17) ≤ x2) → (∃ t9, zz_lp (fun K (s : Int32 × zz_H) => wX5_worths_b25 p1 p2 x2 K4 K s.1 s.2) t9 ((0 : Int32), h3)))
def wX5_worths (p1 : Int32) (p2 : Int32) (h0 : zz_H) (post : Int32 → zz_H → Prop) : Prop :=
  vp_in ((0 : Int32) + p1) 245 ∧ zz_sto h0 1 (upd (h0 1) ((0 : Int32) + p1).toNatClampNeg p2) (fun h1 => ∃ t9, zz_lp (fun K (s : Int32 × zz_H) => wX5_worths_b11 p1 p2 post K s.1 s.2) t9 ((0 : Int32), h1))
set_option maxRecDepth 20000 in
set_option maxHeartbeats 4000000 in
theorem ctX5_worths (p1 : Int32) (p2 : Int32) (h0 : zz_H) (post : Int32 → zz_H → Prop) (hw : wX5_worths p1 p2 h0 post) : zz_Ct zz_M 1 yX5_worths cX5_worths 5 none [.ref 0, .int p1, .int p2] h0 post := by
  refine zz_ct (L := [.ref 0, .int p1, .int p2, .null, .null]) (by decide +kernel) (Nat.le_of_ble_eq_true rfl) (fun ad q hq => hq) ?_
  show zz_Go zz_M 1 cX5_worths RX5 5 none post 0 [] [.ref 0, .int p1, .int p2, .null, .null] h0
  unfold wX5_worths at hw
  refine zr_aload_n dX5_worths_0 rfl rfl ?_
  refine zr_getR zz_cX5 zz_M0 0 (by decide) rfl zf_X5_7 dX5_worths_1 ?_
  refine zr_iconst dX5_worths_4 zqk_0 ?_
  refine zr_iload_n dX5_worths_5 rfl rfl ?_
  refine zr_iadd dX5_worths_6 ?_
  refine zr_iload_n dX5_worths_7 rfl rfl ?_
  obtain ⟨hi, hw⟩ := hw
  refine zr_iast zz_M1 hi rfl dX5_worths_8 hw (fun h1 hw => ?_)
  refine zr_iconst dX5_worths_9 zqk_0 ?_
  refine zr_istore_n [.ref 0, .int p1, .int p2, .int (0 : Int32), .null] dX5_worths_10 rfl (by decide) rfl rfl ?_
  obtain ⟨t9, hw⟩ := hw
  have step11 : ∀ (K4 : Int32 × zz_H → Prop), (∀ (x2 : Int32) (h3 : zz_H), K4 (x2, h3) → zz_Go zz_M 1 cX5_worths RX5 5 none post 11 [] [.ref 0, .int p1, .int p2, .int x2, .null] h3) → ∀ (x2 : Int32) (h3 : zz_H), wX5_worths_b11 p1 p2 post K4 x2 h3 → zz_Go zz_M 1 cX5_worths RX5 5 none post 11 [] [.ref 0, .int p1, .int p2, .int x2, .null] h3 := by
    intro K4 ih11 x2 h3 hw
    unfold wX5_worths_b11 at hw
    refine zr_iload_n dX5_worths_11 rfl rfl ?_
    refine zr_aload_n dX5_worths_12 rfl rfl ?_
    refine zr_getR zz_cX5 zz_M0 0 (by decide) rfl zf_X5_7 dX5_worths_13 ?_
    refine zr_bipush dX5_worths_16 zbk_17 ?_
    refine zr_iald zz_M1 (zz_vin (by decide)) (j := 17) (by decide) dX5_worths_18 ?_
    refine zr_icmp_ge 87 dX5_worths_19 (by decide) (fun q => ?_) (fun q => ?_)
    · have hw := hw.1 q
      exact zr_vret rfl dX5_worths_87 hw
    · have hw := hw.2 q
      refine zr_iconst dX5_worths_22 zqk_0 ?_
      refine zr_istore [.ref 0, .int p1, .int p2, .int x2, .int (0 : Int32)] dX5_worths_23 (by decide) rfl rfl ?_
      obtain ⟨t9, hw⟩ := hw
      have step25 : ∀ (K7 : Int32 × zz_H → Prop), (∀ (x5 : Int32) (h6 : zz_H), K7 (x5, h6) → zz_Go zz_M 1 cX5_worths RX5 5 none post 25 [] [.ref 0, .int p1, .int p2, .int x2, .int x5] h6) → ∀ (x5 : Int32) (h6 : zz_H), wX5_worths_b25 p1 p2 x2 K4 K7 x5 h6 → zz_Go zz_M 1 cX5_worths RX5 5 none post 25 [] [.ref 0, .int p1, .int p2, .int x2, .int x5] h6 := by
        intro K7 ih25 x5 h6 hw
        unfold wX5_worths_b25 at hw
        refine zr_iload dX5_worths_25 rfl ?_
        refine zr_iconst dX5_worths_27 zqk_2 ?_
        refine zr_icmp_ge 81 dX5_worths_28 (by decide) (fun q => ?_) (fun q => ?_)
        · have hw := hw.1 q
          refine zr_iinc (x2 + 1) [.ref 0, .int p1, .int p2, .int (x2 + 1), .int x5] dX5_worths_81 rfl (zok_1 _) (by decide) rfl rfl ?_
          refine zr_goto 11 dX5_worths_84 (by decide) ?_
          refine zr_sub [.ref 0, .int p1, .int p2, .int (x2 + 1), .null] ⟨Or.inr rfl, ⟨Or.inr rfl, ⟨Or.inr rfl, ⟨Or.inr rfl, ⟨Or.inl rfl, trivial⟩⟩⟩⟩⟩ ?_
          exact ih11 _ _ hw
        · have hw := hw.2 q
          refine zr_aload_n dX5_worths_31 rfl rfl ?_
          refine zr_getR zz_cX5 zz_M0 0 (by decide) rfl zf_X5_7 dX5_worths_32 ?_
          refine zr_iload_n dX5_worths_35 rfl rfl ?_
          refine zr_iload dX5_worths_36 rfl ?_
          refine zr_iload_n dX5_worths_38 rfl rfl ?_
          refine zr_pSi (ctX5_at x2 x5 p1 h6 _ hw) zy_X5_at zm_X5_49 (by decide) rfl rfl (Nat.le_of_ble_eq_true rfl) dX5_worths_39 (fun r8 hw => ?_)
          refine zr_aload_n dX5_worths_42 rfl rfl ?_
          refine zr_getR zz_cX5 zz_M0 0 (by decide) rfl zf_X5_7 dX5_worths_43 ?_
          refine zr_iload_n dX5_worths_46 rfl rfl ?_
          refine zr_iload dX5_worths_47 rfl ?_
          refine zr_iload_n dX5_worths_49 rfl rfl ?_
          refine zr_pSi (ctX5_at x2 x5 p1 h6 _ hw) zy_X5_at zm_X5_49 (by decide) rfl rfl (Nat.le_of_ble_eq_true rfl) dX5_worths_50 (fun r9 hw => ?_)
          obtain ⟨hi, hw⟩ := hw
          refine zr_iald zz_M1 hi rfl dX5_worths_53 ?_
          refine zr_iload_n dX5_worths_54 rfl rfl ?_
          refine zr_icmp_le 62 dX5_worths_55 (by decide) (fun q => ?_) (fun q => ?_)
          · have hw := hw.1 q
            refine zr_aload_n dX5_worths_62 rfl rfl ?_
            refine zr_getR zz_cX5 zz_M0 0 (by decide) rfl zf_X5_7 dX5_worths_63 ?_
            refine zr_iload_n dX5_worths_66 rfl rfl ?_
            refine zr_iload dX5_worths_67 rfl ?_
            refine zr_iload_n dX5_worths_69 rfl rfl ?_
            refine zr_pSi (ctX5_at x2 x5 p1 h6 _ hw) zy_X5_at zm_X5_49 (by decide) rfl rfl (Nat.le_of_ble_eq_true rfl) dX5_worths_70 (fun r10 hw => ?_)
            obtain ⟨hi, hw⟩ := hw
            refine zr_iald zz_M1 hi rfl dX5_worths_73 ?_
            obtain ⟨hi, hw⟩ := hw
            refine zr_iast zz_M1 hi rfl dX5_worths_74 hw (fun h11 hw => ?_)
            refine zr_iinc (x5 + 1) [.ref 0, .int p1, .int p2, .int x2, .int (x5 + 1)] dX5_worths_75 rfl (zok_1 _) (by decide) rfl rfl ?_
            refine zr_goto 25 dX5_worths_78 (by decide) ?_
            exact ih25 _ _ hw
          · have hw := hw.2 q
            refine zr_iload_n dX5_worths_58 rfl rfl ?_
            refine zr_goto 74 dX5_worths_59 (by decide) ?_
            obtain ⟨hi, hw⟩ := hw
            refine zr_iast zz_M1 hi rfl dX5_worths_74 hw (fun h12 hw => ?_)
            refine zr_iinc (x5 + 1) [.ref 0, .int p1, .int p2, .int x2, .int (x5 + 1)] dX5_worths_75 rfl (zok_1 _) (by decide) rfl rfl ?_
            refine zr_goto 25 dX5_worths_78 (by decide) ?_
            exact ih25 _ _ hw
      have key25 : ∀ (t9 : Nat) (x5 : Int32) (h6 : zz_H), zz_lp (fun K (s : Int32 × zz_H) => wX5_worths_b25 p1 p2 x2 K4 K s.1 s.2) t9 (x5, h6) → zz_Go zz_M 1 cX5_worths RX5 5 none post 25 [] [.ref 0, .int p1, .int p2, .int x2, .int x5] h6 := by
        intro t9
        induction t9 with
        | zero => intro x5 h6 hw; exact hw.elim
        | succ t9 ih => intro x5 h6 hw; exact step25 _ ih _ _ hw
      exact key25 t9 _ _ hw
  have key11 : ∀ (t9 : Nat) (x2 : Int32) (h3 : zz_H), zz_lp (fun K (s : Int32 × zz_H) => wX5_worths_b11 p1 p2 post K s.1 s.2) t9 (x2, h3) → zz_Go zz_M 1 cX5_worths RX5 5 none post 11 [] [.ref 0, .int p1, .int p2, .int x2, .null] h3 := by
    intro t9
    induction t9 with
    | zero => intro x2 h3 hw; exact hw.elim
    | succ t9 ih => intro x2 h3 hw; exact step11 _ ih _ _ hw
  exact key11 t9 _ _ hw
def wX5_worth (p1 : Int32) (p2 : Int32) (h0 : zz_H) (post : Int32 → zz_H → Prop) : Prop :=
  wX5_isQuestion p1 h0 (fun r1 => ((r1 = 0) → (wX5_finds ((-1000001) : Int32) h0 (fun r3 h2 => post r3 h2))) ∧ ((¬ r1 = 0) → (wX5_in (p2.toInt64) (0 : Int64) (40 : Int64) h0 (fun r4 => ((¬ r4 = 0) → (vp_in ((0 : Int32) + p1) 245 ∧ (wX5_worths p1 p2 h0 (fun _ h5 => post (h0 1 ((0 : Int32) + p1).toNatClampNeg) h5)))) ∧ ((r4 = 0) → (wX5_finds ((-1000001) : Int32) h0 (fun r7 h6 => post r7 h6)))))))
set_option maxRecDepth 20000 in
set_option maxHeartbeats 4000000 in
theorem ctX5_worth (p1 : Int32) (p2 : Int32) (h0 : zz_H) (post : Int32 → zz_H → Prop) (hw : wX5_worth p1 p2 h0 post) : zz_Ct zz_M 2 yX5_worth cX5_worth 4 (some .int) [.ref 0, .int p1, .int p2] h0 post := by
  refine zz_ct (L := [.ref 0, .int p1, .int p2, .null]) (by decide +kernel) (Nat.le_of_ble_eq_true rfl) (fun ad q hq => hq) ?_
  show zz_Go zz_M 2 cX5_worth RX5 4 (some .int) post 0 [] [.ref 0, .int p1, .int p2, .null] h0
  unfold wX5_worth at hw
  refine zr_iload_n dX5_worth_0 rfl rfl ?_
  refine zr_pSi (ctX5_isQuestion p1 h0 _ hw) zy_X5_isQuestion zm_X5_53 (by decide) rfl rfl (Nat.le_of_ble_eq_true rfl) dX5_worth_1 (fun r1 hw => ?_)
  refine zr_if_eq 19 dX5_worth_4 (by decide) (fun q => ?_) (fun q => ?_)
  · have hw := hw.1 q
    refine zr_aload_n dX5_worth_19 rfl rfl ?_
    refine zr_ldc zk_X5_40 dX5_worth_20 ?_
    refine zr_callVi zz_cX5 zz_M0 (ctX5_finds ((-1000001) : Int32) h0 _ hw) zy_X5_finds zm_X5_59 (by decide) rfl rfl (Nat.le_of_ble_eq_true rfl) dX5_worth_22 (fun r3 h2 hw => ?_)
    exact zr_ret rfl rfl dX5_worth_25 hw
  · have hw := hw.2 q
    refine zr_iload_n dX5_worth_7 rfl rfl ?_
    refine zr_i2l dX5_worth_8 ?_
    refine zr_lconst (v := 0) dX5_worth_9 (by decide) ?_
    refine zr_ldc2 zl_X5_57 dX5_worth_10 ?_
    refine zr_pSi (ctX5_in (p2.toInt64) (0 : Int64) (40 : Int64) h0 _ hw) zy_X5_in zm_X5_43 (by decide) rfl rfl (Nat.le_of_ble_eq_true rfl) dX5_worth_13 (fun r4 hw => ?_)
    refine zr_if_ne 26 dX5_worth_16 (by decide) (fun q => ?_) (fun q => ?_)
    · have hw := hw.1 q
      refine zr_aload_n dX5_worth_26 rfl rfl ?_
      refine zr_getR zz_cX5 zz_M0 0 (by decide) rfl zf_X5_7 dX5_worth_27 ?_
      refine zr_iconst dX5_worth_30 zqk_0 ?_
      refine zr_iload_n dX5_worth_31 rfl rfl ?_
      refine zr_iadd dX5_worth_32 ?_
      obtain ⟨hi, hw⟩ := hw
      refine zr_iald zz_M1 hi rfl dX5_worth_33 ?_
      refine zr_istore_n [.ref 0, .int p1, .int p2, .int (h0 1 ((0 : Int32) + p1).toNatClampNeg)] dX5_worth_34 rfl (by decide) rfl rfl ?_
      refine zr_aload_n dX5_worth_35 rfl rfl ?_
      refine zr_iload_n dX5_worth_36 rfl rfl ?_
      refine zr_iload_n dX5_worth_37 rfl rfl ?_
      refine zr_callVv zz_cX5 zz_M0 (ctX5_worths p1 p2 h0 _ hw) zy_X5_worths zm_X5_63 (by decide) rfl rfl (Nat.le_of_ble_eq_true rfl) dX5_worth_38 (fun h5 hw => ?_)
      refine zr_iload_n dX5_worth_41 rfl rfl ?_
      exact zr_ret rfl rfl dX5_worth_42 hw
    · have hw := hw.2 q
      refine zr_aload_n dX5_worth_19 rfl rfl ?_
      refine zr_ldc zk_X5_40 dX5_worth_20 ?_
      refine zr_callVi zz_cX5 zz_M0 (ctX5_finds ((-1000001) : Int32) h0 _ hw) zy_X5_finds zm_X5_59 (by decide) rfl rfl (Nat.le_of_ble_eq_true rfl) dX5_worth_22 (fun r7 h6 hw => ?_)
      exact zr_ret rfl rfl dX5_worth_25 hw
def wX5_common (p1 : Int32) (p2 : Int32) (h0 : zz_H) (post : Int32 → zz_H → Prop) : Prop :=
  wX5_isQuestion p1 h0 (fun r1 => ((r1 = 0) → (wX5_finds ((-1000001) : Int32) h0 (fun r3 h2 => post r3 h2))) ∧ ((¬ r1 = 0) → (wX5_in (p2.toInt64) ((-1) : Int64) (400 : Int64) h0 (fun r4 => ((¬ r4 = 0) → (vp_in ((8 : Int32) + p1) 245 ∧ (vp_in ((8 : Int32) + p1) 245 ∧ zz_sto h0 1 (upd (h0 1) ((8 : Int32) + p1).toNatClampNeg p2) (fun h5 => post (h0 1 ((8 : Int32) + p1).toNatClampNeg) h5)))) ∧ ((r4 = 0) → (wX5_finds ((-1000001) : Int32) h0 (fun r7 h6 => post r7 h6)))))))
set_option maxRecDepth 20000 in
set_option maxHeartbeats 4000000 in
theorem ctX5_common (p1 : Int32) (p2 : Int32) (h0 : zz_H) (post : Int32 → zz_H → Prop) (hw : wX5_common p1 p2 h0 post) : zz_Ct zz_M 2 yX5_common cX5_common 4 (some .int) [.ref 0, .int p1, .int p2] h0 post := by
  refine zz_ct (L := [.ref 0, .int p1, .int p2, .null]) (by decide +kernel) (Nat.le_of_ble_eq_true rfl) (fun ad q hq => hq) ?_
  show zz_Go zz_M 2 cX5_common RX5 4 (some .int) post 0 [] [.ref 0, .int p1, .int p2, .null] h0
  unfold wX5_common at hw
  refine zr_iload_n dX5_common_0 rfl rfl ?_
  refine zr_pSi (ctX5_isQuestion p1 h0 _ hw) zy_X5_isQuestion zm_X5_53 (by decide) rfl rfl (Nat.le_of_ble_eq_true rfl) dX5_common_1 (fun r1 hw => ?_)
  refine zr_if_eq 21 dX5_common_4 (by decide) (fun q => ?_) (fun q => ?_)
  · have hw := hw.1 q
    refine zr_aload_n dX5_common_21 rfl rfl ?_
    refine zr_ldc zk_X5_40 dX5_common_22 ?_
    refine zr_callVi zz_cX5 zz_M0 (ctX5_finds ((-1000001) : Int32) h0 _ hw) zy_X5_finds zm_X5_59 (by decide) rfl rfl (Nat.le_of_ble_eq_true rfl) dX5_common_24 (fun r3 h2 hw => ?_)
    exact zr_ret rfl rfl dX5_common_27 hw
  · have hw := hw.2 q
    refine zr_iload_n dX5_common_7 rfl rfl ?_
    refine zr_i2l dX5_common_8 ?_
    refine zr_ldc2 zl_X5_67 dX5_common_9 ?_
    refine zr_ldc2 zl_X5_47 dX5_common_12 ?_
    refine zr_pSi (ctX5_in (p2.toInt64) ((-1) : Int64) (400 : Int64) h0 _ hw) zy_X5_in zm_X5_43 (by decide) rfl rfl (Nat.le_of_ble_eq_true rfl) dX5_common_15 (fun r4 hw => ?_)
    refine zr_if_ne 28 dX5_common_18 (by decide) (fun q => ?_) (fun q => ?_)
    · have hw := hw.1 q
      refine zr_aload_n dX5_common_28 rfl rfl ?_
      refine zr_getR zz_cX5 zz_M0 0 (by decide) rfl zf_X5_7 dX5_common_29 ?_
      refine zr_bipush dX5_common_32 zbk_8 ?_
      refine zr_iload_n dX5_common_34 rfl rfl ?_
      refine zr_iadd dX5_common_35 ?_
      obtain ⟨hi, hw⟩ := hw
      refine zr_iald zz_M1 hi rfl dX5_common_36 ?_
      refine zr_istore_n [.ref 0, .int p1, .int p2, .int (h0 1 ((8 : Int32) + p1).toNatClampNeg)] dX5_common_37 rfl (by decide) rfl rfl ?_
      refine zr_aload_n dX5_common_38 rfl rfl ?_
      refine zr_getR zz_cX5 zz_M0 0 (by decide) rfl zf_X5_7 dX5_common_39 ?_
      refine zr_bipush dX5_common_42 zbk_8 ?_
      refine zr_iload_n dX5_common_44 rfl rfl ?_
      refine zr_iadd dX5_common_45 ?_
      refine zr_iload_n dX5_common_46 rfl rfl ?_
      obtain ⟨hi, hw⟩ := hw
      refine zr_iast zz_M1 hi rfl dX5_common_47 hw (fun h5 hw => ?_)
      refine zr_iload_n dX5_common_48 rfl rfl ?_
      exact zr_ret rfl rfl dX5_common_49 hw
    · have hw := hw.2 q
      refine zr_aload_n dX5_common_21 rfl rfl ?_
      refine zr_ldc zk_X5_40 dX5_common_22 ?_
      refine zr_callVi zz_cX5 zz_M0 (ctX5_finds ((-1000001) : Int32) h0 _ hw) zy_X5_finds zm_X5_59 (by decide) rfl rfl (Nat.le_of_ble_eq_true rfl) dX5_common_24 (fun r7 h6 hw => ?_)
      exact zr_ret rfl rfl dX5_common_27 hw
def wX5_newPupil_j44 (post : Int32 → zz_H → Prop) (h3 : zz_H) : Prop :=
  zz_sto h3 1 (upd (h3 1) 17 ((h3 1 17) + (1 : Int32))) (fun h5 => post ((h5 1 17) - (1 : Int32)) h5)
def wX5_newPupil_b23 (h0 : zz_H) (post : Int32 → zz_H → Prop) (K4 : Int32 × zz_H → Prop) (x2 : Int32) (h3 : zz_H) : Prop :=
  (((17 : Int32) ≤ x2) → (wX5_newPupil_j44 post h3)) ∧ ((¬ (17 : Int32) ≤ x2) → (vp_in (((19 : Int32) + ((17 : Int32) * (h0 1 17))) + x2) 245 ∧ zz_sto h3 1 (upd (h3 1) (((19 : Int32) + ((17 : Int32) * (h0 1 17))) + x2).toNatClampNeg (0 : Int32)) (fun h6 => K4 ((x2 + 1), h6))))
def wX5_newPupil (p1 : Int32) (h0 : zz_H) (post : Int32 → zz_H → Prop) : Prop :=
  vp_in ((19 : Int32) + ((17 : Int32) * (h0 1 17))) 245 ∧ zz_sto h0 1 (upd (h0 1) ((19 : Int32) + ((17 : Int32) * (h0 1 17))).toNatClampNeg p1) (fun h1 => ∃ t9, zz_lp (fun K (s : Int32 × zz_H) => wX5_newPupil_b23 h0 post K s.1 s.2) t9 ((1 : Int32), h1))
set_option maxRecDepth 20000 in
set_option maxHeartbeats 4000000 in
theorem ctX5_newPupil (p1 : Int32) (h0 : zz_H) (post : Int32 → zz_H → Prop) (hw : wX5_newPupil p1 h0 post) : zz_Ct zz_M 0 yX5_newPupil cX5_newPupil 4 (some .int) [.ref 0, .int p1] h0 post := by
  refine zz_ct (L := [.ref 0, .int p1, .null, .null]) (by decide +kernel) (Nat.le_of_ble_eq_true rfl) (fun ad q hq => hq) ?_
  show zz_Go zz_M 0 cX5_newPupil RX5 4 (some .int) post 0 [] [.ref 0, .int p1, .null, .null] h0
  unfold wX5_newPupil at hw
  refine zr_bipush dX5_newPupil_0 zbk_19 ?_
  refine zr_bipush dX5_newPupil_2 zbk_17 ?_
  refine zr_aload_n dX5_newPupil_4 rfl rfl ?_
  refine zr_getR zz_cX5 zz_M0 0 (by decide) rfl zf_X5_7 dX5_newPupil_5 ?_
  refine zr_bipush dX5_newPupil_8 zbk_17 ?_
  refine zr_iald zz_M1 (zz_vin (by decide)) (j := 17) (by decide) dX5_newPupil_10 ?_
  refine zr_imul dX5_newPupil_11 ?_
  refine zr_iadd dX5_newPupil_12 ?_
  refine zr_istore_n [.ref 0, .int p1, .int ((19 : Int32) + ((17 : Int32) * (h0 1 17))), .null] dX5_newPupil_13 rfl (by decide) rfl rfl ?_
  refine zr_aload_n dX5_newPupil_14 rfl rfl ?_
  refine zr_getR zz_cX5 zz_M0 0 (by decide) rfl zf_X5_7 dX5_newPupil_15 ?_
  refine zr_iload_n dX5_newPupil_18 rfl rfl ?_
  refine zr_iload_n dX5_newPupil_19 rfl rfl ?_
  obtain ⟨hi, hw⟩ := hw
  refine zr_iast zz_M1 hi rfl dX5_newPupil_20 hw (fun h1 hw => ?_)
  refine zr_iconst dX5_newPupil_21 zqk_1 ?_
  refine zr_istore_n [.ref 0, .int p1, .int ((19 : Int32) + ((17 : Int32) * (h0 1 17))), .int (1 : Int32)] dX5_newPupil_22 rfl (by decide) rfl rfl ?_
  refine zr_sub [.ref 0, .null, .int ((19 : Int32) + ((17 : Int32) * (h0 1 17))), .int (1 : Int32)] ⟨Or.inr rfl, ⟨Or.inl rfl, ⟨Or.inr rfl, ⟨Or.inr rfl, trivial⟩⟩⟩⟩ ?_
  obtain ⟨t9, hw⟩ := hw
  have step23 : ∀ (K4 : Int32 × zz_H → Prop), (∀ (x2 : Int32) (h3 : zz_H), K4 (x2, h3) → zz_Go zz_M 0 cX5_newPupil RX5 4 (some .int) post 23 [] [.ref 0, .null, .int ((19 : Int32) + ((17 : Int32) * (h0 1 17))), .int x2] h3) → ∀ (x2 : Int32) (h3 : zz_H), wX5_newPupil_b23 h0 post K4 x2 h3 → zz_Go zz_M 0 cX5_newPupil RX5 4 (some .int) post 23 [] [.ref 0, .null, .int ((19 : Int32) + ((17 : Int32) * (h0 1 17))), .int x2] h3 := by
    intro K4 ih23 x2 h3 hw
    unfold wX5_newPupil_b23 at hw
    refine zr_iload_n dX5_newPupil_23 rfl rfl ?_
    refine zr_bipush dX5_newPupil_24 zbk_17 ?_
    have j44 : wX5_newPupil_j44 post h3 → zz_Go zz_M 0 cX5_newPupil RX5 4 (some .int) post 44 [] [.ref 0, .null, .null, .null] h3 := by
      intro hw
      unfold wX5_newPupil_j44 at hw
      refine zr_aload_n dX5_newPupil_44 rfl rfl ?_
      refine zr_getR zz_cX5 zz_M0 0 (by decide) rfl zf_X5_7 dX5_newPupil_45 ?_
      refine zr_bipush dX5_newPupil_48 zbk_17 ?_
      refine zr_dup2 dX5_newPupil_50 rfl rfl ?_
      refine zr_iald zz_M1 (zz_vin (by decide)) (j := 17) (by decide) dX5_newPupil_51 ?_
      refine zr_iconst dX5_newPupil_52 zqk_1 ?_
      refine zr_iadd dX5_newPupil_53 ?_
      refine zr_iast zz_M1 (zz_vin (by decide)) (j := 17) (by decide) dX5_newPupil_54 hw (fun h5 hw => ?_)
      refine zr_aload_n dX5_newPupil_55 rfl rfl ?_
      refine zr_getR zz_cX5 zz_M0 0 (by decide) rfl zf_X5_7 dX5_newPupil_56 ?_
      refine zr_bipush dX5_newPupil_59 zbk_17 ?_
      refine zr_iald zz_M1 (zz_vin (by decide)) (j := 17) (by decide) dX5_newPupil_61 ?_
      refine zr_iconst dX5_newPupil_62 zqk_1 ?_
      refine zr_isub dX5_newPupil_63 ?_
      exact zr_ret rfl rfl dX5_newPupil_64 hw
    refine zr_icmp_ge 44 dX5_newPupil_26 (by decide) (fun q => ?_) (fun q => ?_)
    · have hw := hw.1 q
      refine zr_sub [.ref 0, .null, .null, .null] ⟨Or.inr rfl, ⟨Or.inl rfl, ⟨Or.inl rfl, ⟨Or.inl rfl, trivial⟩⟩⟩⟩ ?_
      exact j44 hw
    · have hw := hw.2 q
      refine zr_aload_n dX5_newPupil_29 rfl rfl ?_
      refine zr_getR zz_cX5 zz_M0 0 (by decide) rfl zf_X5_7 dX5_newPupil_30 ?_
      refine zr_iload_n dX5_newPupil_33 rfl rfl ?_
      refine zr_iload_n dX5_newPupil_34 rfl rfl ?_
      refine zr_iadd dX5_newPupil_35 ?_
      refine zr_iconst dX5_newPupil_36 zqk_0 ?_
      obtain ⟨hi, hw⟩ := hw
      refine zr_iast zz_M1 hi rfl dX5_newPupil_37 hw (fun h6 hw => ?_)
      refine zr_iinc (x2 + 1) [.ref 0, .null, .int ((19 : Int32) + ((17 : Int32) * (h0 1 17))), .int (x2 + 1)] dX5_newPupil_38 rfl (zok_1 _) (by decide) rfl rfl ?_
      refine zr_goto 23 dX5_newPupil_41 (by decide) ?_
      exact ih23 _ _ hw
  have key23 : ∀ (t9 : Nat) (x2 : Int32) (h3 : zz_H), zz_lp (fun K (s : Int32 × zz_H) => wX5_newPupil_b23 h0 post K s.1 s.2) t9 (x2, h3) → zz_Go zz_M 0 cX5_newPupil RX5 4 (some .int) post 23 [] [.ref 0, .null, .int ((19 : Int32) + ((17 : Int32) * (h0 1 17))), .int x2] h3 := by
    intro t9
    induction t9 with
    | zero => intro x2 h3 hw; exact hw.elim
    | succ t9 ih => intro x2 h3 hw; exact step23 _ ih _ _ hw
  exact key23 t9 _ _ hw
def wX5_pupil (p1 : Int32) (h0 : zz_H) (post : Int32 → zz_H → Prop) : Prop :=
  wX5_in (p1.toInt64) (0 : Int64) (3 : Int64) h0 (fun r1 => ((¬ r1 = 0) → (((¬ (h0 1 17) = (12 : Int32)) → (wX5_newPupil p1 h0 (fun r3 h2 => post r3 h2))) ∧ (((h0 1 17) = (12 : Int32)) → (wX5_finds ((-1000002) : Int32) h0 (fun r5 h4 => post r5 h4))))) ∧ ((r1 = 0) → (wX5_finds ((-1000001) : Int32) h0 (fun r7 h6 => post r7 h6))))
set_option maxRecDepth 20000 in
set_option maxHeartbeats 4000000 in
theorem ctX5_pupil (p1 : Int32) (h0 : zz_H) (post : Int32 → zz_H → Prop) (hw : wX5_pupil p1 h0 post) : zz_Ct zz_M 1 yX5_pupil cX5_pupil 2 (some .int) [.ref 0, .int p1] h0 post := by
  refine zz_ct (L := [.ref 0, .int p1]) (by decide +kernel) (Nat.le_of_ble_eq_true rfl) (fun ad q hq => hq) ?_
  show zz_Go zz_M 1 cX5_pupil RX5 2 (some .int) post 0 [] [.ref 0, .int p1] h0
  unfold wX5_pupil at hw
  refine zr_iload_n dX5_pupil_0 rfl rfl ?_
  refine zr_i2l dX5_pupil_1 ?_
  refine zr_lconst (v := 0) dX5_pupil_2 (by decide) ?_
  refine zr_ldc2 zl_X5_69 dX5_pupil_3 ?_
  refine zr_pSi (ctX5_in (p1.toInt64) (0 : Int64) (3 : Int64) h0 _ hw) zy_X5_in zm_X5_43 (by decide) rfl rfl (Nat.le_of_ble_eq_true rfl) dX5_pupil_6 (fun r1 hw => ?_)
  refine zr_if_ne 19 dX5_pupil_9 (by decide) (fun q => ?_) (fun q => ?_)
  · have hw := hw.1 q
    refine zr_aload_n dX5_pupil_19 rfl rfl ?_
    refine zr_getR zz_cX5 zz_M0 0 (by decide) rfl zf_X5_7 dX5_pupil_20 ?_
    refine zr_bipush dX5_pupil_23 zbk_17 ?_
    refine zr_iald zz_M1 (zz_vin (by decide)) (j := 17) (by decide) dX5_pupil_25 ?_
    refine zr_bipush dX5_pupil_26 zbk_12 ?_
    refine zr_icmp_ne 40 dX5_pupil_28 (by decide) (fun q => ?_) (fun q => ?_)
    · have hw := hw.1 q
      refine zr_aload_n dX5_pupil_40 rfl rfl ?_
      refine zr_iload_n dX5_pupil_41 rfl rfl ?_
      refine zr_callVi zz_cX5 zz_M0 (ctX5_newPupil p1 h0 _ hw) zy_X5_newPupil zm_X5_72 (by decide) rfl rfl (Nat.le_of_ble_eq_true rfl) dX5_pupil_42 (fun r3 h2 hw => ?_)
      exact zr_ret rfl rfl dX5_pupil_45 hw
    · have hw := hw.2 q
      refine zr_aload_n dX5_pupil_31 rfl rfl ?_
      refine zr_ldc zk_X5_71 dX5_pupil_32 ?_
      refine zr_callVi zz_cX5 zz_M0 (ctX5_finds ((-1000002) : Int32) h0 _ hw) zy_X5_finds zm_X5_59 (by decide) rfl rfl (Nat.le_of_ble_eq_true rfl) dX5_pupil_34 (fun r5 h4 hw => ?_)
      refine zr_goto 45 dX5_pupil_37 (by decide) ?_
      exact zr_ret rfl rfl dX5_pupil_45 hw
  · have hw := hw.2 q
    refine zr_aload_n dX5_pupil_12 rfl rfl ?_
    refine zr_ldc zk_X5_40 dX5_pupil_13 ?_
    refine zr_callVi zz_cX5 zz_M0 (ctX5_finds ((-1000001) : Int32) h0 _ hw) zy_X5_finds zm_X5_59 (by decide) rfl rfl (Nat.le_of_ble_eq_true rfl) dX5_pupil_15 (fun r7 h6 hw => ?_)
    exact zr_ret rfl rfl dX5_pupil_18 hw
def wX5_point (p1 : Int32) (p2 : Int32) (p3 : Int32) (p4 : Int32) (h0 : zz_H) (post : Int32 → zz_H → Prop) : Prop :=
  wX5_isPupil p1 h0 (fun r1 => ((r1 = 0) → (wX5_finds ((-1000001) : Int32) h0 (fun r3 h2 => post r3 h2))) ∧ ((¬ r1 = 0) → (wX5_isQuestion p2 h0 (fun r4 => ((r4 = 0) → (wX5_finds ((-1000001) : Int32) h0 (fun r6 h5 => post r6 h5))) ∧ ((¬ r4 = 0) → (wX5_in (p3.toInt64) (0 : Int64) (1 : Int64) h0 (fun r7 => ((r7 = 0) → (wX5_finds ((-1000001) : Int32) h0 (fun r9 h8 => post r9 h8))) ∧ ((¬ r7 = 0) → (vp_in ((0 : Int32) + p2) 245 ∧ (wX5_in (p4.toInt64) (0 : Int64) ((h0 1 ((0 : Int32) + p2).toNatClampNeg).toInt64) h0 (fun r10 => ((¬ r10 = 0) → (wX5_at p1 p3 p2 h0 (fun r11 => vp_in r11 245 ∧ (wX5_at p1 p3 p2 h0 (fun r12 => vp_in r12 245 ∧ zz_sto h0 1 (upd (h0 1) r12.toNatClampNeg p4) (fun h13 => post (h0 1 r11.toNatClampNeg) h13)))))) ∧ ((r10 = 0) → (wX5_finds ((-1000001) : Int32) h0 (fun r15 h14 => post r15 h14))))))))))))))
set_option maxRecDepth 20000 in
set_option maxHeartbeats 4000000 in
theorem ctX5_point (p1 : Int32) (p2 : Int32) (p3 : Int32) (p4 : Int32) (h0 : zz_H) (post : Int32 → zz_H → Prop) (hw : wX5_point p1 p2 p3 p4 h0 post) : zz_Ct zz_M 2 yX5_point cX5_point 6 (some .int) [.ref 0, .int p1, .int p2, .int p3, .int p4] h0 post := by
  refine zz_ct (L := [.ref 0, .int p1, .int p2, .int p3, .int p4, .null]) (by decide +kernel) (Nat.le_of_ble_eq_true rfl) (fun ad q hq => hq) ?_
  show zz_Go zz_M 2 cX5_point RX5 6 (some .int) post 0 [] [.ref 0, .int p1, .int p2, .int p3, .int p4, .null] h0
  unfold wX5_point at hw
  refine zr_aload_n dX5_point_0 rfl rfl ?_
  refine zr_iload_n dX5_point_1 rfl rfl ?_
  refine zr_pVi zz_cX5 zz_M0 (ctX5_isPupil p1 h0 _ hw) zy_X5_isPupil zm_X5_75 (by decide) rfl rfl (Nat.le_of_ble_eq_true rfl) dX5_point_2 (fun r1 hw => ?_)
  refine zr_if_eq 44 dX5_point_5 (by decide) (fun q => ?_) (fun q => ?_)
  · have hw := hw.1 q
    refine zr_aload_n dX5_point_44 rfl rfl ?_
    refine zr_ldc zk_X5_40 dX5_point_45 ?_
    refine zr_callVi zz_cX5 zz_M0 (ctX5_finds ((-1000001) : Int32) h0 _ hw) zy_X5_finds zm_X5_59 (by decide) rfl rfl (Nat.le_of_ble_eq_true rfl) dX5_point_47 (fun r3 h2 hw => ?_)
    exact zr_ret rfl rfl dX5_point_50 hw
  · have hw := hw.2 q
    refine zr_iload_n dX5_point_8 rfl rfl ?_
    refine zr_pSi (ctX5_isQuestion p2 h0 _ hw) zy_X5_isQuestion zm_X5_53 (by decide) rfl rfl (Nat.le_of_ble_eq_true rfl) dX5_point_9 (fun r4 hw => ?_)
    refine zr_if_eq 44 dX5_point_12 (by decide) (fun q => ?_) (fun q => ?_)
    · have hw := hw.1 q
      refine zr_aload_n dX5_point_44 rfl rfl ?_
      refine zr_ldc zk_X5_40 dX5_point_45 ?_
      refine zr_callVi zz_cX5 zz_M0 (ctX5_finds ((-1000001) : Int32) h0 _ hw) zy_X5_finds zm_X5_59 (by decide) rfl rfl (Nat.le_of_ble_eq_true rfl) dX5_point_47 (fun r6 h5 hw => ?_)
      exact zr_ret rfl rfl dX5_point_50 hw
    · have hw := hw.2 q
      refine zr_iload_n dX5_point_15 rfl rfl ?_
      refine zr_i2l dX5_point_16 ?_
      refine zr_lconst (v := 0) dX5_point_17 (by decide) ?_
      refine zr_lconst (v := 1) dX5_point_18 (by decide) ?_
      refine zr_pSi (ctX5_in (p3.toInt64) (0 : Int64) (1 : Int64) h0 _ hw) zy_X5_in zm_X5_43 (by decide) rfl rfl (Nat.le_of_ble_eq_true rfl) dX5_point_19 (fun r7 hw => ?_)
      refine zr_if_eq 44 dX5_point_22 (by decide) (fun q => ?_) (fun q => ?_)
      · have hw := hw.1 q
        refine zr_aload_n dX5_point_44 rfl rfl ?_
        refine zr_ldc zk_X5_40 dX5_point_45 ?_
        refine zr_callVi zz_cX5 zz_M0 (ctX5_finds ((-1000001) : Int32) h0 _ hw) zy_X5_finds zm_X5_59 (by decide) rfl rfl (Nat.le_of_ble_eq_true rfl) dX5_point_47 (fun r9 h8 hw => ?_)
        exact zr_ret rfl rfl dX5_point_50 hw
      · have hw := hw.2 q
        refine zr_iload dX5_point_25 rfl ?_
        refine zr_i2l dX5_point_27 ?_
        refine zr_lconst (v := 0) dX5_point_28 (by decide) ?_
        refine zr_aload_n dX5_point_29 rfl rfl ?_
        refine zr_getR zz_cX5 zz_M0 0 (by decide) rfl zf_X5_7 dX5_point_30 ?_
        refine zr_iconst dX5_point_33 zqk_0 ?_
        refine zr_iload_n dX5_point_34 rfl rfl ?_
        refine zr_iadd dX5_point_35 ?_
        obtain ⟨hi, hw⟩ := hw
        refine zr_iald zz_M1 hi rfl dX5_point_36 ?_
        refine zr_i2l dX5_point_37 ?_
        refine zr_pSi (ctX5_in (p4.toInt64) (0 : Int64) ((h0 1 ((0 : Int32) + p2).toNatClampNeg).toInt64) h0 _ hw) zy_X5_in zm_X5_43 (by decide) rfl rfl (Nat.le_of_ble_eq_true rfl) dX5_point_38 (fun r10 hw => ?_)
        refine zr_if_ne 51 dX5_point_41 (by decide) (fun q => ?_) (fun q => ?_)
        · have hw := hw.1 q
          refine zr_aload_n dX5_point_51 rfl rfl ?_
          refine zr_getR zz_cX5 zz_M0 0 (by decide) rfl zf_X5_7 dX5_point_52 ?_
          refine zr_iload_n dX5_point_55 rfl rfl ?_
          refine zr_iload_n dX5_point_56 rfl rfl ?_
          refine zr_iload_n dX5_point_57 rfl rfl ?_
          refine zr_pSi (ctX5_at p1 p3 p2 h0 _ hw) zy_X5_at zm_X5_49 (by decide) rfl rfl (Nat.le_of_ble_eq_true rfl) dX5_point_58 (fun r11 hw => ?_)
          obtain ⟨hi, hw⟩ := hw
          refine zr_iald zz_M1 hi rfl dX5_point_61 ?_
          refine zr_istore [.ref 0, .int p1, .int p2, .int p3, .int p4, .int (h0 1 r11.toNatClampNeg)] dX5_point_62 (by decide) rfl rfl ?_
          refine zr_aload_n dX5_point_64 rfl rfl ?_
          refine zr_getR zz_cX5 zz_M0 0 (by decide) rfl zf_X5_7 dX5_point_65 ?_
          refine zr_iload_n dX5_point_68 rfl rfl ?_
          refine zr_iload_n dX5_point_69 rfl rfl ?_
          refine zr_iload_n dX5_point_70 rfl rfl ?_
          refine zr_pSi (ctX5_at p1 p3 p2 h0 _ hw) zy_X5_at zm_X5_49 (by decide) rfl rfl (Nat.le_of_ble_eq_true rfl) dX5_point_71 (fun r12 hw => ?_)
          refine zr_iload dX5_point_74 rfl ?_
          obtain ⟨hi, hw⟩ := hw
          refine zr_iast zz_M1 hi rfl dX5_point_76 hw (fun h13 hw => ?_)
          refine zr_iload dX5_point_77 rfl ?_
          exact zr_ret rfl rfl dX5_point_79 hw
        · have hw := hw.2 q
          refine zr_aload_n dX5_point_44 rfl rfl ?_
          refine zr_ldc zk_X5_40 dX5_point_45 ?_
          refine zr_callVi zz_cX5 zz_M0 (ctX5_finds ((-1000001) : Int32) h0 _ hw) zy_X5_finds zm_X5_59 (by decide) rfl rfl (Nat.le_of_ble_eq_true rfl) dX5_point_47 (fun r15 h14 hw => ?_)
          exact zr_ret rfl rfl dX5_point_50 hw
def wX5_score (p1 : Int32) (p2 : Int32) (h0 : zz_H) (post : Int32 → Prop) : Prop :=
  wX5_at p1 (0 : Int32) p2 h0 (fun r1 => vp_in r1 245 ∧ (wX5_at p1 (1 : Int32) p2 h0 (fun r2 => vp_in r2 245 ∧ (post (((h0 1 r1.toNatClampNeg) + (h0 1 r2.toNatClampNeg)) / (2 : Int32))))))
set_option maxRecDepth 20000 in
set_option maxHeartbeats 4000000 in
theorem ctX5_score (p1 : Int32) (p2 : Int32) (h0 : zz_H) (post : Int32 → Prop) (hw : wX5_score p1 p2 h0 post) : zz_Ct zz_M 1 yX5_score cX5_score 3 (some .int) [.ref 0, .int p1, .int p2] h0 (zz_pu h0 post) := by
  refine zz_ct (L := [.ref 0, .int p1, .int p2]) (by decide +kernel) (Nat.le_of_ble_eq_true rfl) (fun ad q hq => hq) ?_
  show zz_Go zz_M 1 cX5_score RX5 3 (some .int) (zz_pu h0 post) 0 [] [.ref 0, .int p1, .int p2] h0
  unfold wX5_score at hw
  refine zr_aload_n dX5_score_0 rfl rfl ?_
  refine zr_getR zz_cX5 zz_M0 0 (by decide) rfl zf_X5_7 dX5_score_1 ?_
  refine zr_iload_n dX5_score_4 rfl rfl ?_
  refine zr_iconst dX5_score_5 zqk_0 ?_
  refine zr_iload_n dX5_score_6 rfl rfl ?_
  refine zr_pSi (ctX5_at p1 (0 : Int32) p2 h0 _ hw) zy_X5_at zm_X5_49 (by decide) rfl rfl (Nat.le_of_ble_eq_true rfl) dX5_score_7 (fun r1 hw => ?_)
  obtain ⟨hi, hw⟩ := hw
  refine zr_iald zz_M1 hi rfl dX5_score_10 ?_
  refine zr_aload_n dX5_score_11 rfl rfl ?_
  refine zr_getR zz_cX5 zz_M0 0 (by decide) rfl zf_X5_7 dX5_score_12 ?_
  refine zr_iload_n dX5_score_15 rfl rfl ?_
  refine zr_iconst dX5_score_16 zqk_1 ?_
  refine zr_iload_n dX5_score_17 rfl rfl ?_
  refine zr_pSi (ctX5_at p1 (1 : Int32) p2 h0 _ hw) zy_X5_at zm_X5_49 (by decide) rfl rfl (Nat.le_of_ble_eq_true rfl) dX5_score_18 (fun r2 hw => ?_)
  obtain ⟨hi, hw⟩ := hw
  refine zr_iald zz_M1 hi rfl dX5_score_21 ?_
  refine zr_iadd dX5_score_22 ?_
  refine zr_iconst dX5_score_23 zqk_2 ?_
  refine zr_idiv dX5_score_24 (by decide) ?_
  exact zr_ret rfl rfl dX5_score_25 ⟨rfl, hw⟩
def wX5_raw_b4 (p1 : Int32) (h0 : zz_H) (post : Int32 → Prop) (K3 : Int32 × Int32 → Prop) (x1 : Int32) (x2 : Int32) : Prop :=
  (((8 : Int32) ≤ x2) → (post x1)) ∧ ((¬ (8 : Int32) ≤ x2) → (wX5_score p1 x2 h0 (fun r4 => K3 ((x1 + r4), (x2 + 1)))))
def wX5_raw (p1 : Int32) (h0 : zz_H) (post : Int32 → Prop) : Prop :=
  ∃ t9, zz_lp (fun K (s : Int32 × Int32) => wX5_raw_b4 p1 h0 post K s.1 s.2) t9 ((0 : Int32), (0 : Int32))
set_option maxRecDepth 20000 in
set_option maxHeartbeats 4000000 in
theorem ctX5_raw (p1 : Int32) (h0 : zz_H) (post : Int32 → Prop) (hw : wX5_raw p1 h0 post) : zz_Ct zz_M 2 yX5_raw cX5_raw 4 (some .int) [.ref 0, .int p1] h0 (zz_pu h0 post) := by
  refine zz_ct (L := [.ref 0, .int p1, .null, .null]) (by decide +kernel) (Nat.le_of_ble_eq_true rfl) (fun ad q hq => hq) ?_
  show zz_Go zz_M 2 cX5_raw RX5 4 (some .int) (zz_pu h0 post) 0 [] [.ref 0, .int p1, .null, .null] h0
  unfold wX5_raw at hw
  refine zr_iconst dX5_raw_0 zqk_0 ?_
  refine zr_istore_n [.ref 0, .int p1, .int (0 : Int32), .null] dX5_raw_1 rfl (by decide) rfl rfl ?_
  refine zr_iconst dX5_raw_2 zqk_0 ?_
  refine zr_istore_n [.ref 0, .int p1, .int (0 : Int32), .int (0 : Int32)] dX5_raw_3 rfl (by decide) rfl rfl ?_
  obtain ⟨t9, hw⟩ := hw
  have step4 : ∀ (K3 : Int32 × Int32 → Prop), (∀ (x1 : Int32) (x2 : Int32), K3 (x1, x2) → zz_Go zz_M 2 cX5_raw RX5 4 (some .int) (zz_pu h0 post) 4 [] [.ref 0, .int p1, .int x1, .int x2] h0) → ∀ (x1 : Int32) (x2 : Int32), wX5_raw_b4 p1 h0 post K3 x1 x2 → zz_Go zz_M 2 cX5_raw RX5 4 (some .int) (zz_pu h0 post) 4 [] [.ref 0, .int p1, .int x1, .int x2] h0 := by
    intro K3 ih4 x1 x2 hw
    unfold wX5_raw_b4 at hw
    refine zr_iload_n dX5_raw_4 rfl rfl ?_
    refine zr_bipush dX5_raw_5 zbk_8 ?_
    refine zr_icmp_ge 25 dX5_raw_7 (by decide) (fun q => ?_) (fun q => ?_)
    · have hw := hw.1 q
      refine zr_iload_n dX5_raw_25 rfl rfl ?_
      exact zr_ret rfl rfl dX5_raw_26 ⟨rfl, hw⟩
    · have hw := hw.2 q
      refine zr_iload_n dX5_raw_10 rfl rfl ?_
      refine zr_aload_n dX5_raw_11 rfl rfl ?_
      refine zr_iload_n dX5_raw_12 rfl rfl ?_
      refine zr_iload_n dX5_raw_13 rfl rfl ?_
      refine zr_pVi zz_cX5 zz_M0 (ctX5_score p1 x2 h0 _ hw) zy_X5_score zm_X5_78 (by decide) rfl rfl (Nat.le_of_ble_eq_true rfl) dX5_raw_14 (fun r4 hw => ?_)
      refine zr_iadd dX5_raw_17 ?_
      refine zr_istore_n [.ref 0, .int p1, .int (x1 + r4), .int x2] dX5_raw_18 rfl (by decide) rfl rfl ?_
      refine zr_iinc (x2 + 1) [.ref 0, .int p1, .int (x1 + r4), .int (x2 + 1)] dX5_raw_19 rfl (zok_1 _) (by decide) rfl rfl ?_
      refine zr_goto 4 dX5_raw_22 (by decide) ?_
      exact ih4 _ _ hw
  have key4 : ∀ (t9 : Nat) (x1 : Int32) (x2 : Int32), zz_lp (fun K (s : Int32 × Int32) => wX5_raw_b4 p1 h0 post K s.1 s.2) t9 (x1, x2) → zz_Go zz_M 2 cX5_raw RX5 4 (some .int) (zz_pu h0 post) 4 [] [.ref 0, .int p1, .int x1, .int x2] h0 := by
    intro t9
    induction t9 with
    | zero => intro x1 x2 hw; exact hw.elim
    | succ t9 ih => intro x1 x2 hw; exact step4 _ ih _ _ hw
  exact key4 t9 _ _ hw
def wX5_full_b4 (h0 : zz_H) (post : Int32 → Prop) (K3 : Int32 × Int32 → Prop) (x1 : Int32) (x2 : Int32) : Prop :=
  (((8 : Int32) ≤ x2) → (post x1)) ∧ ((¬ (8 : Int32) ≤ x2) → (vp_in ((0 : Int32) + x2) 245 ∧ (K3 ((x1 + (h0 1 ((0 : Int32) + x2).toNatClampNeg)), (x2 + 1)))))
def wX5_full (h0 : zz_H) (post : Int32 → Prop) : Prop :=
  ∃ t9, zz_lp (fun K (s : Int32 × Int32) => wX5_full_b4 h0 post K s.1 s.2) t9 ((0 : Int32), (0 : Int32))
set_option maxRecDepth 20000 in
set_option maxHeartbeats 4000000 in
theorem ctX5_full (h0 : zz_H) (post : Int32 → Prop) (hw : wX5_full h0 post) : zz_Ct zz_M 0 yX5_full cX5_full 3 (some .int) [.ref 0] h0 (zz_pu h0 post) := by
  refine zz_ct (L := [.ref 0, .null, .null]) (by decide +kernel) (Nat.le_of_ble_eq_true rfl) (fun ad q hq => hq) ?_
  show zz_Go zz_M 0 cX5_full RX5 3 (some .int) (zz_pu h0 post) 0 [] [.ref 0, .null, .null] h0
  unfold wX5_full at hw
  refine zr_iconst dX5_full_0 zqk_0 ?_
  refine zr_istore_n [.ref 0, .int (0 : Int32), .null] dX5_full_1 rfl (by decide) rfl rfl ?_
  refine zr_iconst dX5_full_2 zqk_0 ?_
  refine zr_istore_n [.ref 0, .int (0 : Int32), .int (0 : Int32)] dX5_full_3 rfl (by decide) rfl rfl ?_
  obtain ⟨t9, hw⟩ := hw
  have step4 : ∀ (K3 : Int32 × Int32 → Prop), (∀ (x1 : Int32) (x2 : Int32), K3 (x1, x2) → zz_Go zz_M 0 cX5_full RX5 3 (some .int) (zz_pu h0 post) 4 [] [.ref 0, .int x1, .int x2] h0) → ∀ (x1 : Int32) (x2 : Int32), wX5_full_b4 h0 post K3 x1 x2 → zz_Go zz_M 0 cX5_full RX5 3 (some .int) (zz_pu h0 post) 4 [] [.ref 0, .int x1, .int x2] h0 := by
    intro K3 ih4 x1 x2 hw
    unfold wX5_full_b4 at hw
    refine zr_iload_n dX5_full_4 rfl rfl ?_
    refine zr_bipush dX5_full_5 zbk_8 ?_
    refine zr_icmp_ge 27 dX5_full_7 (by decide) (fun q => ?_) (fun q => ?_)
    · have hw := hw.1 q
      refine zr_iload_n dX5_full_27 rfl rfl ?_
      exact zr_ret rfl rfl dX5_full_28 ⟨rfl, hw⟩
    · have hw := hw.2 q
      refine zr_iload_n dX5_full_10 rfl rfl ?_
      refine zr_aload_n dX5_full_11 rfl rfl ?_
      refine zr_getR zz_cX5 zz_M0 0 (by decide) rfl zf_X5_7 dX5_full_12 ?_
      refine zr_iconst dX5_full_15 zqk_0 ?_
      refine zr_iload_n dX5_full_16 rfl rfl ?_
      refine zr_iadd dX5_full_17 ?_
      obtain ⟨hi, hw⟩ := hw
      refine zr_iald zz_M1 hi rfl dX5_full_18 ?_
      refine zr_iadd dX5_full_19 ?_
      refine zr_istore_n [.ref 0, .int (x1 + (h0 1 ((0 : Int32) + x2).toNatClampNeg)), .int x2] dX5_full_20 rfl (by decide) rfl rfl ?_
      refine zr_iinc (x2 + 1) [.ref 0, .int (x1 + (h0 1 ((0 : Int32) + x2).toNatClampNeg)), .int (x2 + 1)] dX5_full_21 rfl (zok_1 _) (by decide) rfl rfl ?_
      refine zr_goto 4 dX5_full_24 (by decide) ?_
      exact ih4 _ _ hw
  have key4 : ∀ (t9 : Nat) (x1 : Int32) (x2 : Int32), zz_lp (fun K (s : Int32 × Int32) => wX5_full_b4 h0 post K s.1 s.2) t9 (x1, x2) → zz_Go zz_M 0 cX5_full RX5 3 (some .int) (zz_pu h0 post) 4 [] [.ref 0, .int x1, .int x2] h0 := by
    intro t9
    induction t9 with
    | zero => intro x1 x2 hw; exact hw.elim
    | succ t9 ih => intro x1 x2 hw; exact step4 _ ih _ _ hw
  exact key4 t9 _ _ hw
def wX5_pupilOf (p1 : Int32) (p2 : Int32) (h0 : zz_H) (post : Int32 → zz_H → Prop) : Prop :=
  wX5_isPupil p1 h0 (fun r1 => ((r1 = 0) → (wX5_finds ((-1000001) : Int32) h0 (fun r3 h2 => post r3 h2))) ∧ ((¬ r1 = 0) → (wX5_in (p2.toInt64) (0 : Int64) (9 : Int64) h0 (fun r4 => ((¬ r4 = 0) → (((¬ p2 = 0) → (((¬ p2 = (1 : Int32)) → (wX5_score p1 (p2 - (2 : Int32)) h0 (fun r5 => post r5 h0))) ∧ ((p2 = (1 : Int32)) → (wX5_raw p1 h0 (fun r6 => post r6 h0))))) ∧ ((p2 = 0) → (vp_in ((19 : Int32) + ((17 : Int32) * p1)) 245 ∧ (post (h0 1 ((19 : Int32) + ((17 : Int32) * p1)).toNatClampNeg) h0))))) ∧ ((r4 = 0) → (wX5_finds ((-1000001) : Int32) h0 (fun r8 h7 => post r8 h7)))))))
set_option maxRecDepth 20000 in
set_option maxHeartbeats 4000000 in
theorem ctX5_pupilOf (p1 : Int32) (p2 : Int32) (h0 : zz_H) (post : Int32 → zz_H → Prop) (hw : wX5_pupilOf p1 p2 h0 post) : zz_Ct zz_M 3 yX5_pupilOf cX5_pupilOf 3 (some .int) [.ref 0, .int p1, .int p2] h0 post := by
  refine zz_ct (L := [.ref 0, .int p1, .int p2]) (by decide +kernel) (Nat.le_of_ble_eq_true rfl) (fun ad q hq => hq) ?_
  show zz_Go zz_M 3 cX5_pupilOf RX5 3 (some .int) post 0 [] [.ref 0, .int p1, .int p2] h0
  unfold wX5_pupilOf at hw
  refine zr_aload_n dX5_pupilOf_0 rfl rfl ?_
  refine zr_iload_n dX5_pupilOf_1 rfl rfl ?_
  refine zr_pVi zz_cX5 zz_M0 (ctX5_isPupil p1 h0 _ hw) zy_X5_isPupil zm_X5_75 (by decide) rfl rfl (Nat.le_of_ble_eq_true rfl) dX5_pupilOf_2 (fun r1 hw => ?_)
  refine zr_if_eq 20 dX5_pupilOf_5 (by decide) (fun q => ?_) (fun q => ?_)
  · have hw := hw.1 q
    refine zr_aload_n dX5_pupilOf_20 rfl rfl ?_
    refine zr_ldc zk_X5_40 dX5_pupilOf_21 ?_
    refine zr_callVi zz_cX5 zz_M0 (ctX5_finds ((-1000001) : Int32) h0 _ hw) zy_X5_finds zm_X5_59 (by decide) rfl rfl (Nat.le_of_ble_eq_true rfl) dX5_pupilOf_23 (fun r3 h2 hw => ?_)
    exact zr_ret rfl rfl dX5_pupilOf_26 hw
  · have hw := hw.2 q
    refine zr_iload_n dX5_pupilOf_8 rfl rfl ?_
    refine zr_i2l dX5_pupilOf_9 ?_
    refine zr_lconst (v := 0) dX5_pupilOf_10 (by decide) ?_
    refine zr_ldc2 zl_X5_82 dX5_pupilOf_11 ?_
    refine zr_pSi (ctX5_in (p2.toInt64) (0 : Int64) (9 : Int64) h0 _ hw) zy_X5_in zm_X5_43 (by decide) rfl rfl (Nat.le_of_ble_eq_true rfl) dX5_pupilOf_14 (fun r4 hw => ?_)
    refine zr_if_ne 27 dX5_pupilOf_17 (by decide) (fun q => ?_) (fun q => ?_)
    · have hw := hw.1 q
      refine zr_iload_n dX5_pupilOf_27 rfl rfl ?_
      refine zr_if_ne 46 dX5_pupilOf_28 (by decide) (fun q => ?_) (fun q => ?_)
      · have hw := hw.1 q
        refine zr_iload_n dX5_pupilOf_46 rfl rfl ?_
        refine zr_iconst dX5_pupilOf_47 zqk_1 ?_
        refine zr_icmp_ne 59 dX5_pupilOf_48 (by decide) (fun q => ?_) (fun q => ?_)
        · have hw := hw.1 q
          refine zr_aload_n dX5_pupilOf_59 rfl rfl ?_
          refine zr_iload_n dX5_pupilOf_60 rfl rfl ?_
          refine zr_iload_n dX5_pupilOf_61 rfl rfl ?_
          refine zr_iconst dX5_pupilOf_62 zqk_2 ?_
          refine zr_isub dX5_pupilOf_63 ?_
          refine zr_pVi zz_cX5 zz_M0 (ctX5_score p1 (p2 - (2 : Int32)) h0 _ hw) zy_X5_score zm_X5_78 (by decide) rfl rfl (Nat.le_of_ble_eq_true rfl) dX5_pupilOf_64 (fun r5 hw => ?_)
          exact zr_ret rfl rfl dX5_pupilOf_67 hw
        · have hw := hw.2 q
          refine zr_aload_n dX5_pupilOf_51 rfl rfl ?_
          refine zr_iload_n dX5_pupilOf_52 rfl rfl ?_
          refine zr_pVi zz_cX5 zz_M0 (ctX5_raw p1 h0 _ hw) zy_X5_raw zm_X5_84 (by decide) rfl rfl (Nat.le_of_ble_eq_true rfl) dX5_pupilOf_53 (fun r6 hw => ?_)
          refine zr_goto 67 dX5_pupilOf_56 (by decide) ?_
          exact zr_ret rfl rfl dX5_pupilOf_67 hw
      · have hw := hw.2 q
        refine zr_aload_n dX5_pupilOf_31 rfl rfl ?_
        refine zr_getR zz_cX5 zz_M0 0 (by decide) rfl zf_X5_7 dX5_pupilOf_32 ?_
        refine zr_bipush dX5_pupilOf_35 zbk_19 ?_
        refine zr_bipush dX5_pupilOf_37 zbk_17 ?_
        refine zr_iload_n dX5_pupilOf_39 rfl rfl ?_
        refine zr_imul dX5_pupilOf_40 ?_
        refine zr_iadd dX5_pupilOf_41 ?_
        obtain ⟨hi, hw⟩ := hw
        refine zr_iald zz_M1 hi rfl dX5_pupilOf_42 ?_
        refine zr_goto 67 dX5_pupilOf_43 (by decide) ?_
        exact zr_ret rfl rfl dX5_pupilOf_67 hw
    · have hw := hw.2 q
      refine zr_aload_n dX5_pupilOf_20 rfl rfl ?_
      refine zr_ldc zk_X5_40 dX5_pupilOf_21 ?_
      refine zr_callVi zz_cX5 zz_M0 (ctX5_finds ((-1000001) : Int32) h0 _ hw) zy_X5_finds zm_X5_59 (by decide) rfl rfl (Nat.le_of_ble_eq_true rfl) dX5_pupilOf_23 (fun r8 h7 hw => ?_)
      exact zr_ret rfl rfl dX5_pupilOf_26 hw
def wX5_greatest_b4 (h0 : zz_H) (post : Int32 → Prop) (K3 : Int32 × Int32 → Prop) (x1 : Int32) (x2 : Int32) : Prop :=
  (((h0 1 17) ≤ x2) → (post x1)) ∧ ((¬ (h0 1 17) ≤ x2) → (wX5_raw x2 h0 (fun r4 => ((r4 ≤ x1) → (K3 (x1, (x2 + 1)))) ∧ ((¬ r4 ≤ x1) → (K3 (r4, (x2 + 1)))))))
def wX5_greatest (h0 : zz_H) (post : Int32 → Prop) : Prop :=
  ∃ t9, zz_lp (fun K (s : Int32 × Int32) => wX5_greatest_b4 h0 post K s.1 s.2) t9 ((0 : Int32), (0 : Int32))
set_option maxRecDepth 20000 in
set_option maxHeartbeats 4000000 in
theorem ctX5_greatest (h0 : zz_H) (post : Int32 → Prop) (hw : wX5_greatest h0 post) : zz_Ct zz_M 3 yX5_greatest cX5_greatest 4 (some .int) [.ref 0] h0 (zz_pu h0 post) := by
  refine zz_ct (L := [.ref 0, .null, .null, .null]) (by decide +kernel) (Nat.le_of_ble_eq_true rfl) (fun ad q hq => hq) ?_
  show zz_Go zz_M 3 cX5_greatest RX5 4 (some .int) (zz_pu h0 post) 0 [] [.ref 0, .null, .null, .null] h0
  unfold wX5_greatest at hw
  refine zr_iconst dX5_greatest_0 zqk_0 ?_
  refine zr_istore_n [.ref 0, .int (0 : Int32), .null, .null] dX5_greatest_1 rfl (by decide) rfl rfl ?_
  refine zr_iconst dX5_greatest_2 zqk_0 ?_
  refine zr_istore_n [.ref 0, .int (0 : Int32), .int (0 : Int32), .null] dX5_greatest_3 rfl (by decide) rfl rfl ?_
  obtain ⟨t9, hw⟩ := hw
  have step4 : ∀ (K3 : Int32 × Int32 → Prop), (∀ (x1 : Int32) (x2 : Int32), K3 (x1, x2) → zz_Go zz_M 3 cX5_greatest RX5 4 (some .int) (zz_pu h0 post) 4 [] [.ref 0, .int x1, .int x2, .null] h0) → ∀ (x1 : Int32) (x2 : Int32), wX5_greatest_b4 h0 post K3 x1 x2 → zz_Go zz_M 3 cX5_greatest RX5 4 (some .int) (zz_pu h0 post) 4 [] [.ref 0, .int x1, .int x2, .null] h0 := by
    intro K3 ih4 x1 x2 hw
    unfold wX5_greatest_b4 at hw
    refine zr_iload_n dX5_greatest_4 rfl rfl ?_
    refine zr_aload_n dX5_greatest_5 rfl rfl ?_
    refine zr_getR zz_cX5 zz_M0 0 (by decide) rfl zf_X5_7 dX5_greatest_6 ?_
    refine zr_bipush dX5_greatest_9 zbk_17 ?_
    refine zr_iald zz_M1 (zz_vin (by decide)) (j := 17) (by decide) dX5_greatest_11 ?_
    refine zr_icmp_ge 38 dX5_greatest_12 (by decide) (fun q => ?_) (fun q => ?_)
    · have hw := hw.1 q
      refine zr_iload_n dX5_greatest_38 rfl rfl ?_
      exact zr_ret rfl rfl dX5_greatest_39 ⟨rfl, hw⟩
    · have hw := hw.2 q
      refine zr_aload_n dX5_greatest_15 rfl rfl ?_
      refine zr_iload_n dX5_greatest_16 rfl rfl ?_
      refine zr_pVi zz_cX5 zz_M0 (ctX5_raw x2 h0 _ hw) zy_X5_raw zm_X5_84 (by decide) rfl rfl (Nat.le_of_ble_eq_true rfl) dX5_greatest_17 (fun r4 hw => ?_)
      refine zr_istore_n [.ref 0, .int x1, .int x2, .int r4] dX5_greatest_20 rfl (by decide) rfl rfl ?_
      refine zr_iload_n dX5_greatest_21 rfl rfl ?_
      refine zr_iload_n dX5_greatest_22 rfl rfl ?_
      refine zr_icmp_le 30 dX5_greatest_23 (by decide) (fun q => ?_) (fun q => ?_)
      · have hw := hw.1 q
        refine zr_iload_n dX5_greatest_30 rfl rfl ?_
        refine zr_istore_n [.ref 0, .int x1, .int x2, .int r4] dX5_greatest_31 rfl (by decide) rfl rfl ?_
        refine zr_iinc (x2 + 1) [.ref 0, .int x1, .int (x2 + 1), .int r4] dX5_greatest_32 rfl (zok_1 _) (by decide) rfl rfl ?_
        refine zr_goto 4 dX5_greatest_35 (by decide) ?_
        refine zr_sub [.ref 0, .int x1, .int (x2 + 1), .null] ⟨Or.inr rfl, ⟨Or.inr rfl, ⟨Or.inr rfl, ⟨Or.inl rfl, trivial⟩⟩⟩⟩ ?_
        exact ih4 _ _ hw
      · have hw := hw.2 q
        refine zr_iload_n dX5_greatest_26 rfl rfl ?_
        refine zr_goto 31 dX5_greatest_27 (by decide) ?_
        refine zr_istore_n [.ref 0, .int r4, .int x2, .int r4] dX5_greatest_31 rfl (by decide) rfl rfl ?_
        refine zr_iinc (x2 + 1) [.ref 0, .int r4, .int (x2 + 1), .int r4] dX5_greatest_32 rfl (zok_1 _) (by decide) rfl rfl ?_
        refine zr_goto 4 dX5_greatest_35 (by decide) ?_
        refine zr_sub [.ref 0, .int r4, .int (x2 + 1), .null] ⟨Or.inr rfl, ⟨Or.inr rfl, ⟨Or.inr rfl, ⟨Or.inl rfl, trivial⟩⟩⟩⟩ ?_
        exact ih4 _ _ hw
  have key4 : ∀ (t9 : Nat) (x1 : Int32) (x2 : Int32), zz_lp (fun K (s : Int32 × Int32) => wX5_greatest_b4 h0 post K s.1 s.2) t9 (x1, x2) → zz_Go zz_M 3 cX5_greatest RX5 4 (some .int) (zz_pu h0 post) 4 [] [.ref 0, .int x1, .int x2, .null] h0 := by
    intro t9
    induction t9 with
    | zero => intro x1 x2 hw; exact hw.elim
    | succ t9 ih => intro x1 x2 hw; exact step4 _ ih _ _ hw
  exact key4 t9 _ _ hw
def wX5_oldMean_b4 (h0 : zz_H) (post : Int32 → Prop) (K3 : Int32 × Int32 → Prop) (x1 : Int32) (x2 : Int32) : Prop :=
  (((8 : Int32) ≤ x2) → (post x1)) ∧ ((¬ (8 : Int32) ≤ x2) → (vp_in ((8 : Int32) + x2) 245 ∧ (((0 ≤ (h0 1 ((8 : Int32) + x2).toNatClampNeg)) → (vp_in ((8 : Int32) + x2) 245 ∧ (K3 ((x1 + (h0 1 ((8 : Int32) + x2).toNatClampNeg)), (x2 + 1))))) ∧ ((¬ 0 ≤ (h0 1 ((8 : Int32) + x2).toNatClampNeg)) → (K3 ((x1 + (0 : Int32)), (x2 + 1)))))))
def wX5_oldMean (h0 : zz_H) (post : Int32 → Prop) : Prop :=
  ∃ t9, zz_lp (fun K (s : Int32 × Int32) => wX5_oldMean_b4 h0 post K s.1 s.2) t9 ((0 : Int32), (0 : Int32))
set_option maxRecDepth 20000 in
set_option maxHeartbeats 4000000 in
theorem ctX5_oldMean (h0 : zz_H) (post : Int32 → Prop) (hw : wX5_oldMean h0 post) : zz_Ct zz_M 0 yX5_oldMean cX5_oldMean 3 (some .int) [.ref 0] h0 (zz_pu h0 post) := by
  refine zz_ct (L := [.ref 0, .null, .null]) (by decide +kernel) (Nat.le_of_ble_eq_true rfl) (fun ad q hq => hq) ?_
  show zz_Go zz_M 0 cX5_oldMean RX5 3 (some .int) (zz_pu h0 post) 0 [] [.ref 0, .null, .null] h0
  unfold wX5_oldMean at hw
  refine zr_iconst dX5_oldMean_0 zqk_0 ?_
  refine zr_istore_n [.ref 0, .int (0 : Int32), .null] dX5_oldMean_1 rfl (by decide) rfl rfl ?_
  refine zr_iconst dX5_oldMean_2 zqk_0 ?_
  refine zr_istore_n [.ref 0, .int (0 : Int32), .int (0 : Int32)] dX5_oldMean_3 rfl (by decide) rfl rfl ?_
  obtain ⟨t9, hw⟩ := hw
  have step4 : ∀ (K3 : Int32 × Int32 → Prop), (∀ (x1 : Int32) (x2 : Int32), K3 (x1, x2) → zz_Go zz_M 0 cX5_oldMean RX5 3 (some .int) (zz_pu h0 post) 4 [] [.ref 0, .int x1, .int x2] h0) → ∀ (x1 : Int32) (x2 : Int32), wX5_oldMean_b4 h0 post K3 x1 x2 → zz_Go zz_M 0 cX5_oldMean RX5 3 (some .int) (zz_pu h0 post) 4 [] [.ref 0, .int x1, .int x2] h0 := by
    intro K3 ih4 x1 x2 hw
    unfold wX5_oldMean_b4 at hw
    refine zr_iload_n dX5_oldMean_4 rfl rfl ?_
    refine zr_bipush dX5_oldMean_5 zbk_8 ?_
    refine zr_icmp_ge 44 dX5_oldMean_7 (by decide) (fun q => ?_) (fun q => ?_)
    · have hw := hw.1 q
      refine zr_iload_n dX5_oldMean_44 rfl rfl ?_
      exact zr_ret rfl rfl dX5_oldMean_45 ⟨rfl, hw⟩
    · have hw := hw.2 q
      refine zr_iload_n dX5_oldMean_10 rfl rfl ?_
      refine zr_aload_n dX5_oldMean_11 rfl rfl ?_
      refine zr_getR zz_cX5 zz_M0 0 (by decide) rfl zf_X5_7 dX5_oldMean_12 ?_
      refine zr_bipush dX5_oldMean_15 zbk_8 ?_
      refine zr_iload_n dX5_oldMean_17 rfl rfl ?_
      refine zr_iadd dX5_oldMean_18 ?_
      obtain ⟨hi, hw⟩ := hw
      refine zr_iald zz_M1 hi rfl dX5_oldMean_19 ?_
      refine zr_if_ge 27 dX5_oldMean_20 (by decide) (fun q => ?_) (fun q => ?_)
      · have hw := hw.1 q
        refine zr_aload_n dX5_oldMean_27 rfl rfl ?_
        refine zr_getR zz_cX5 zz_M0 0 (by decide) rfl zf_X5_7 dX5_oldMean_28 ?_
        refine zr_bipush dX5_oldMean_31 zbk_8 ?_
        refine zr_iload_n dX5_oldMean_33 rfl rfl ?_
        refine zr_iadd dX5_oldMean_34 ?_
        obtain ⟨hi, hw⟩ := hw
        refine zr_iald zz_M1 hi rfl dX5_oldMean_35 ?_
        refine zr_iadd dX5_oldMean_36 ?_
        refine zr_istore_n [.ref 0, .int (x1 + (h0 1 ((8 : Int32) + x2).toNatClampNeg)), .int x2] dX5_oldMean_37 rfl (by decide) rfl rfl ?_
        refine zr_iinc (x2 + 1) [.ref 0, .int (x1 + (h0 1 ((8 : Int32) + x2).toNatClampNeg)), .int (x2 + 1)] dX5_oldMean_38 rfl (zok_1 _) (by decide) rfl rfl ?_
        refine zr_goto 4 dX5_oldMean_41 (by decide) ?_
        exact ih4 _ _ hw
      · have hw := hw.2 q
        refine zr_iconst dX5_oldMean_23 zqk_0 ?_
        refine zr_goto 36 dX5_oldMean_24 (by decide) ?_
        refine zr_iadd dX5_oldMean_36 ?_
        refine zr_istore_n [.ref 0, .int (x1 + (0 : Int32)), .int x2] dX5_oldMean_37 rfl (by decide) rfl rfl ?_
        refine zr_iinc (x2 + 1) [.ref 0, .int (x1 + (0 : Int32)), .int (x2 + 1)] dX5_oldMean_38 rfl (zok_1 _) (by decide) rfl rfl ?_
        refine zr_goto 4 dX5_oldMean_41 (by decide) ?_
        exact ih4 _ _ hw
  have key4 : ∀ (t9 : Nat) (x1 : Int32) (x2 : Int32), zz_lp (fun K (s : Int32 × Int32) => wX5_oldMean_b4 h0 post K s.1 s.2) t9 (x1, x2) → zz_Go zz_M 0 cX5_oldMean RX5 3 (some .int) (zz_pu h0 post) 4 [] [.ref 0, .int x1, .int x2] h0 := by
    intro t9
    induction t9 with
    | zero => intro x1 x2 hw; exact hw.elim
    | succ t9 ih => intro x1 x2 hw; exact step4 _ ih _ _ hw
  exact key4 t9 _ _ hw
def wX5_newMean_j56 (h0 : zz_H) (post : Int32 → Prop) (x1 : Int32) : Prop :=
  ¬ (h0 1 17) = 0 ∧ (post (((10 : Int32) * x1) / (h0 1 17)))
def wX5_newMean_b12 (h0 : zz_H) (x2 : Int32) (K3 : Int32 × Int32 → Prop) (K6 : Int32 × Int32 → Prop) (x4 : Int32) (x5 : Int32) : Prop :=
  (((h0 1 17) ≤ x5) → (K3 (x4, (x2 + 1)))) ∧ ((¬ (h0 1 17) ≤ x5) → (vp_in ((8 : Int32) + x2) 245 ∧ ((((h0 1 ((8 : Int32) + x2).toNatClampNeg) < 0) → (K3 (x4, (x2 + 1)))) ∧ ((¬ (h0 1 ((8 : Int32) + x2).toNatClampNeg) < 0) → (wX5_score x5 x2 h0 (fun r7 => K6 ((x4 + r7), (x5 + 1))))))))
def wX5_newMean_b4 (h0 : zz_H) (post : Int32 → Prop) (K3 : Int32 × Int32 → Prop) (x1 : Int32) (x2 : Int32) : Prop :=
  (((8 : Int32) ≤ x2) → (wX5_newMean_j56 h0 post x1)) ∧ ((¬ (8 : Int32) ≤ x2) → (∃ t9, zz_lp (fun K (s : Int32 × Int32) => wX5_newMean_b12 h0 x2 K3 K s.1 s.2) t9 (x1, (0 : Int32))))
def wX5_newMean (h0 : zz_H) (post : Int32 → Prop) : Prop :=
  ∃ t9, zz_lp (fun K (s : Int32 × Int32) => wX5_newMean_b4 h0 post K s.1 s.2) t9 ((0 : Int32), (0 : Int32))
set_option maxRecDepth 20000 in
set_option maxHeartbeats 4000000 in
theorem ctX5_newMean (h0 : zz_H) (post : Int32 → Prop) (hw : wX5_newMean h0 post) : zz_Ct zz_M 2 yX5_newMean cX5_newMean 4 (some .int) [.ref 0] h0 (zz_pu h0 post) := by
  refine zz_ct (L := [.ref 0, .null, .null, .null]) (by decide +kernel) (Nat.le_of_ble_eq_true rfl) (fun ad q hq => hq) ?_
  show zz_Go zz_M 2 cX5_newMean RX5 4 (some .int) (zz_pu h0 post) 0 [] [.ref 0, .null, .null, .null] h0
  unfold wX5_newMean at hw
  refine zr_iconst dX5_newMean_0 zqk_0 ?_
  refine zr_istore_n [.ref 0, .int (0 : Int32), .null, .null] dX5_newMean_1 rfl (by decide) rfl rfl ?_
  refine zr_iconst dX5_newMean_2 zqk_0 ?_
  refine zr_istore_n [.ref 0, .int (0 : Int32), .int (0 : Int32), .null] dX5_newMean_3 rfl (by decide) rfl rfl ?_
  obtain ⟨t9, hw⟩ := hw
  have step4 : ∀ (K3 : Int32 × Int32 → Prop), (∀ (x1 : Int32) (x2 : Int32), K3 (x1, x2) → zz_Go zz_M 2 cX5_newMean RX5 4 (some .int) (zz_pu h0 post) 4 [] [.ref 0, .int x1, .int x2, .null] h0) → ∀ (x1 : Int32) (x2 : Int32), wX5_newMean_b4 h0 post K3 x1 x2 → zz_Go zz_M 2 cX5_newMean RX5 4 (some .int) (zz_pu h0 post) 4 [] [.ref 0, .int x1, .int x2, .null] h0 := by
    intro K3 ih4 x1 x2 hw
    unfold wX5_newMean_b4 at hw
    refine zr_iload_n dX5_newMean_4 rfl rfl ?_
    refine zr_bipush dX5_newMean_5 zbk_8 ?_
    have j56 : wX5_newMean_j56 h0 post x1 → zz_Go zz_M 2 cX5_newMean RX5 4 (some .int) (zz_pu h0 post) 56 [] [.ref 0, .int x1, .null, .null] h0 := by
      intro hw
      unfold wX5_newMean_j56 at hw
      refine zr_bipush dX5_newMean_56 zbk_10 ?_
      refine zr_iload_n dX5_newMean_58 rfl rfl ?_
      refine zr_imul dX5_newMean_59 ?_
      refine zr_aload_n dX5_newMean_60 rfl rfl ?_
      refine zr_getR zz_cX5 zz_M0 0 (by decide) rfl zf_X5_7 dX5_newMean_61 ?_
      refine zr_bipush dX5_newMean_64 zbk_17 ?_
      refine zr_iald zz_M1 (zz_vin (by decide)) (j := 17) (by decide) dX5_newMean_66 ?_
      obtain ⟨hne, hw⟩ := hw
      refine zr_idiv dX5_newMean_67 hne ?_
      exact zr_ret rfl rfl dX5_newMean_68 ⟨rfl, hw⟩
    refine zr_icmp_ge 56 dX5_newMean_7 (by decide) (fun q => ?_) (fun q => ?_)
    · have hw := hw.1 q
      refine zr_sub [.ref 0, .int x1, .null, .null] ⟨Or.inr rfl, ⟨Or.inr rfl, ⟨Or.inl rfl, ⟨Or.inl rfl, trivial⟩⟩⟩⟩ ?_
      exact j56 hw
    · have hw := hw.2 q
      refine zr_iconst dX5_newMean_10 zqk_0 ?_
      refine zr_istore_n [.ref 0, .int x1, .int x2, .int (0 : Int32)] dX5_newMean_11 rfl (by decide) rfl rfl ?_
      obtain ⟨t9, hw⟩ := hw
      have step12 : ∀ (K6 : Int32 × Int32 → Prop), (∀ (x4 : Int32) (x5 : Int32), K6 (x4, x5) → zz_Go zz_M 2 cX5_newMean RX5 4 (some .int) (zz_pu h0 post) 12 [] [.ref 0, .int x4, .int x2, .int x5] h0) → ∀ (x4 : Int32) (x5 : Int32), wX5_newMean_b12 h0 x2 K3 K6 x4 x5 → zz_Go zz_M 2 cX5_newMean RX5 4 (some .int) (zz_pu h0 post) 12 [] [.ref 0, .int x4, .int x2, .int x5] h0 := by
        intro K6 ih12 x4 x5 hw
        unfold wX5_newMean_b12 at hw
        refine zr_iload_n dX5_newMean_12 rfl rfl ?_
        refine zr_aload_n dX5_newMean_13 rfl rfl ?_
        refine zr_getR zz_cX5 zz_M0 0 (by decide) rfl zf_X5_7 dX5_newMean_14 ?_
        refine zr_bipush dX5_newMean_17 zbk_17 ?_
        refine zr_iald zz_M1 (zz_vin (by decide)) (j := 17) (by decide) dX5_newMean_19 ?_
        refine zr_icmp_ge 50 dX5_newMean_20 (by decide) (fun q => ?_) (fun q => ?_)
        · have hw := hw.1 q
          refine zr_iinc (x2 + 1) [.ref 0, .int x4, .int (x2 + 1), .int x5] dX5_newMean_50 rfl (zok_1 _) (by decide) rfl rfl ?_
          refine zr_goto 4 dX5_newMean_53 (by decide) ?_
          refine zr_sub [.ref 0, .int x4, .int (x2 + 1), .null] ⟨Or.inr rfl, ⟨Or.inr rfl, ⟨Or.inr rfl, ⟨Or.inl rfl, trivial⟩⟩⟩⟩ ?_
          exact ih4 _ _ hw
        · have hw := hw.2 q
          refine zr_aload_n dX5_newMean_23 rfl rfl ?_
          refine zr_getR zz_cX5 zz_M0 0 (by decide) rfl zf_X5_7 dX5_newMean_24 ?_
          refine zr_bipush dX5_newMean_27 zbk_8 ?_
          refine zr_iload_n dX5_newMean_29 rfl rfl ?_
          refine zr_iadd dX5_newMean_30 ?_
          obtain ⟨hi, hw⟩ := hw
          refine zr_iald zz_M1 hi rfl dX5_newMean_31 ?_
          refine zr_if_lt 50 dX5_newMean_32 (by decide) (fun q => ?_) (fun q => ?_)
          · have hw := hw.1 q
            refine zr_iinc (x2 + 1) [.ref 0, .int x4, .int (x2 + 1), .int x5] dX5_newMean_50 rfl (zok_1 _) (by decide) rfl rfl ?_
            refine zr_goto 4 dX5_newMean_53 (by decide) ?_
            refine zr_sub [.ref 0, .int x4, .int (x2 + 1), .null] ⟨Or.inr rfl, ⟨Or.inr rfl, ⟨Or.inr rfl, ⟨Or.inl rfl, trivial⟩⟩⟩⟩ ?_
            exact ih4 _ _ hw
          · have hw := hw.2 q
            refine zr_iload_n dX5_newMean_35 rfl rfl ?_
            refine zr_aload_n dX5_newMean_36 rfl rfl ?_
            refine zr_iload_n dX5_newMean_37 rfl rfl ?_
            refine zr_iload_n dX5_newMean_38 rfl rfl ?_
            refine zr_pVi zz_cX5 zz_M0 (ctX5_score x5 x2 h0 _ hw) zy_X5_score zm_X5_78 (by decide) rfl rfl (Nat.le_of_ble_eq_true rfl) dX5_newMean_39 (fun r7 hw => ?_)
            refine zr_iadd dX5_newMean_42 ?_
            refine zr_istore_n [.ref 0, .int (x4 + r7), .int x2, .int x5] dX5_newMean_43 rfl (by decide) rfl rfl ?_
            refine zr_iinc (x5 + 1) [.ref 0, .int (x4 + r7), .int x2, .int (x5 + 1)] dX5_newMean_44 rfl (zok_1 _) (by decide) rfl rfl ?_
            refine zr_goto 12 dX5_newMean_47 (by decide) ?_
            exact ih12 _ _ hw
      have key12 : ∀ (t9 : Nat) (x4 : Int32) (x5 : Int32), zz_lp (fun K (s : Int32 × Int32) => wX5_newMean_b12 h0 x2 K3 K s.1 s.2) t9 (x4, x5) → zz_Go zz_M 2 cX5_newMean RX5 4 (some .int) (zz_pu h0 post) 12 [] [.ref 0, .int x4, .int x2, .int x5] h0 := by
        intro t9
        induction t9 with
        | zero => intro x4 x5 hw; exact hw.elim
        | succ t9 ih => intro x4 x5 hw; exact step12 _ ih _ _ hw
      exact key12 t9 _ _ hw
  have key4 : ∀ (t9 : Nat) (x1 : Int32) (x2 : Int32), zz_lp (fun K (s : Int32 × Int32) => wX5_newMean_b4 h0 post K s.1 s.2) t9 (x1, x2) → zz_Go zz_M 2 cX5_newMean RX5 4 (some .int) (zz_pu h0 post) 4 [] [.ref 0, .int x1, .int x2, .null] h0 := by
    intro t9
    induction t9 with
    | zero => intro x1 x2 hw; exact hw.elim
    | succ t9 ih => intro x1 x2 hw; exact step4 _ ih _ _ hw
  exact key4 t9 _ _ hw
def wX5_commons_b4 (h0 : zz_H) (post : Int32 → Prop) (K3 : Int32 × Int32 → Prop) (x1 : Int32) (x2 : Int32) : Prop :=
  (((8 : Int32) ≤ x2) → (post x1)) ∧ ((¬ (8 : Int32) ≤ x2) → (vp_in ((8 : Int32) + x2) 245 ∧ (((0 ≤ (h0 1 ((8 : Int32) + x2).toNatClampNeg)) → (K3 ((x1 ||| ((1 : Int32) <<< (x2 &&& 31))), (x2 + 1)))) ∧ ((¬ 0 ≤ (h0 1 ((8 : Int32) + x2).toNatClampNeg)) → (K3 ((x1 ||| (0 : Int32)), (x2 + 1)))))))
def wX5_commons (h0 : zz_H) (post : Int32 → Prop) : Prop :=
  ∃ t9, zz_lp (fun K (s : Int32 × Int32) => wX5_commons_b4 h0 post K s.1 s.2) t9 ((0 : Int32), (0 : Int32))
set_option maxRecDepth 20000 in
set_option maxHeartbeats 4000000 in
theorem ctX5_commons (h0 : zz_H) (post : Int32 → Prop) (hw : wX5_commons h0 post) : zz_Ct zz_M 0 yX5_commons cX5_commons 3 (some .int) [.ref 0] h0 (zz_pu h0 post) := by
  refine zz_ct (L := [.ref 0, .null, .null]) (by decide +kernel) (Nat.le_of_ble_eq_true rfl) (fun ad q hq => hq) ?_
  show zz_Go zz_M 0 cX5_commons RX5 3 (some .int) (zz_pu h0 post) 0 [] [.ref 0, .null, .null] h0
  unfold wX5_commons at hw
  refine zr_iconst dX5_commons_0 zqk_0 ?_
  refine zr_istore_n [.ref 0, .int (0 : Int32), .null] dX5_commons_1 rfl (by decide) rfl rfl ?_
  refine zr_iconst dX5_commons_2 zqk_0 ?_
  refine zr_istore_n [.ref 0, .int (0 : Int32), .int (0 : Int32)] dX5_commons_3 rfl (by decide) rfl rfl ?_
  obtain ⟨t9, hw⟩ := hw
  have step4 : ∀ (K3 : Int32 × Int32 → Prop), (∀ (x1 : Int32) (x2 : Int32), K3 (x1, x2) → zz_Go zz_M 0 cX5_commons RX5 3 (some .int) (zz_pu h0 post) 4 [] [.ref 0, .int x1, .int x2] h0) → ∀ (x1 : Int32) (x2 : Int32), wX5_commons_b4 h0 post K3 x1 x2 → zz_Go zz_M 0 cX5_commons RX5 3 (some .int) (zz_pu h0 post) 4 [] [.ref 0, .int x1, .int x2] h0 := by
    intro K3 ih4 x1 x2 hw
    unfold wX5_commons_b4 at hw
    refine zr_iload_n dX5_commons_4 rfl rfl ?_
    refine zr_bipush dX5_commons_5 zbk_8 ?_
    refine zr_icmp_ge 38 dX5_commons_7 (by decide) (fun q => ?_) (fun q => ?_)
    · have hw := hw.1 q
      refine zr_iload_n dX5_commons_38 rfl rfl ?_
      exact zr_ret rfl rfl dX5_commons_39 ⟨rfl, hw⟩
    · have hw := hw.2 q
      refine zr_iload_n dX5_commons_10 rfl rfl ?_
      refine zr_aload_n dX5_commons_11 rfl rfl ?_
      refine zr_getR zz_cX5 zz_M0 0 (by decide) rfl zf_X5_7 dX5_commons_12 ?_
      refine zr_bipush dX5_commons_15 zbk_8 ?_
      refine zr_iload_n dX5_commons_17 rfl rfl ?_
      refine zr_iadd dX5_commons_18 ?_
      obtain ⟨hi, hw⟩ := hw
      refine zr_iald zz_M1 hi rfl dX5_commons_19 ?_
      refine zr_if_ge 27 dX5_commons_20 (by decide) (fun q => ?_) (fun q => ?_)
      · have hw := hw.1 q
        refine zr_iconst dX5_commons_27 zqk_1 ?_
        refine zr_iload_n dX5_commons_28 rfl rfl ?_
        refine zr_ishl dX5_commons_29 ?_
        refine zr_ior dX5_commons_30 ?_
        refine zr_istore_n [.ref 0, .int (x1 ||| ((1 : Int32) <<< (x2 &&& 31))), .int x2] dX5_commons_31 rfl (by decide) rfl rfl ?_
        refine zr_iinc (x2 + 1) [.ref 0, .int (x1 ||| ((1 : Int32) <<< (x2 &&& 31))), .int (x2 + 1)] dX5_commons_32 rfl (zok_1 _) (by decide) rfl rfl ?_
        refine zr_goto 4 dX5_commons_35 (by decide) ?_
        exact ih4 _ _ hw
      · have hw := hw.2 q
        refine zr_iconst dX5_commons_23 zqk_0 ?_
        refine zr_goto 30 dX5_commons_24 (by decide) ?_
        refine zr_ior dX5_commons_30 ?_
        refine zr_istore_n [.ref 0, .int (x1 ||| (0 : Int32)), .int x2] dX5_commons_31 rfl (by decide) rfl rfl ?_
        refine zr_iinc (x2 + 1) [.ref 0, .int (x1 ||| (0 : Int32)), .int (x2 + 1)] dX5_commons_32 rfl (zok_1 _) (by decide) rfl rfl ?_
        refine zr_goto 4 dX5_commons_35 (by decide) ?_
        exact ih4 _ _ hw
  have key4 : ∀ (t9 : Nat) (x1 : Int32) (x2 : Int32), zz_lp (fun K (s : Int32 × Int32) => wX5_commons_b4 h0 post K s.1 s.2) t9 (x1, x2) → zz_Go zz_M 0 cX5_commons RX5 3 (some .int) (zz_pu h0 post) 4 [] [.ref 0, .int x1, .int x2] h0 := by
    intro t9
    induction t9 with
    | zero => intro x1 x2 hw; exact hw.elim
    | succ t9 ih => intro x1 x2 hw; exact step4 _ ih _ _ hw
  exact key4 t9 _ _ hw
def wX5_paper_b106 (h0 : zz_H) (post : Int32 → zz_H → Prop) (K8 : Int32 × Int32 → Prop) (x6 : Int32) (x7 : Int32) : Prop :=
  (((h0 1 17) ≤ x7) → (post x6 h0)) ∧ ((¬ (h0 1 17) ≤ x7) → (wX5_raw x7 h0 (fun r9 => K8 ((x6 + r9), (x7 + 1)))))
def wX5_paper_j46 (p1 : Int32) (h0 : zz_H) (post : Int32 → zz_H → Prop) : Prop :=
  (p1 = (0 : Int32) → (wX5_full h0 (fun r2 => post r2 h0))) ∧ (p1 = (1 : Int32) → (wX5_greatest h0 (fun r3 => post r3 h0))) ∧ (p1 = (2 : Int32) → (wX5_oldMean h0 (fun r4 => post r4 h0))) ∧ (p1 = (3 : Int32) → (wX5_newMean h0 (fun r5 => post r5 h0))) ∧ (p1 = (4 : Int32) → (∃ t9, zz_lp (fun K (s : Int32 × Int32) => wX5_paper_b106 h0 post K s.1 s.2) t9 ((0 : Int32), (0 : Int32)))) ∧ ((¬ p1 = (0 : Int32)) → (¬ p1 = (1 : Int32)) → (¬ p1 = (2 : Int32)) → (¬ p1 = (3 : Int32)) → (¬ p1 = (4 : Int32)) → (wX5_commons h0 (fun r10 => post r10 h0)))
def wX5_paper (p1 : Int32) (h0 : zz_H) (post : Int32 → zz_H → Prop) : Prop :=
  wX5_in (p1.toInt64) (0 : Int64) (5 : Int64) h0 (fun r1 => ((¬ r1 = 0) → (((¬ (h0 1 17) = 0) → (wX5_paper_j46 p1 h0 post)) ∧ (((h0 1 17) = 0) → (((p1 = (1 : Int32)) → (wX5_finds ((-1000004) : Int32) h0 (fun r12 h11 => post r12 h11))) ∧ ((¬ p1 = (1 : Int32)) → (((¬ p1 = (3 : Int32)) → (wX5_paper_j46 p1 h0 post)) ∧ ((p1 = (3 : Int32)) → (wX5_finds ((-1000004) : Int32) h0 (fun r14 h13 => post r14 h13))))))))) ∧ ((r1 = 0) → (wX5_finds ((-1000001) : Int32) h0 (fun r16 h15 => post r16 h15))))
set_option maxRecDepth 20000 in
set_option maxHeartbeats 4000000 in
theorem ctX5_paper (p1 : Int32) (h0 : zz_H) (post : Int32 → zz_H → Prop) (hw : wX5_paper p1 h0 post) : zz_Ct zz_M 4 yX5_paper cX5_paper 4 (some .int) [.ref 0, .int p1] h0 post := by
  refine zz_ct (L := [.ref 0, .int p1, .null, .null]) (by decide +kernel) (Nat.le_of_ble_eq_true rfl) (fun ad q hq => hq) ?_
  show zz_Go zz_M 4 cX5_paper RX5 4 (some .int) post 0 [] [.ref 0, .int p1, .null, .null] h0
  unfold wX5_paper at hw
  refine zr_iload_n dX5_paper_0 rfl rfl ?_
  refine zr_i2l dX5_paper_1 ?_
  refine zr_lconst (v := 0) dX5_paper_2 (by decide) ?_
  refine zr_ldc2 zl_X5_87 dX5_paper_3 ?_
  refine zr_pSi (ctX5_in (p1.toInt64) (0 : Int64) (5 : Int64) h0 _ hw) zy_X5_in zm_X5_43 (by decide) rfl rfl (Nat.le_of_ble_eq_true rfl) dX5_paper_6 (fun r1 hw => ?_)
  refine zr_if_ne 19 dX5_paper_9 (by decide) (fun q => ?_) (fun q => ?_)
  · have hw := hw.1 q
    refine zr_aload_n dX5_paper_19 rfl rfl ?_
    refine zr_getR zz_cX5 zz_M0 0 (by decide) rfl zf_X5_7 dX5_paper_20 ?_
    refine zr_bipush dX5_paper_23 zbk_17 ?_
    refine zr_iald zz_M1 (zz_vin (by decide)) (j := 17) (by decide) dX5_paper_25 ?_
    have j46 : wX5_paper_j46 p1 h0 post → zz_Go zz_M 4 cX5_paper RX5 4 (some .int) post 46 [] [.ref 0, .int p1, .null, .null] h0 := by
      intro hw
      unfold wX5_paper_j46 at hw
      refine zr_iconst dX5_paper_46 zqk_0 ?_
      refine zr_istore_n [.ref 0, .int p1, .int (0 : Int32), .null] dX5_paper_47 rfl (by decide) rfl rfl ?_
      refine zr_iload_n dX5_paper_48 rfl rfl ?_
      by_cases q0 : p1 = (0 : Int32)
      · have hw := hw.1 q0
        refine zr_tabIn 84 dX5_paper_49 (by rw [q0]; decide) (by rw [q0]; decide) (off := 35) (by rw [q0]; decide) (by decide) ?_
        refine zr_aload_n dX5_paper_84 rfl rfl ?_
        refine zr_pVi zz_cX5 zz_M0 (ctX5_full h0 _ hw) zy_X5_full zm_X5_90 (by decide) rfl rfl (Nat.le_of_ble_eq_true rfl) dX5_paper_85 (fun r2 hw => ?_)
        exact zr_ret rfl rfl dX5_paper_88 hw
      by_cases q1 : p1 = (1 : Int32)
      · have hw := hw.2.1 q1
        refine zr_tabIn 89 dX5_paper_49 (by rw [q1]; decide) (by rw [q1]; decide) (off := 40) (by rw [q1]; decide) (by decide) ?_
        refine zr_aload_n dX5_paper_89 rfl rfl ?_
        refine zr_pVi zz_cX5 zz_M0 (ctX5_greatest h0 _ hw) zy_X5_greatest zm_X5_94 (by decide) rfl rfl (Nat.le_of_ble_eq_true rfl) dX5_paper_90 (fun r3 hw => ?_)
        exact zr_ret rfl rfl dX5_paper_93 hw
      by_cases q2 : p1 = (2 : Int32)
      · have hw := hw.2.2.1 q2
        refine zr_tabIn 94 dX5_paper_49 (by rw [q2]; decide) (by rw [q2]; decide) (off := 45) (by rw [q2]; decide) (by decide) ?_
        refine zr_aload_n dX5_paper_94 rfl rfl ?_
        refine zr_pVi zz_cX5 zz_M0 (ctX5_oldMean h0 _ hw) zy_X5_oldMean zm_X5_97 (by decide) rfl rfl (Nat.le_of_ble_eq_true rfl) dX5_paper_95 (fun r4 hw => ?_)
        exact zr_ret rfl rfl dX5_paper_98 hw
      by_cases q3 : p1 = (3 : Int32)
      · have hw := hw.2.2.2.1 q3
        refine zr_tabIn 99 dX5_paper_49 (by rw [q3]; decide) (by rw [q3]; decide) (off := 50) (by rw [q3]; decide) (by decide) ?_
        refine zr_aload_n dX5_paper_99 rfl rfl ?_
        refine zr_pVi zz_cX5 zz_M0 (ctX5_newMean h0 _ hw) zy_X5_newMean zm_X5_100 (by decide) rfl rfl (Nat.le_of_ble_eq_true rfl) dX5_paper_100 (fun r5 hw => ?_)
        exact zr_ret rfl rfl dX5_paper_103 hw
      by_cases q4 : p1 = (4 : Int32)
      · have hw := hw.2.2.2.2.1 q4
        refine zr_tabIn 104 dX5_paper_49 (by rw [q4]; decide) (by rw [q4]; decide) (off := 55) (by rw [q4]; decide) (by decide) ?_
        refine zr_iconst dX5_paper_104 zqk_0 ?_
        refine zr_istore_n [.ref 0, .int p1, .int (0 : Int32), .int (0 : Int32)] dX5_paper_105 rfl (by decide) rfl rfl ?_
        refine zr_sub [.ref 0, .null, .int (0 : Int32), .int (0 : Int32)] ⟨Or.inr rfl, ⟨Or.inl rfl, ⟨Or.inr rfl, ⟨Or.inr rfl, trivial⟩⟩⟩⟩ ?_
        obtain ⟨t9, hw⟩ := hw
        have step106 : ∀ (K8 : Int32 × Int32 → Prop), (∀ (x6 : Int32) (x7 : Int32), K8 (x6, x7) → zz_Go zz_M 4 cX5_paper RX5 4 (some .int) post 106 [] [.ref 0, .null, .int x6, .int x7] h0) → ∀ (x6 : Int32) (x7 : Int32), wX5_paper_b106 h0 post K8 x6 x7 → zz_Go zz_M 4 cX5_paper RX5 4 (some .int) post 106 [] [.ref 0, .null, .int x6, .int x7] h0 := by
          intro K8 ih106 x6 x7 hw
          unfold wX5_paper_b106 at hw
          refine zr_iload_n dX5_paper_106 rfl rfl ?_
          refine zr_aload_n dX5_paper_107 rfl rfl ?_
          refine zr_getR zz_cX5 zz_M0 0 (by decide) rfl zf_X5_7 dX5_paper_108 ?_
          refine zr_bipush dX5_paper_111 zbk_17 ?_
          refine zr_iald zz_M1 (zz_vin (by decide)) (j := 17) (by decide) dX5_paper_113 ?_
          refine zr_icmp_ge 131 dX5_paper_114 (by decide) (fun q => ?_) (fun q => ?_)
          · have hw := hw.1 q
            refine zr_iload_n dX5_paper_131 rfl rfl ?_
            exact zr_ret rfl rfl dX5_paper_132 hw
          · have hw := hw.2 q
            refine zr_iload_n dX5_paper_117 rfl rfl ?_
            refine zr_aload_n dX5_paper_118 rfl rfl ?_
            refine zr_iload_n dX5_paper_119 rfl rfl ?_
            refine zr_pVi zz_cX5 zz_M0 (ctX5_raw x7 h0 _ hw) zy_X5_raw zm_X5_84 (by decide) rfl rfl (Nat.le_of_ble_eq_true rfl) dX5_paper_120 (fun r9 hw => ?_)
            refine zr_iadd dX5_paper_123 ?_
            refine zr_istore_n [.ref 0, .null, .int (x6 + r9), .int x7] dX5_paper_124 rfl (by decide) rfl rfl ?_
            refine zr_iinc (x7 + 1) [.ref 0, .null, .int (x6 + r9), .int (x7 + 1)] dX5_paper_125 rfl (zok_1 _) (by decide) rfl rfl ?_
            refine zr_goto 106 dX5_paper_128 (by decide) ?_
            exact ih106 _ _ hw
        have key106 : ∀ (t9 : Nat) (x6 : Int32) (x7 : Int32), zz_lp (fun K (s : Int32 × Int32) => wX5_paper_b106 h0 post K s.1 s.2) t9 (x6, x7) → zz_Go zz_M 4 cX5_paper RX5 4 (some .int) post 106 [] [.ref 0, .null, .int x6, .int x7] h0 := by
          intro t9
          induction t9 with
          | zero => intro x6 x7 hw; exact hw.elim
          | succ t9 ih => intro x6 x7 hw; exact step106 _ ih _ _ hw
        exact key106 t9 _ _ hw
      have hw := hw.2.2.2.2.2 q0 q1 q2 q3 q4
      refine zr_tabOut 133 dX5_paper_49 (zz_tout (fun j h1 h2 => by rcases (show j = 0 ∨ j = 1 ∨ j = 2 ∨ j = 3 ∨ j = 4 by omega) with rfl | rfl | rfl | rfl | rfl <;> first | exact fun e => q0 (e.trans zqk_0) | exact fun e => q1 (e.trans zqk_1) | exact fun e => q2 (e.trans zqk_2) | exact fun e => q3 (e.trans zqk_3) | exact fun e => q4 (e.trans zqk_4))) (by decide) ?_
      refine zr_aload_n dX5_paper_133 rfl rfl ?_
      refine zr_pVi zz_cX5 zz_M0 (ctX5_commons h0 _ hw) zy_X5_commons zm_X5_103 (by decide) rfl rfl (Nat.le_of_ble_eq_true rfl) dX5_paper_134 (fun r10 hw => ?_)
      exact zr_ret rfl rfl dX5_paper_137 hw
    refine zr_if_ne 46 dX5_paper_26 (by decide) (fun q => ?_) (fun q => ?_)
    · have hw := hw.1 q
      exact j46 hw
    · have hw := hw.2 q
      refine zr_iload_n dX5_paper_29 rfl rfl ?_
      refine zr_iconst dX5_paper_30 zqk_1 ?_
      refine zr_icmp_eq 39 dX5_paper_31 (by decide) (fun q => ?_) (fun q => ?_)
      · have hw := hw.1 q
        refine zr_aload_n dX5_paper_39 rfl rfl ?_
        refine zr_ldc zk_X5_89 dX5_paper_40 ?_
        refine zr_callVi zz_cX5 zz_M0 (ctX5_finds ((-1000004) : Int32) h0 _ hw) zy_X5_finds zm_X5_59 (by decide) rfl rfl (Nat.le_of_ble_eq_true rfl) dX5_paper_42 (fun r12 h11 hw => ?_)
        exact zr_ret rfl rfl dX5_paper_45 hw
      · have hw := hw.2 q
        refine zr_iload_n dX5_paper_34 rfl rfl ?_
        refine zr_iconst dX5_paper_35 zqk_3 ?_
        refine zr_icmp_ne 46 dX5_paper_36 (by decide) (fun q => ?_) (fun q => ?_)
        · have hw := hw.1 q
          exact j46 hw
        · have hw := hw.2 q
          refine zr_aload_n dX5_paper_39 rfl rfl ?_
          refine zr_ldc zk_X5_89 dX5_paper_40 ?_
          refine zr_callVi zz_cX5 zz_M0 (ctX5_finds ((-1000004) : Int32) h0 _ hw) zy_X5_finds zm_X5_59 (by decide) rfl rfl (Nat.le_of_ble_eq_true rfl) dX5_paper_42 (fun r14 h13 hw => ?_)
          exact zr_ret rfl rfl dX5_paper_45 hw
  · have hw := hw.2 q
    refine zr_aload_n dX5_paper_12 rfl rfl ?_
    refine zr_ldc zk_X5_40 dX5_paper_13 ?_
    refine zr_callVi zz_cX5 zz_M0 (ctX5_finds ((-1000001) : Int32) h0 _ hw) zy_X5_finds zm_X5_59 (by decide) rfl rfl (Nat.le_of_ble_eq_true rfl) dX5_paper_15 (fun r16 h15 hw => ?_)
    exact zr_ret rfl rfl dX5_paper_18 hw
def wX5_drawn_b27 (p1 : Int32) (p2 : Int32) (post : Int32 → zz_H → Prop) (K7 : Int32 × zz_H → Prop) (x5 : Int32) (h6 : zz_H) : Prop :=
  (((8 : Int32) ≤ x5) → (wX5_raw p1 h6 (fun r8 => post r8 h6))) ∧ ((¬ (8 : Int32) ≤ x5) → (zz_sto h6 1 (upd (h6 1) 16 (((h6 1 16) * (1103515245 : Int32)) + (12345 : Int32))) (fun h9 => wX5_at p1 p2 x5 h9 (fun r10 => vp_in ((0 : Int32) + x5) 245 ∧ (¬ ((h9 1 ((0 : Int32) + x5).toNatClampNeg) + (1 : Int32)) = 0 ∧ (vp_in r10 245 ∧ zz_sto h9 1 (upd (h9 1) r10.toNatClampNeg (zz_rem (zz_ushr (h9 1 16) (8 : Int32)) ((h9 1 ((0 : Int32) + x5).toNatClampNeg) + (1 : Int32)))) (fun h11 => K7 ((x5 + 1), h11))))))))
def wX5_drawn (p1 : Int32) (p2 : Int32) (h0 : zz_H) (post : Int32 → zz_H → Prop) : Prop :=
  wX5_isPupil p1 h0 (fun r1 => ((r1 = 0) → (wX5_finds ((-1000001) : Int32) h0 (fun r3 h2 => post r3 h2))) ∧ ((¬ r1 = 0) → (wX5_in (p2.toInt64) (0 : Int64) (1 : Int64) h0 (fun r4 => ((¬ r4 = 0) → (∃ t9, zz_lp (fun K (s : Int32 × zz_H) => wX5_drawn_b27 p1 p2 post K s.1 s.2) t9 ((0 : Int32), h0))) ∧ ((r4 = 0) → (wX5_finds ((-1000001) : Int32) h0 (fun r13 h12 => post r13 h12)))))))
set_option maxRecDepth 20000 in
set_option maxHeartbeats 4000000 in
theorem ctX5_drawn (p1 : Int32) (p2 : Int32) (h0 : zz_H) (post : Int32 → zz_H → Prop) (hw : wX5_drawn p1 p2 h0 post) : zz_Ct zz_M 3 yX5_drawn cX5_drawn 4 (some .int) [.ref 0, .int p1, .int p2] h0 post := by
  refine zz_ct (L := [.ref 0, .int p1, .int p2, .null]) (by decide +kernel) (Nat.le_of_ble_eq_true rfl) (fun ad q hq => hq) ?_
  show zz_Go zz_M 3 cX5_drawn RX5 4 (some .int) post 0 [] [.ref 0, .int p1, .int p2, .null] h0
  unfold wX5_drawn at hw
  refine zr_aload_n dX5_drawn_0 rfl rfl ?_
  refine zr_iload_n dX5_drawn_1 rfl rfl ?_
  refine zr_pVi zz_cX5 zz_M0 (ctX5_isPupil p1 h0 _ hw) zy_X5_isPupil zm_X5_75 (by decide) rfl rfl (Nat.le_of_ble_eq_true rfl) dX5_drawn_2 (fun r1 hw => ?_)
  refine zr_if_eq 18 dX5_drawn_5 (by decide) (fun q => ?_) (fun q => ?_)
  · have hw := hw.1 q
    refine zr_aload_n dX5_drawn_18 rfl rfl ?_
    refine zr_ldc zk_X5_40 dX5_drawn_19 ?_
    refine zr_callVi zz_cX5 zz_M0 (ctX5_finds ((-1000001) : Int32) h0 _ hw) zy_X5_finds zm_X5_59 (by decide) rfl rfl (Nat.le_of_ble_eq_true rfl) dX5_drawn_21 (fun r3 h2 hw => ?_)
    exact zr_ret rfl rfl dX5_drawn_24 hw
  · have hw := hw.2 q
    refine zr_iload_n dX5_drawn_8 rfl rfl ?_
    refine zr_i2l dX5_drawn_9 ?_
    refine zr_lconst (v := 0) dX5_drawn_10 (by decide) ?_
    refine zr_lconst (v := 1) dX5_drawn_11 (by decide) ?_
    refine zr_pSi (ctX5_in (p2.toInt64) (0 : Int64) (1 : Int64) h0 _ hw) zy_X5_in zm_X5_43 (by decide) rfl rfl (Nat.le_of_ble_eq_true rfl) dX5_drawn_12 (fun r4 hw => ?_)
    refine zr_if_ne 25 dX5_drawn_15 (by decide) (fun q => ?_) (fun q => ?_)
    · have hw := hw.1 q
      refine zr_iconst dX5_drawn_25 zqk_0 ?_
      refine zr_istore_n [.ref 0, .int p1, .int p2, .int (0 : Int32)] dX5_drawn_26 rfl (by decide) rfl rfl ?_
      obtain ⟨t9, hw⟩ := hw
      have step27 : ∀ (K7 : Int32 × zz_H → Prop), (∀ (x5 : Int32) (h6 : zz_H), K7 (x5, h6) → zz_Go zz_M 3 cX5_drawn RX5 4 (some .int) post 27 [] [.ref 0, .int p1, .int p2, .int x5] h6) → ∀ (x5 : Int32) (h6 : zz_H), wX5_drawn_b27 p1 p2 post K7 x5 h6 → zz_Go zz_M 3 cX5_drawn RX5 4 (some .int) post 27 [] [.ref 0, .int p1, .int p2, .int x5] h6 := by
        intro K7 ih27 x5 h6 hw
        unfold wX5_drawn_b27 at hw
        refine zr_iload_n dX5_drawn_27 rfl rfl ?_
        refine zr_bipush dX5_drawn_28 zbk_8 ?_
        refine zr_icmp_ge 92 dX5_drawn_30 (by decide) (fun q => ?_) (fun q => ?_)
        · have hw := hw.1 q
          refine zr_aload_n dX5_drawn_92 rfl rfl ?_
          refine zr_iload_n dX5_drawn_93 rfl rfl ?_
          refine zr_pVi zz_cX5 zz_M0 (ctX5_raw p1 h6 _ hw) zy_X5_raw zm_X5_84 (by decide) rfl rfl (Nat.le_of_ble_eq_true rfl) dX5_drawn_94 (fun r8 hw => ?_)
          exact zr_ret rfl rfl dX5_drawn_97 hw
        · have hw := hw.2 q
          refine zr_aload_n dX5_drawn_33 rfl rfl ?_
          refine zr_getR zz_cX5 zz_M0 0 (by decide) rfl zf_X5_7 dX5_drawn_34 ?_
          refine zr_bipush dX5_drawn_37 zbk_16 ?_
          refine zr_aload_n dX5_drawn_39 rfl rfl ?_
          refine zr_getR zz_cX5 zz_M0 0 (by decide) rfl zf_X5_7 dX5_drawn_40 ?_
          refine zr_bipush dX5_drawn_43 zbk_16 ?_
          refine zr_iald zz_M1 (zz_vin (by decide)) (j := 16) (by decide) dX5_drawn_45 ?_
          refine zr_ldc zk_X5_106 dX5_drawn_46 ?_
          refine zr_imul dX5_drawn_48 ?_
          refine zr_sipush dX5_drawn_49 zhk_12345 ?_
          refine zr_iadd dX5_drawn_52 ?_
          refine zr_iast zz_M1 (zz_vin (by decide)) (j := 16) (by decide) dX5_drawn_53 hw (fun h9 hw => ?_)
          refine zr_aload_n dX5_drawn_54 rfl rfl ?_
          refine zr_getR zz_cX5 zz_M0 0 (by decide) rfl zf_X5_7 dX5_drawn_55 ?_
          refine zr_iload_n dX5_drawn_58 rfl rfl ?_
          refine zr_iload_n dX5_drawn_59 rfl rfl ?_
          refine zr_iload_n dX5_drawn_60 rfl rfl ?_
          refine zr_pSi (ctX5_at p1 p2 x5 h9 _ hw) zy_X5_at zm_X5_49 (by decide) rfl rfl (Nat.le_of_ble_eq_true rfl) dX5_drawn_61 (fun r10 hw => ?_)
          refine zr_aload_n dX5_drawn_64 rfl rfl ?_
          refine zr_getR zz_cX5 zz_M0 0 (by decide) rfl zf_X5_7 dX5_drawn_65 ?_
          refine zr_bipush dX5_drawn_68 zbk_16 ?_
          refine zr_iald zz_M1 (zz_vin (by decide)) (j := 16) (by decide) dX5_drawn_70 ?_
          refine zr_bipush dX5_drawn_71 zbk_8 ?_
          refine zr_iushr dX5_drawn_73 ?_
          refine zr_aload_n dX5_drawn_74 rfl rfl ?_
          refine zr_getR zz_cX5 zz_M0 0 (by decide) rfl zf_X5_7 dX5_drawn_75 ?_
          refine zr_iconst dX5_drawn_78 zqk_0 ?_
          refine zr_iload_n dX5_drawn_79 rfl rfl ?_
          refine zr_iadd dX5_drawn_80 ?_
          obtain ⟨hi, hw⟩ := hw
          refine zr_iald zz_M1 hi rfl dX5_drawn_81 ?_
          refine zr_iconst dX5_drawn_82 zqk_1 ?_
          refine zr_iadd dX5_drawn_83 ?_
          obtain ⟨hne, hw⟩ := hw
          refine zr_irem dX5_drawn_84 hne ?_
          obtain ⟨hi, hw⟩ := hw
          refine zr_iast zz_M1 hi rfl dX5_drawn_85 hw (fun h11 hw => ?_)
          refine zr_iinc (x5 + 1) [.ref 0, .int p1, .int p2, .int (x5 + 1)] dX5_drawn_86 rfl (zok_1 _) (by decide) rfl rfl ?_
          refine zr_goto 27 dX5_drawn_89 (by decide) ?_
          exact ih27 _ _ hw
      have key27 : ∀ (t9 : Nat) (x5 : Int32) (h6 : zz_H), zz_lp (fun K (s : Int32 × zz_H) => wX5_drawn_b27 p1 p2 post K s.1 s.2) t9 (x5, h6) → zz_Go zz_M 3 cX5_drawn RX5 4 (some .int) post 27 [] [.ref 0, .int p1, .int p2, .int x5] h6 := by
        intro t9
        induction t9 with
        | zero => intro x5 h6 hw; exact hw.elim
        | succ t9 ih => intro x5 h6 hw; exact step27 _ ih _ _ hw
      exact key27 t9 _ _ hw
    · have hw := hw.2 q
      refine zr_aload_n dX5_drawn_18 rfl rfl ?_
      refine zr_ldc zk_X5_40 dX5_drawn_19 ?_
      refine zr_callVi zz_cX5 zz_M0 (ctX5_finds ((-1000001) : Int32) h0 _ hw) zy_X5_finds zm_X5_59 (by decide) rfl rfl (Nat.le_of_ble_eq_true rfl) dX5_drawn_21 (fun r13 h12 hw => ?_)
      exact zr_ret rfl rfl dX5_drawn_24 hw
def wX5_drop (h0 : zz_H) (post : Int32 → zz_H → Prop) : Prop :=
  ((¬ (h0 1 17) = 0) → (zz_sto h0 1 (upd (h0 1) 17 ((h0 1 17) - (1 : Int32))) (fun h1 => post (h1 1 17) h1))) ∧ (((h0 1 17) = 0) → (wX5_finds ((-1000004) : Int32) h0 (fun r3 h2 => post r3 h2)))
set_option maxRecDepth 20000 in
set_option maxHeartbeats 4000000 in
theorem ctX5_drop (h0 : zz_H) (post : Int32 → zz_H → Prop) (hw : wX5_drop h0 post) : zz_Ct zz_M 1 yX5_drop cX5_drop 1 (some .int) [.ref 0] h0 post := by
  refine zz_ct (L := [.ref 0]) (by decide +kernel) (Nat.le_of_ble_eq_true rfl) (fun ad q hq => hq) ?_
  show zz_Go zz_M 1 cX5_drop RX5 1 (some .int) post 0 [] [.ref 0] h0
  unfold wX5_drop at hw
  refine zr_aload_n dX5_drop_0 rfl rfl ?_
  refine zr_getR zz_cX5 zz_M0 0 (by decide) rfl zf_X5_7 dX5_drop_1 ?_
  refine zr_bipush dX5_drop_4 zbk_17 ?_
  refine zr_iald zz_M1 (zz_vin (by decide)) (j := 17) (by decide) dX5_drop_6 ?_
  refine zr_if_ne 17 dX5_drop_7 (by decide) (fun q => ?_) (fun q => ?_)
  · have hw := hw.1 q
    refine zr_aload_n dX5_drop_17 rfl rfl ?_
    refine zr_getR zz_cX5 zz_M0 0 (by decide) rfl zf_X5_7 dX5_drop_18 ?_
    refine zr_bipush dX5_drop_21 zbk_17 ?_
    refine zr_dup2 dX5_drop_23 rfl rfl ?_
    refine zr_iald zz_M1 (zz_vin (by decide)) (j := 17) (by decide) dX5_drop_24 ?_
    refine zr_iconst dX5_drop_25 zqk_1 ?_
    refine zr_isub dX5_drop_26 ?_
    refine zr_iast zz_M1 (zz_vin (by decide)) (j := 17) (by decide) dX5_drop_27 hw (fun h1 hw => ?_)
    refine zr_aload_n dX5_drop_28 rfl rfl ?_
    refine zr_getR zz_cX5 zz_M0 0 (by decide) rfl zf_X5_7 dX5_drop_29 ?_
    refine zr_bipush dX5_drop_32 zbk_17 ?_
    refine zr_iald zz_M1 (zz_vin (by decide)) (j := 17) (by decide) dX5_drop_34 ?_
    exact zr_ret rfl rfl dX5_drop_35 hw
  · have hw := hw.2 q
    refine zr_aload_n dX5_drop_10 rfl rfl ?_
    refine zr_ldc zk_X5_89 dX5_drop_11 ?_
    refine zr_callVi zz_cX5 zz_M0 (ctX5_finds ((-1000004) : Int32) h0 _ hw) zy_X5_finds zm_X5_59 (by decide) rfl rfl (Nat.le_of_ble_eq_true rfl) dX5_drop_13 (fun r3 h2 hw => ?_)
    exact zr_ret rfl rfl dX5_drop_16 hw
def wX5_newCurve (p1 : Int32) (p2 : Int32) (h0 : zz_H) (post : Int32 → zz_H → Prop) : Prop :=
  vp_in ((223 : Int32) + ((2 : Int32) * (h0 1 18))) 245 ∧ zz_sto h0 1 (upd (h0 1) ((223 : Int32) + ((2 : Int32) * (h0 1 18))).toNatClampNeg p1) (fun h1 => vp_in (((223 : Int32) + ((2 : Int32) * (h1 1 18))) + (1 : Int32)) 245 ∧ zz_sto h1 1 (upd (h1 1) (((223 : Int32) + ((2 : Int32) * (h1 1 18))) + (1 : Int32)).toNatClampNeg p2) (fun h2 => zz_sto h2 1 (upd (h2 1) 18 ((h2 1 18) + (1 : Int32))) (fun h3 => post ((h3 1 18) - (1 : Int32)) h3)))
set_option maxRecDepth 20000 in
set_option maxHeartbeats 4000000 in
theorem ctX5_newCurve (p1 : Int32) (p2 : Int32) (h0 : zz_H) (post : Int32 → zz_H → Prop) (hw : wX5_newCurve p1 p2 h0 post) : zz_Ct zz_M 0 yX5_newCurve cX5_newCurve 3 (some .int) [.ref 0, .int p1, .int p2] h0 post := by
  refine zz_ct (L := [.ref 0, .int p1, .int p2]) (by decide +kernel) (Nat.le_of_ble_eq_true rfl) (fun ad q hq => hq) ?_
  show zz_Go zz_M 0 cX5_newCurve RX5 3 (some .int) post 0 [] [.ref 0, .int p1, .int p2] h0
  unfold wX5_newCurve at hw
  refine zr_aload_n dX5_newCurve_0 rfl rfl ?_
  refine zr_getR zz_cX5 zz_M0 0 (by decide) rfl zf_X5_7 dX5_newCurve_1 ?_
  refine zr_sipush dX5_newCurve_4 zhk_223 ?_
  refine zr_iconst dX5_newCurve_7 zqk_2 ?_
  refine zr_aload_n dX5_newCurve_8 rfl rfl ?_
  refine zr_getR zz_cX5 zz_M0 0 (by decide) rfl zf_X5_7 dX5_newCurve_9 ?_
  refine zr_bipush dX5_newCurve_12 zbk_18 ?_
  refine zr_iald zz_M1 (zz_vin (by decide)) (j := 18) (by decide) dX5_newCurve_14 ?_
  refine zr_imul dX5_newCurve_15 ?_
  refine zr_iadd dX5_newCurve_16 ?_
  refine zr_iload_n dX5_newCurve_17 rfl rfl ?_
  obtain ⟨hi, hw⟩ := hw
  refine zr_iast zz_M1 hi rfl dX5_newCurve_18 hw (fun h1 hw => ?_)
  refine zr_aload_n dX5_newCurve_19 rfl rfl ?_
  refine zr_getR zz_cX5 zz_M0 0 (by decide) rfl zf_X5_7 dX5_newCurve_20 ?_
  refine zr_sipush dX5_newCurve_23 zhk_223 ?_
  refine zr_iconst dX5_newCurve_26 zqk_2 ?_
  refine zr_aload_n dX5_newCurve_27 rfl rfl ?_
  refine zr_getR zz_cX5 zz_M0 0 (by decide) rfl zf_X5_7 dX5_newCurve_28 ?_
  refine zr_bipush dX5_newCurve_31 zbk_18 ?_
  refine zr_iald zz_M1 (zz_vin (by decide)) (j := 18) (by decide) dX5_newCurve_33 ?_
  refine zr_imul dX5_newCurve_34 ?_
  refine zr_iadd dX5_newCurve_35 ?_
  refine zr_iconst dX5_newCurve_36 zqk_1 ?_
  refine zr_iadd dX5_newCurve_37 ?_
  refine zr_iload_n dX5_newCurve_38 rfl rfl ?_
  obtain ⟨hi, hw⟩ := hw
  refine zr_iast zz_M1 hi rfl dX5_newCurve_39 hw (fun h2 hw => ?_)
  refine zr_aload_n dX5_newCurve_40 rfl rfl ?_
  refine zr_getR zz_cX5 zz_M0 0 (by decide) rfl zf_X5_7 dX5_newCurve_41 ?_
  refine zr_bipush dX5_newCurve_44 zbk_18 ?_
  refine zr_dup2 dX5_newCurve_46 rfl rfl ?_
  refine zr_iald zz_M1 (zz_vin (by decide)) (j := 18) (by decide) dX5_newCurve_47 ?_
  refine zr_iconst dX5_newCurve_48 zqk_1 ?_
  refine zr_iadd dX5_newCurve_49 ?_
  refine zr_iast zz_M1 (zz_vin (by decide)) (j := 18) (by decide) dX5_newCurve_50 hw (fun h3 hw => ?_)
  refine zr_aload_n dX5_newCurve_51 rfl rfl ?_
  refine zr_getR zz_cX5 zz_M0 0 (by decide) rfl zf_X5_7 dX5_newCurve_52 ?_
  refine zr_bipush dX5_newCurve_55 zbk_18 ?_
  refine zr_iald zz_M1 (zz_vin (by decide)) (j := 18) (by decide) dX5_newCurve_57 ?_
  refine zr_iconst dX5_newCurve_58 zqk_1 ?_
  refine zr_isub dX5_newCurve_59 ?_
  exact zr_ret rfl rfl dX5_newCurve_60 hw
def wX5_curve (p1 : Int32) (p2 : Int32) (h0 : zz_H) (post : Int32 → zz_H → Prop) : Prop :=
  wX5_in (p1.toInt64) (0 : Int64) (6 : Int64) h0 (fun r1 => ((r1 = 0) → (wX5_finds ((-1000001) : Int32) h0 (fun r3 h2 => post r3 h2))) ∧ ((¬ r1 = 0) → (wX5_in (p2.toInt64) (0 : Int64) (100 : Int64) h0 (fun r4 => ((¬ r4 = 0) → (((¬ (h0 1 18) = (6 : Int32)) → (wX5_newCurve p1 p2 h0 (fun r6 h5 => post r6 h5))) ∧ (((h0 1 18) = (6 : Int32)) → (wX5_finds ((-1000002) : Int32) h0 (fun r8 h7 => post r8 h7))))) ∧ ((r4 = 0) → (wX5_finds ((-1000001) : Int32) h0 (fun r10 h9 => post r10 h9)))))))
set_option maxRecDepth 20000 in
set_option maxHeartbeats 4000000 in
theorem ctX5_curve (p1 : Int32) (p2 : Int32) (h0 : zz_H) (post : Int32 → zz_H → Prop) (hw : wX5_curve p1 p2 h0 post) : zz_Ct zz_M 1 yX5_curve cX5_curve 3 (some .int) [.ref 0, .int p1, .int p2] h0 post := by
  refine zz_ct (L := [.ref 0, .int p1, .int p2]) (by decide +kernel) (Nat.le_of_ble_eq_true rfl) (fun ad q hq => hq) ?_
  show zz_Go zz_M 1 cX5_curve RX5 3 (some .int) post 0 [] [.ref 0, .int p1, .int p2] h0
  unfold wX5_curve at hw
  refine zr_iload_n dX5_curve_0 rfl rfl ?_
  refine zr_i2l dX5_curve_1 ?_
  refine zr_lconst (v := 0) dX5_curve_2 (by decide) ?_
  refine zr_ldc2 zl_X5_107 dX5_curve_3 ?_
  refine zr_pSi (ctX5_in (p1.toInt64) (0 : Int64) (6 : Int64) h0 _ hw) zy_X5_in zm_X5_43 (by decide) rfl rfl (Nat.le_of_ble_eq_true rfl) dX5_curve_6 (fun r1 hw => ?_)
  refine zr_if_eq 24 dX5_curve_9 (by decide) (fun q => ?_) (fun q => ?_)
  · have hw := hw.1 q
    refine zr_aload_n dX5_curve_24 rfl rfl ?_
    refine zr_ldc zk_X5_40 dX5_curve_25 ?_
    refine zr_callVi zz_cX5 zz_M0 (ctX5_finds ((-1000001) : Int32) h0 _ hw) zy_X5_finds zm_X5_59 (by decide) rfl rfl (Nat.le_of_ble_eq_true rfl) dX5_curve_27 (fun r3 h2 hw => ?_)
    exact zr_ret rfl rfl dX5_curve_30 hw
  · have hw := hw.2 q
    refine zr_iload_n dX5_curve_12 rfl rfl ?_
    refine zr_i2l dX5_curve_13 ?_
    refine zr_lconst (v := 0) dX5_curve_14 (by decide) ?_
    refine zr_ldc2 zl_X5_109 dX5_curve_15 ?_
    refine zr_pSi (ctX5_in (p2.toInt64) (0 : Int64) (100 : Int64) h0 _ hw) zy_X5_in zm_X5_43 (by decide) rfl rfl (Nat.le_of_ble_eq_true rfl) dX5_curve_18 (fun r4 hw => ?_)
    refine zr_if_ne 31 dX5_curve_21 (by decide) (fun q => ?_) (fun q => ?_)
    · have hw := hw.1 q
      refine zr_aload_n dX5_curve_31 rfl rfl ?_
      refine zr_getR zz_cX5 zz_M0 0 (by decide) rfl zf_X5_7 dX5_curve_32 ?_
      refine zr_bipush dX5_curve_35 zbk_18 ?_
      refine zr_iald zz_M1 (zz_vin (by decide)) (j := 18) (by decide) dX5_curve_37 ?_
      refine zr_bipush dX5_curve_38 zbk_6 ?_
      refine zr_icmp_ne 52 dX5_curve_40 (by decide) (fun q => ?_) (fun q => ?_)
      · have hw := hw.1 q
        refine zr_aload_n dX5_curve_52 rfl rfl ?_
        refine zr_iload_n dX5_curve_53 rfl rfl ?_
        refine zr_iload_n dX5_curve_54 rfl rfl ?_
        refine zr_callVi zz_cX5 zz_M0 (ctX5_newCurve p1 p2 h0 _ hw) zy_X5_newCurve zm_X5_111 (by decide) rfl rfl (Nat.le_of_ble_eq_true rfl) dX5_curve_55 (fun r6 h5 hw => ?_)
        exact zr_ret rfl rfl dX5_curve_58 hw
      · have hw := hw.2 q
        refine zr_aload_n dX5_curve_43 rfl rfl ?_
        refine zr_ldc zk_X5_71 dX5_curve_44 ?_
        refine zr_callVi zz_cX5 zz_M0 (ctX5_finds ((-1000002) : Int32) h0 _ hw) zy_X5_finds zm_X5_59 (by decide) rfl rfl (Nat.le_of_ble_eq_true rfl) dX5_curve_46 (fun r8 h7 hw => ?_)
        refine zr_goto 58 dX5_curve_49 (by decide) ?_
        exact zr_ret rfl rfl dX5_curve_58 hw
    · have hw := hw.2 q
      refine zr_aload_n dX5_curve_24 rfl rfl ?_
      refine zr_ldc zk_X5_40 dX5_curve_25 ?_
      refine zr_callVi zz_cX5 zz_M0 (ctX5_finds ((-1000001) : Int32) h0 _ hw) zy_X5_finds zm_X5_59 (by decide) rfl rfl (Nat.le_of_ble_eq_true rfl) dX5_curve_27 (fun r10 h9 hw => ?_)
      exact zr_ret rfl rfl dX5_curve_30 hw
def wX5_curveOf (p1 : Int32) (p2 : Int32) (h0 : zz_H) (post : Int32 → zz_H → Prop) : Prop :=
  wX5_isCurve p1 h0 (fun r1 => ((r1 = 0) → (wX5_finds ((-1000001) : Int32) h0 (fun r3 h2 => post r3 h2))) ∧ ((¬ r1 = 0) → (wX5_in (p2.toInt64) (0 : Int64) (1 : Int64) h0 (fun r4 => ((r4 = 0) → (wX5_finds ((-1000001) : Int32) h0 (fun r6 h5 => post r6 h5))) ∧ ((¬ r4 = 0) → (vp_in (((223 : Int32) + ((2 : Int32) * p1)) + p2) 245 ∧ (post (h0 1 (((223 : Int32) + ((2 : Int32) * p1)) + p2).toNatClampNeg) h0)))))))
set_option maxRecDepth 20000 in
set_option maxHeartbeats 4000000 in
theorem ctX5_curveOf (p1 : Int32) (p2 : Int32) (h0 : zz_H) (post : Int32 → zz_H → Prop) (hw : wX5_curveOf p1 p2 h0 post) : zz_Ct zz_M 2 yX5_curveOf cX5_curveOf 3 (some .int) [.ref 0, .int p1, .int p2] h0 post := by
  refine zz_ct (L := [.ref 0, .int p1, .int p2]) (by decide +kernel) (Nat.le_of_ble_eq_true rfl) (fun ad q hq => hq) ?_
  show zz_Go zz_M 2 cX5_curveOf RX5 3 (some .int) post 0 [] [.ref 0, .int p1, .int p2] h0
  unfold wX5_curveOf at hw
  refine zr_aload_n dX5_curveOf_0 rfl rfl ?_
  refine zr_iload_n dX5_curveOf_1 rfl rfl ?_
  refine zr_pVi zz_cX5 zz_M0 (ctX5_isCurve p1 h0 _ hw) zy_X5_isCurve zm_X5_114 (by decide) rfl rfl (Nat.le_of_ble_eq_true rfl) dX5_curveOf_2 (fun r1 hw => ?_)
  refine zr_if_eq 35 dX5_curveOf_5 (by decide) (fun q => ?_) (fun q => ?_)
  · have hw := hw.1 q
    refine zr_aload_n dX5_curveOf_35 rfl rfl ?_
    refine zr_ldc zk_X5_40 dX5_curveOf_36 ?_
    refine zr_callVi zz_cX5 zz_M0 (ctX5_finds ((-1000001) : Int32) h0 _ hw) zy_X5_finds zm_X5_59 (by decide) rfl rfl (Nat.le_of_ble_eq_true rfl) dX5_curveOf_38 (fun r3 h2 hw => ?_)
    exact zr_ret rfl rfl dX5_curveOf_41 hw
  · have hw := hw.2 q
    refine zr_iload_n dX5_curveOf_8 rfl rfl ?_
    refine zr_i2l dX5_curveOf_9 ?_
    refine zr_lconst (v := 0) dX5_curveOf_10 (by decide) ?_
    refine zr_lconst (v := 1) dX5_curveOf_11 (by decide) ?_
    refine zr_pSi (ctX5_in (p2.toInt64) (0 : Int64) (1 : Int64) h0 _ hw) zy_X5_in zm_X5_43 (by decide) rfl rfl (Nat.le_of_ble_eq_true rfl) dX5_curveOf_12 (fun r4 hw => ?_)
    refine zr_if_eq 35 dX5_curveOf_15 (by decide) (fun q => ?_) (fun q => ?_)
    · have hw := hw.1 q
      refine zr_aload_n dX5_curveOf_35 rfl rfl ?_
      refine zr_ldc zk_X5_40 dX5_curveOf_36 ?_
      refine zr_callVi zz_cX5 zz_M0 (ctX5_finds ((-1000001) : Int32) h0 _ hw) zy_X5_finds zm_X5_59 (by decide) rfl rfl (Nat.le_of_ble_eq_true rfl) dX5_curveOf_38 (fun r6 h5 hw => ?_)
      exact zr_ret rfl rfl dX5_curveOf_41 hw
    · have hw := hw.2 q
      refine zr_aload_n dX5_curveOf_18 rfl rfl ?_
      refine zr_getR zz_cX5 zz_M0 0 (by decide) rfl zf_X5_7 dX5_curveOf_19 ?_
      refine zr_sipush dX5_curveOf_22 zhk_223 ?_
      refine zr_iconst dX5_curveOf_25 zqk_2 ?_
      refine zr_iload_n dX5_curveOf_26 rfl rfl ?_
      refine zr_imul dX5_curveOf_27 ?_
      refine zr_iadd dX5_curveOf_28 ?_
      refine zr_iload_n dX5_curveOf_29 rfl rfl ?_
      refine zr_iadd dX5_curveOf_30 ?_
      obtain ⟨hi, hw⟩ := hw
      refine zr_iald zz_M1 hi rfl dX5_curveOf_31 ?_
      refine zr_goto 41 dX5_curveOf_32 (by decide) ?_
      exact zr_ret rfl rfl dX5_curveOf_41 hw
def wX5_turn (p1 : Int32) (p2 : Int32) (h0 : zz_H) (post : Int32 → zz_H → Prop) : Prop :=
  wX5_isCurve p1 h0 (fun r1 => ((r1 = 0) → (wX5_finds ((-1000001) : Int32) h0 (fun r3 h2 => post r3 h2))) ∧ ((¬ r1 = 0) → (wX5_in (p2.toInt64) (0 : Int64) (6 : Int64) h0 (fun r4 => ((¬ r4 = 0) → (vp_in ((223 : Int32) + ((2 : Int32) * p1)) 245 ∧ (vp_in ((223 : Int32) + ((2 : Int32) * p1)) 245 ∧ zz_sto h0 1 (upd (h0 1) ((223 : Int32) + ((2 : Int32) * p1)).toNatClampNeg p2) (fun h5 => post (h0 1 ((223 : Int32) + ((2 : Int32) * p1)).toNatClampNeg) h5)))) ∧ ((r4 = 0) → (wX5_finds ((-1000001) : Int32) h0 (fun r7 h6 => post r7 h6)))))))
set_option maxRecDepth 20000 in
set_option maxHeartbeats 4000000 in
theorem ctX5_turn (p1 : Int32) (p2 : Int32) (h0 : zz_H) (post : Int32 → zz_H → Prop) (hw : wX5_turn p1 p2 h0 post) : zz_Ct zz_M 2 yX5_turn cX5_turn 4 (some .int) [.ref 0, .int p1, .int p2] h0 post := by
  refine zz_ct (L := [.ref 0, .int p1, .int p2, .null]) (by decide +kernel) (Nat.le_of_ble_eq_true rfl) (fun ad q hq => hq) ?_
  show zz_Go zz_M 2 cX5_turn RX5 4 (some .int) post 0 [] [.ref 0, .int p1, .int p2, .null] h0
  unfold wX5_turn at hw
  refine zr_aload_n dX5_turn_0 rfl rfl ?_
  refine zr_iload_n dX5_turn_1 rfl rfl ?_
  refine zr_pVi zz_cX5 zz_M0 (ctX5_isCurve p1 h0 _ hw) zy_X5_isCurve zm_X5_114 (by decide) rfl rfl (Nat.le_of_ble_eq_true rfl) dX5_turn_2 (fun r1 hw => ?_)
  refine zr_if_eq 20 dX5_turn_5 (by decide) (fun q => ?_) (fun q => ?_)
  · have hw := hw.1 q
    refine zr_aload_n dX5_turn_20 rfl rfl ?_
    refine zr_ldc zk_X5_40 dX5_turn_21 ?_
    refine zr_callVi zz_cX5 zz_M0 (ctX5_finds ((-1000001) : Int32) h0 _ hw) zy_X5_finds zm_X5_59 (by decide) rfl rfl (Nat.le_of_ble_eq_true rfl) dX5_turn_23 (fun r3 h2 hw => ?_)
    exact zr_ret rfl rfl dX5_turn_26 hw
  · have hw := hw.2 q
    refine zr_iload_n dX5_turn_8 rfl rfl ?_
    refine zr_i2l dX5_turn_9 ?_
    refine zr_lconst (v := 0) dX5_turn_10 (by decide) ?_
    refine zr_ldc2 zl_X5_107 dX5_turn_11 ?_
    refine zr_pSi (ctX5_in (p2.toInt64) (0 : Int64) (6 : Int64) h0 _ hw) zy_X5_in zm_X5_43 (by decide) rfl rfl (Nat.le_of_ble_eq_true rfl) dX5_turn_14 (fun r4 hw => ?_)
    refine zr_if_ne 27 dX5_turn_17 (by decide) (fun q => ?_) (fun q => ?_)
    · have hw := hw.1 q
      refine zr_aload_n dX5_turn_27 rfl rfl ?_
      refine zr_getR zz_cX5 zz_M0 0 (by decide) rfl zf_X5_7 dX5_turn_28 ?_
      refine zr_sipush dX5_turn_31 zhk_223 ?_
      refine zr_iconst dX5_turn_34 zqk_2 ?_
      refine zr_iload_n dX5_turn_35 rfl rfl ?_
      refine zr_imul dX5_turn_36 ?_
      refine zr_iadd dX5_turn_37 ?_
      obtain ⟨hi, hw⟩ := hw
      refine zr_iald zz_M1 hi rfl dX5_turn_38 ?_
      refine zr_istore_n [.ref 0, .int p1, .int p2, .int (h0 1 ((223 : Int32) + ((2 : Int32) * p1)).toNatClampNeg)] dX5_turn_39 rfl (by decide) rfl rfl ?_
      refine zr_aload_n dX5_turn_40 rfl rfl ?_
      refine zr_getR zz_cX5 zz_M0 0 (by decide) rfl zf_X5_7 dX5_turn_41 ?_
      refine zr_sipush dX5_turn_44 zhk_223 ?_
      refine zr_iconst dX5_turn_47 zqk_2 ?_
      refine zr_iload_n dX5_turn_48 rfl rfl ?_
      refine zr_imul dX5_turn_49 ?_
      refine zr_iadd dX5_turn_50 ?_
      refine zr_iload_n dX5_turn_51 rfl rfl ?_
      obtain ⟨hi, hw⟩ := hw
      refine zr_iast zz_M1 hi rfl dX5_turn_52 hw (fun h5 hw => ?_)
      refine zr_iload_n dX5_turn_53 rfl rfl ?_
      exact zr_ret rfl rfl dX5_turn_54 hw
    · have hw := hw.2 q
      refine zr_aload_n dX5_turn_20 rfl rfl ?_
      refine zr_ldc zk_X5_40 dX5_turn_21 ?_
      refine zr_callVi zz_cX5 zz_M0 (ctX5_finds ((-1000001) : Int32) h0 _ hw) zy_X5_finds zm_X5_59 (by decide) rfl rfl (Nat.le_of_ble_eq_true rfl) dX5_turn_23 (fun r7 h6 hw => ?_)
      exact zr_ret rfl rfl dX5_turn_26 hw
def wX5_by (p1 : Int32) (p2 : Int32) (h0 : zz_H) (post : Int32 → zz_H → Prop) : Prop :=
  wX5_isCurve p1 h0 (fun r1 => ((r1 = 0) → (wX5_finds ((-1000001) : Int32) h0 (fun r3 h2 => post r3 h2))) ∧ ((¬ r1 = 0) → (wX5_in (p2.toInt64) (0 : Int64) (100 : Int64) h0 (fun r4 => ((¬ r4 = 0) → (vp_in (((223 : Int32) + ((2 : Int32) * p1)) + (1 : Int32)) 245 ∧ (vp_in (((223 : Int32) + ((2 : Int32) * p1)) + (1 : Int32)) 245 ∧ zz_sto h0 1 (upd (h0 1) (((223 : Int32) + ((2 : Int32) * p1)) + (1 : Int32)).toNatClampNeg p2) (fun h5 => post (h0 1 (((223 : Int32) + ((2 : Int32) * p1)) + (1 : Int32)).toNatClampNeg) h5)))) ∧ ((r4 = 0) → (wX5_finds ((-1000001) : Int32) h0 (fun r7 h6 => post r7 h6)))))))
set_option maxRecDepth 20000 in
set_option maxHeartbeats 4000000 in
theorem ctX5_by (p1 : Int32) (p2 : Int32) (h0 : zz_H) (post : Int32 → zz_H → Prop) (hw : wX5_by p1 p2 h0 post) : zz_Ct zz_M 2 yX5_by cX5_by 4 (some .int) [.ref 0, .int p1, .int p2] h0 post := by
  refine zz_ct (L := [.ref 0, .int p1, .int p2, .null]) (by decide +kernel) (Nat.le_of_ble_eq_true rfl) (fun ad q hq => hq) ?_
  show zz_Go zz_M 2 cX5_by RX5 4 (some .int) post 0 [] [.ref 0, .int p1, .int p2, .null] h0
  unfold wX5_by at hw
  refine zr_aload_n dX5_by_0 rfl rfl ?_
  refine zr_iload_n dX5_by_1 rfl rfl ?_
  refine zr_pVi zz_cX5 zz_M0 (ctX5_isCurve p1 h0 _ hw) zy_X5_isCurve zm_X5_114 (by decide) rfl rfl (Nat.le_of_ble_eq_true rfl) dX5_by_2 (fun r1 hw => ?_)
  refine zr_if_eq 20 dX5_by_5 (by decide) (fun q => ?_) (fun q => ?_)
  · have hw := hw.1 q
    refine zr_aload_n dX5_by_20 rfl rfl ?_
    refine zr_ldc zk_X5_40 dX5_by_21 ?_
    refine zr_callVi zz_cX5 zz_M0 (ctX5_finds ((-1000001) : Int32) h0 _ hw) zy_X5_finds zm_X5_59 (by decide) rfl rfl (Nat.le_of_ble_eq_true rfl) dX5_by_23 (fun r3 h2 hw => ?_)
    exact zr_ret rfl rfl dX5_by_26 hw
  · have hw := hw.2 q
    refine zr_iload_n dX5_by_8 rfl rfl ?_
    refine zr_i2l dX5_by_9 ?_
    refine zr_lconst (v := 0) dX5_by_10 (by decide) ?_
    refine zr_ldc2 zl_X5_109 dX5_by_11 ?_
    refine zr_pSi (ctX5_in (p2.toInt64) (0 : Int64) (100 : Int64) h0 _ hw) zy_X5_in zm_X5_43 (by decide) rfl rfl (Nat.le_of_ble_eq_true rfl) dX5_by_14 (fun r4 hw => ?_)
    refine zr_if_ne 27 dX5_by_17 (by decide) (fun q => ?_) (fun q => ?_)
    · have hw := hw.1 q
      refine zr_aload_n dX5_by_27 rfl rfl ?_
      refine zr_getR zz_cX5 zz_M0 0 (by decide) rfl zf_X5_7 dX5_by_28 ?_
      refine zr_sipush dX5_by_31 zhk_223 ?_
      refine zr_iconst dX5_by_34 zqk_2 ?_
      refine zr_iload_n dX5_by_35 rfl rfl ?_
      refine zr_imul dX5_by_36 ?_
      refine zr_iadd dX5_by_37 ?_
      refine zr_iconst dX5_by_38 zqk_1 ?_
      refine zr_iadd dX5_by_39 ?_
      obtain ⟨hi, hw⟩ := hw
      refine zr_iald zz_M1 hi rfl dX5_by_40 ?_
      refine zr_istore_n [.ref 0, .int p1, .int p2, .int (h0 1 (((223 : Int32) + ((2 : Int32) * p1)) + (1 : Int32)).toNatClampNeg)] dX5_by_41 rfl (by decide) rfl rfl ?_
      refine zr_aload_n dX5_by_42 rfl rfl ?_
      refine zr_getR zz_cX5 zz_M0 0 (by decide) rfl zf_X5_7 dX5_by_43 ?_
      refine zr_sipush dX5_by_46 zhk_223 ?_
      refine zr_iconst dX5_by_49 zqk_2 ?_
      refine zr_iload_n dX5_by_50 rfl rfl ?_
      refine zr_imul dX5_by_51 ?_
      refine zr_iadd dX5_by_52 ?_
      refine zr_iconst dX5_by_53 zqk_1 ?_
      refine zr_iadd dX5_by_54 ?_
      refine zr_iload_n dX5_by_55 rfl rfl ?_
      obtain ⟨hi, hw⟩ := hw
      refine zr_iast zz_M1 hi rfl dX5_by_56 hw (fun h5 hw => ?_)
      refine zr_iload_n dX5_by_57 rfl rfl ?_
      exact zr_ret rfl rfl dX5_by_58 hw
    · have hw := hw.2 q
      refine zr_aload_n dX5_by_20 rfl rfl ?_
      refine zr_ldc zk_X5_40 dX5_by_21 ?_
      refine zr_callVi zz_cX5 zz_M0 (ctX5_finds ((-1000001) : Int32) h0 _ hw) zy_X5_finds zm_X5_59 (by decide) rfl rfl (Nat.le_of_ble_eq_true rfl) dX5_by_23 (fun r7 h6 hw => ?_)
      exact zr_ret rfl rfl dX5_by_26 hw
def wX5_stretched (p1 : Int32) (h0 : zz_H) (post : Int32 → Prop) : Prop :=
  wX5_greatest h0 (fun r1 => ((¬ r1 = 0) → (wX5_raw p1 h0 (fun r2 => ¬ r1 = 0 ∧ (post (((100 : Int32) * r2) / r1))))) ∧ ((r1 = 0) → (post (0 : Int32))))
set_option maxRecDepth 20000 in
set_option maxHeartbeats 4000000 in
theorem ctX5_stretched (p1 : Int32) (h0 : zz_H) (post : Int32 → Prop) (hw : wX5_stretched p1 h0 post) : zz_Ct zz_M 4 yX5_stretched cX5_stretched 3 (some .int) [.ref 0, .int p1] h0 (zz_pu h0 post) := by
  refine zz_ct (L := [.ref 0, .int p1, .null]) (by decide +kernel) (Nat.le_of_ble_eq_true rfl) (fun ad q hq => hq) ?_
  show zz_Go zz_M 4 cX5_stretched RX5 3 (some .int) (zz_pu h0 post) 0 [] [.ref 0, .int p1, .null] h0
  unfold wX5_stretched at hw
  refine zr_aload_n dX5_stretched_0 rfl rfl ?_
  refine zr_pVi zz_cX5 zz_M0 (ctX5_greatest h0 _ hw) zy_X5_greatest zm_X5_94 (by decide) rfl rfl (Nat.le_of_ble_eq_true rfl) dX5_stretched_1 (fun r1 hw => ?_)
  refine zr_istore_n [.ref 0, .int p1, .int r1] dX5_stretched_4 rfl (by decide) rfl rfl ?_
  refine zr_iload_n dX5_stretched_5 rfl rfl ?_
  refine zr_if_ne 13 dX5_stretched_6 (by decide) (fun q => ?_) (fun q => ?_)
  · have hw := hw.1 q
    refine zr_bipush dX5_stretched_13 zbk_100 ?_
    refine zr_aload_n dX5_stretched_15 rfl rfl ?_
    refine zr_iload_n dX5_stretched_16 rfl rfl ?_
    refine zr_pVi zz_cX5 zz_M0 (ctX5_raw p1 h0 _ hw) zy_X5_raw zm_X5_84 (by decide) rfl rfl (Nat.le_of_ble_eq_true rfl) dX5_stretched_17 (fun r2 hw => ?_)
    refine zr_imul dX5_stretched_20 ?_
    refine zr_iload_n dX5_stretched_21 rfl rfl ?_
    obtain ⟨hne, hw⟩ := hw
    refine zr_idiv dX5_stretched_22 hne ?_
    exact zr_ret rfl rfl dX5_stretched_23 ⟨rfl, hw⟩
  · have hw := hw.2 q
    refine zr_iconst dX5_stretched_9 zqk_0 ?_
    refine zr_goto 23 dX5_stretched_10 (by decide) ?_
    exact zr_ret rfl rfl dX5_stretched_23 ⟨rfl, hw⟩
def wX5_root_b2 (p1 : Int32) (post : Int32 → Prop) (K2 : Int32 → Prop) (x1 : Int32) : Prop :=
  ((p1 < ((x1 + (1 : Int32)) * (x1 + (1 : Int32)))) → (post x1)) ∧ ((¬ p1 < ((x1 + (1 : Int32)) * (x1 + (1 : Int32)))) → (K2 (x1 + 1)))
def wX5_root (p1 : Int32) (h0 : zz_H) (post : Int32 → Prop) : Prop :=
  ∃ t9, zz_lp (fun K (s : Int32) => wX5_root_b2 p1 post K s) t9 (0 : Int32)
set_option maxRecDepth 20000 in
set_option maxHeartbeats 4000000 in
theorem ctX5_root (p1 : Int32) (h0 : zz_H) (post : Int32 → Prop) (hw : wX5_root p1 h0 post) : zz_Ct zz_M 0 yX5_root cX5_root 2 (some .int) [.int p1] h0 (zz_pu h0 post) := by
  refine zz_ct (L := [.int p1, .null]) (by decide +kernel) (Nat.le_of_ble_eq_true rfl) (fun ad q hq => hq) ?_
  show zz_Go zz_M 0 cX5_root RX5 2 (some .int) (zz_pu h0 post) 0 [] [.int p1, .null] h0
  unfold wX5_root at hw
  refine zr_iconst dX5_root_0 zqk_0 ?_
  refine zr_istore_n [.int p1, .int (0 : Int32)] dX5_root_1 rfl (by decide) rfl rfl ?_
  obtain ⟨t9, hw⟩ := hw
  have step2 : ∀ (K2 : Int32 → Prop), (∀ (x1 : Int32), K2 x1 → zz_Go zz_M 0 cX5_root RX5 2 (some .int) (zz_pu h0 post) 2 [] [.int p1, .int x1] h0) → ∀ (x1 : Int32), wX5_root_b2 p1 post K2 x1 → zz_Go zz_M 0 cX5_root RX5 2 (some .int) (zz_pu h0 post) 2 [] [.int p1, .int x1] h0 := by
    intro K2 ih2 x1 hw
    unfold wX5_root_b2 at hw
    refine zr_iload_n dX5_root_2 rfl rfl ?_
    refine zr_iconst dX5_root_3 zqk_1 ?_
    refine zr_iadd dX5_root_4 ?_
    refine zr_iload_n dX5_root_5 rfl rfl ?_
    refine zr_iconst dX5_root_6 zqk_1 ?_
    refine zr_iadd dX5_root_7 ?_
    refine zr_imul dX5_root_8 ?_
    refine zr_iload_n dX5_root_9 rfl rfl ?_
    refine zr_icmp_gt 19 dX5_root_10 (by decide) (fun q => ?_) (fun q => ?_)
    · have hw := hw.1 q
      refine zr_iload_n dX5_root_19 rfl rfl ?_
      exact zr_ret rfl rfl dX5_root_20 ⟨rfl, hw⟩
    · have hw := hw.2 q
      refine zr_iinc (x1 + 1) [.int p1, .int (x1 + 1)] dX5_root_13 rfl (zok_1 _) (by decide) rfl rfl ?_
      refine zr_goto 2 dX5_root_16 (by decide) ?_
      exact ih2 _ hw
  have key2 : ∀ (t9 : Nat) (x1 : Int32), zz_lp (fun K (s : Int32) => wX5_root_b2 p1 post K s) t9 x1 → zz_Go zz_M 0 cX5_root RX5 2 (some .int) (zz_pu h0 post) 2 [] [.int p1, .int x1] h0 := by
    intro t9
    induction t9 with
    | zero => intro x1 hw; exact hw.elim
    | succ t9 ih => intro x1 hw; exact step2 _ ih _ hw
  exact key2 t9 _ hw
def wX5_shared_j49 (p2 : Int32) (h0 : zz_H) (post : Int32 → Prop) (x2 : Int32) : Prop :=
  (((p2 * (h0 1 17)) < ((100 : Int32) * x2)) → ((((((p2 + (100 : Int32)) / (2 : Int32)) * (h0 1 17)) < ((100 : Int32) * x2)) → (post (30 : Int32))) ∧ ((¬ (((p2 + (100 : Int32)) / (2 : Int32)) * (h0 1 17)) < ((100 : Int32) * x2)) → (post (60 : Int32))))) ∧ ((¬ (p2 * (h0 1 17)) < ((100 : Int32) * x2)) → (post (100 : Int32)))
def wX5_shared_b12 (p2 : Int32) (h0 : zz_H) (post : Int32 → Prop) (r1 : Int32) (K4 : Int32 × Int32 → Prop) (x2 : Int32) (x3 : Int32) : Prop :=
  (((h0 1 17) ≤ x3) → (wX5_shared_j49 p2 h0 post x2)) ∧ ((¬ (h0 1 17) ≤ x3) → (wX5_raw x3 h0 (fun r5 => ((r5 ≤ r1) → (K4 ((x2 + (0 : Int32)), (x3 + 1)))) ∧ ((¬ r5 ≤ r1) → (K4 ((x2 + (1 : Int32)), (x3 + 1)))))))
def wX5_shared (p1 : Int32) (p2 : Int32) (h0 : zz_H) (post : Int32 → Prop) : Prop :=
  wX5_raw p1 h0 (fun r1 => ∃ t9, zz_lp (fun K (s : Int32 × Int32) => wX5_shared_b12 p2 h0 post r1 K s.1 s.2) t9 ((1 : Int32), (0 : Int32)))
set_option maxRecDepth 20000 in
set_option maxHeartbeats 4000000 in
theorem ctX5_shared (p1 : Int32) (p2 : Int32) (h0 : zz_H) (post : Int32 → Prop) (hw : wX5_shared p1 p2 h0 post) : zz_Ct zz_M 3 yX5_shared cX5_shared 6 (some .int) [.ref 0, .int p1, .int p2] h0 (zz_pu h0 post) := by
  refine zz_ct (L := [.ref 0, .int p1, .int p2, .null, .null, .null]) (by decide +kernel) (Nat.le_of_ble_eq_true rfl) (fun ad q hq => hq) ?_
  show zz_Go zz_M 3 cX5_shared RX5 6 (some .int) (zz_pu h0 post) 0 [] [.ref 0, .int p1, .int p2, .null, .null, .null] h0
  unfold wX5_shared at hw
  refine zr_iconst dX5_shared_0 zqk_1 ?_
  refine zr_istore_n [.ref 0, .int p1, .int p2, .int (1 : Int32), .null, .null] dX5_shared_1 rfl (by decide) rfl rfl ?_
  refine zr_aload_n dX5_shared_2 rfl rfl ?_
  refine zr_iload_n dX5_shared_3 rfl rfl ?_
  refine zr_pVi zz_cX5 zz_M0 (ctX5_raw p1 h0 _ hw) zy_X5_raw zm_X5_84 (by decide) rfl rfl (Nat.le_of_ble_eq_true rfl) dX5_shared_4 (fun r1 hw => ?_)
  refine zr_istore [.ref 0, .int p1, .int p2, .int (1 : Int32), .int r1, .null] dX5_shared_7 (by decide) rfl rfl ?_
  refine zr_iconst dX5_shared_9 zqk_0 ?_
  refine zr_istore [.ref 0, .int p1, .int p2, .int (1 : Int32), .int r1, .int (0 : Int32)] dX5_shared_10 (by decide) rfl rfl ?_
  refine zr_sub [.ref 0, .null, .int p2, .int (1 : Int32), .int r1, .int (0 : Int32)] ⟨Or.inr rfl, ⟨Or.inl rfl, ⟨Or.inr rfl, ⟨Or.inr rfl, ⟨Or.inr rfl, ⟨Or.inr rfl, trivial⟩⟩⟩⟩⟩⟩ ?_
  obtain ⟨t9, hw⟩ := hw
  have step12 : ∀ (K4 : Int32 × Int32 → Prop), (∀ (x2 : Int32) (x3 : Int32), K4 (x2, x3) → zz_Go zz_M 3 cX5_shared RX5 6 (some .int) (zz_pu h0 post) 12 [] [.ref 0, .null, .int p2, .int x2, .int r1, .int x3] h0) → ∀ (x2 : Int32) (x3 : Int32), wX5_shared_b12 p2 h0 post r1 K4 x2 x3 → zz_Go zz_M 3 cX5_shared RX5 6 (some .int) (zz_pu h0 post) 12 [] [.ref 0, .null, .int p2, .int x2, .int r1, .int x3] h0 := by
    intro K4 ih12 x2 x3 hw
    unfold wX5_shared_b12 at hw
    refine zr_iload dX5_shared_12 rfl ?_
    refine zr_aload_n dX5_shared_14 rfl rfl ?_
    refine zr_getR zz_cX5 zz_M0 0 (by decide) rfl zf_X5_7 dX5_shared_15 ?_
    refine zr_bipush dX5_shared_18 zbk_17 ?_
    refine zr_iald zz_M1 (zz_vin (by decide)) (j := 17) (by decide) dX5_shared_20 ?_
    have j49 : wX5_shared_j49 p2 h0 post x2 → zz_Go zz_M 3 cX5_shared RX5 6 (some .int) (zz_pu h0 post) 49 [] [.ref 0, .null, .int p2, .int x2, .null, .null] h0 := by
      intro hw
      unfold wX5_shared_j49 at hw
      refine zr_bipush dX5_shared_49 zbk_100 ?_
      refine zr_iload_n dX5_shared_51 rfl rfl ?_
      refine zr_imul dX5_shared_52 ?_
      refine zr_iload_n dX5_shared_53 rfl rfl ?_
      refine zr_aload_n dX5_shared_54 rfl rfl ?_
      refine zr_getR zz_cX5 zz_M0 0 (by decide) rfl zf_X5_7 dX5_shared_55 ?_
      refine zr_bipush dX5_shared_58 zbk_17 ?_
      refine zr_iald zz_M1 (zz_vin (by decide)) (j := 17) (by decide) dX5_shared_60 ?_
      refine zr_imul dX5_shared_61 ?_
      refine zr_icmp_gt 70 dX5_shared_62 (by decide) (fun q => ?_) (fun q => ?_)
      · have hw := hw.1 q
        refine zr_bipush dX5_shared_70 zbk_100 ?_
        refine zr_iload_n dX5_shared_72 rfl rfl ?_
        refine zr_imul dX5_shared_73 ?_
        refine zr_iload_n dX5_shared_74 rfl rfl ?_
        refine zr_bipush dX5_shared_75 zbk_100 ?_
        refine zr_iadd dX5_shared_77 ?_
        refine zr_iconst dX5_shared_78 zqk_2 ?_
        refine zr_idiv dX5_shared_79 (by decide) ?_
        refine zr_aload_n dX5_shared_80 rfl rfl ?_
        refine zr_getR zz_cX5 zz_M0 0 (by decide) rfl zf_X5_7 dX5_shared_81 ?_
        refine zr_bipush dX5_shared_84 zbk_17 ?_
        refine zr_iald zz_M1 (zz_vin (by decide)) (j := 17) (by decide) dX5_shared_86 ?_
        refine zr_imul dX5_shared_87 ?_
        refine zr_icmp_gt 96 dX5_shared_88 (by decide) (fun q => ?_) (fun q => ?_)
        · have hw := hw.1 q
          refine zr_bipush dX5_shared_96 zbk_30 ?_
          exact zr_ret rfl rfl dX5_shared_98 ⟨rfl, hw⟩
        · have hw := hw.2 q
          refine zr_bipush dX5_shared_91 zbk_60 ?_
          refine zr_goto 98 dX5_shared_93 (by decide) ?_
          exact zr_ret rfl rfl dX5_shared_98 ⟨rfl, hw⟩
      · have hw := hw.2 q
        refine zr_bipush dX5_shared_65 zbk_100 ?_
        refine zr_goto 98 dX5_shared_67 (by decide) ?_
        exact zr_ret rfl rfl dX5_shared_98 ⟨rfl, hw⟩
    refine zr_icmp_ge 49 dX5_shared_21 (by decide) (fun q => ?_) (fun q => ?_)
    · have hw := hw.1 q
      refine zr_sub [.ref 0, .null, .int p2, .int x2, .null, .null] ⟨Or.inr rfl, ⟨Or.inl rfl, ⟨Or.inr rfl, ⟨Or.inr rfl, ⟨Or.inl rfl, ⟨Or.inl rfl, trivial⟩⟩⟩⟩⟩⟩ ?_
      exact j49 hw
    · have hw := hw.2 q
      refine zr_iload_n dX5_shared_24 rfl rfl ?_
      refine zr_aload_n dX5_shared_25 rfl rfl ?_
      refine zr_iload dX5_shared_26 rfl ?_
      refine zr_pVi zz_cX5 zz_M0 (ctX5_raw x3 h0 _ hw) zy_X5_raw zm_X5_84 (by decide) rfl rfl (Nat.le_of_ble_eq_true rfl) dX5_shared_28 (fun r5 hw => ?_)
      refine zr_iload dX5_shared_31 rfl ?_
      refine zr_icmp_le 40 dX5_shared_33 (by decide) (fun q => ?_) (fun q => ?_)
      · have hw := hw.1 q
        refine zr_iconst dX5_shared_40 zqk_0 ?_
        refine zr_iadd dX5_shared_41 ?_
        refine zr_istore_n [.ref 0, .null, .int p2, .int (x2 + (0 : Int32)), .int r1, .int x3] dX5_shared_42 rfl (by decide) rfl rfl ?_
        refine zr_iinc (x3 + 1) [.ref 0, .null, .int p2, .int (x2 + (0 : Int32)), .int r1, .int (x3 + 1)] dX5_shared_43 rfl (zok_1 _) (by decide) rfl rfl ?_
        refine zr_goto 12 dX5_shared_46 (by decide) ?_
        exact ih12 _ _ hw
      · have hw := hw.2 q
        refine zr_iconst dX5_shared_36 zqk_1 ?_
        refine zr_goto 41 dX5_shared_37 (by decide) ?_
        refine zr_iadd dX5_shared_41 ?_
        refine zr_istore_n [.ref 0, .null, .int p2, .int (x2 + (1 : Int32)), .int r1, .int x3] dX5_shared_42 rfl (by decide) rfl rfl ?_
        refine zr_iinc (x3 + 1) [.ref 0, .null, .int p2, .int (x2 + (1 : Int32)), .int r1, .int (x3 + 1)] dX5_shared_43 rfl (zok_1 _) (by decide) rfl rfl ?_
        refine zr_goto 12 dX5_shared_46 (by decide) ?_
        exact ih12 _ _ hw
  have key12 : ∀ (t9 : Nat) (x2 : Int32) (x3 : Int32), zz_lp (fun K (s : Int32 × Int32) => wX5_shared_b12 p2 h0 post r1 K s.1 s.2) t9 (x2, x3) → zz_Go zz_M 3 cX5_shared RX5 6 (some .int) (zz_pu h0 post) 12 [] [.ref 0, .null, .int p2, .int x2, .int r1, .int x3] h0 := by
    intro t9
    induction t9 with
    | zero => intro x2 x3 hw; exact hw.elim
    | succ t9 ih => intro x2 x3 hw; exact step12 _ ih _ _ hw
  exact key12 t9 _ _ hw
