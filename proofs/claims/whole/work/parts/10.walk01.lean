def wX3_readCommon (b : Nat) (h0 : zz_H) (post : Int32 → zz_H → Prop) : Prop :=
  wX3_step h0 (fun _ h1 => wX3_isNumber (7 : Int32) h1 (fun r2 => ((¬ r2 = 0) → (wX3_step h1 (fun _ h3 => wX3_isNumber (400 : Int32) h3 (fun r4 => ((¬ r4 = 0) → (vp_in (h1 29 5) 8 ∧ zz_sto h3 (b + 2) (upd (h3 (b + 2)) (h1 29 5).toNatClampNeg (h3 29 5)) (fun h5 => wX3_step h5 (fun _ h6 => post (1 : Int32) h6)))) ∧ ((r4 = 0) → (post (0 : Int32) h3)))))) ∧ ((r2 = 0) → (post (0 : Int32) h1))))
set_option maxRecDepth 20000 in
set_option maxHeartbeats 4000000 in
theorem ctX3_readCommon (b : Nat) (hb : zz_pp b) (h0 : zz_H) (post : Int32 → zz_H → Prop) (hw : wX3_readCommon b h0 post) : zz_Ct zz_C 3 yX3_readCommon cX3_readCommon 3 (some .boolean) [.ref 29, .ref b] h0 post := by
  refine zz_ct (L := [.ref 29, .ref b, .null]) (by decide +kernel) (Nat.le_of_ble_eq_true rfl) (fun ad q hq => hq) ?_
  show zz_Go zz_C 3 cX3_readCommon RX3 3 (some .boolean) post 0 [] [.ref 29, .ref b, .null] h0
  unfold wX3_readCommon at hw
  refine zr_aload_n dX3_readCommon_0 rfl rfl ?_
  refine zr_callVv zz_cX3 zz_C29 (ctX3_step h0 _ hw) zy_X3_step zm_X3_31 (by decide) rfl rfl (Nat.le_of_ble_eq_true rfl) dX3_readCommon_1 (fun h1 hw => ?_)
  refine zr_aload_n dX3_readCommon_4 rfl rfl ?_
  refine zr_bipush dX3_readCommon_5 zbk_7 ?_
  refine zr_pVi zz_cX3 zz_C29 (ctX3_isNumber (7 : Int32) h1 _ hw) zy_X3_isNumber zm_X3_65 (by decide) rfl rfl (Nat.le_of_ble_eq_true rfl) dX3_readCommon_7 (fun r2 hw => ?_)
  refine zr_if_ne 15 dX3_readCommon_10 (by decide) (fun q => ?_) (fun q => ?_)
  · have hw := hw.1 q
    refine zr_aload_n dX3_readCommon_15 rfl rfl ?_
    refine zr_getI zz_cX3 zz_C29 5 (by decide) rfl zf_X3_28 dX3_readCommon_16 ?_
    refine zr_istore_n [.ref 29, .ref b, .int (h1 29 5)] dX3_readCommon_19 rfl (by decide) rfl rfl ?_
    refine zr_aload_n dX3_readCommon_20 rfl rfl ?_
    refine zr_callVv zz_cX3 zz_C29 (ctX3_step h1 _ hw) zy_X3_step zm_X3_31 (by decide) rfl rfl (Nat.le_of_ble_eq_true rfl) dX3_readCommon_21 (fun h3 hw => ?_)
    refine zr_aload_n dX3_readCommon_24 rfl rfl ?_
    refine zr_sipush dX3_readCommon_25 zhk_400 ?_
    refine zr_pVi zz_cX3 zz_C29 (ctX3_isNumber (400 : Int32) h3 _ hw) zy_X3_isNumber zm_X3_65 (by decide) rfl rfl (Nat.le_of_ble_eq_true rfl) dX3_readCommon_28 (fun r4 hw => ?_)
    refine zr_if_ne 36 dX3_readCommon_31 (by decide) (fun q => ?_) (fun q => ?_)
    · have hw := hw.1 q
      refine zr_aload_n dX3_readCommon_36 rfl rfl ?_
      refine zr_getR zz_cX0 (zz_ppO hb) 1 (by decide) rfl zf_X3_77 dX3_readCommon_37 ?_
      refine zr_iload_n dX3_readCommon_40 rfl rfl ?_
      refine zr_aload_n dX3_readCommon_41 rfl rfl ?_
      refine zr_getI zz_cX3 zz_C29 5 (by decide) rfl zf_X3_28 dX3_readCommon_42 ?_
      obtain ⟨hi, hw⟩ := hw
      refine zr_iast (zz_ppA1 hb) hi rfl dX3_readCommon_45 hw (fun h5 hw => ?_)
      refine zr_aload_n dX3_readCommon_46 rfl rfl ?_
      refine zr_callVv zz_cX3 zz_C29 (ctX3_step h5 _ hw) zy_X3_step zm_X3_31 (by decide) rfl rfl (Nat.le_of_ble_eq_true rfl) dX3_readCommon_47 (fun h6 hw => ?_)
      refine zr_iconst dX3_readCommon_50 zqk_1 ?_
      exact zr_ret rfl rfl dX3_readCommon_51 hw
    · have hw := hw.2 q
      refine zr_iconst dX3_readCommon_34 zqk_0 ?_
      exact zr_ret rfl rfl dX3_readCommon_35 hw
  · have hw := hw.2 q
    refine zr_iconst dX3_readCommon_13 zqk_0 ?_
    exact zr_ret rfl rfl dX3_readCommon_14 hw
def wX3_readPupil_b40 (b : Nat) (post : Int32 → zz_H → Prop) (r4 : Int32) (K8 : Int32 × zz_H → Prop) (x6 : Int32) (h7 : zz_H) : Prop :=
  (((8 : Int32) ≤ x6) → (post (1 : Int32) h7)) ∧ ((¬ (8 : Int32) ≤ x6) → (((¬ (h7 29 2) = (2 : Int32)) → (post (1 : Int32) h7)) ∧ (((h7 29 2) = (2 : Int32)) → (vp_in x6 8 ∧ (wX3_isNumber (h7 (b + 1) x6.toNatClampNeg) h7 (fun r9 => ((¬ r9 = 0) → (wX0_setBoth b r4 x6 (h7 29 5) h7 (fun _ h10 => wX3_step h10 (fun _ h11 => K8 ((x6 + 1), h11))))) ∧ ((r9 = 0) → (post (0 : Int32) h7))))))))
def wX3_readPupil (b : Nat) (h0 : zz_H) (post : Int32 → zz_H → Prop) : Prop :=
  (((h0 b 7) < (12 : Int32)) → (wX3_step h0 (fun _ h1 => wX3_isNumber (3 : Int32) h1 (fun r2 => ((¬ r2 = 0) → (wX0_addPupil b (h1 29 5) h1 (fun r4 h3 => wX3_step h3 (fun _ h5 => ∃ t9, zz_lp (fun K (s : Int32 × zz_H) => wX3_readPupil_b40 b post r4 K s.1 s.2) t9 ((0 : Int32), h5))))) ∧ ((r2 = 0) → (post (0 : Int32) h1)))))) ∧ ((¬ (h0 b 7) < (12 : Int32)) → (post (0 : Int32) h0))
set_option maxRecDepth 20000 in
set_option maxHeartbeats 4000000 in
theorem ctX3_readPupil (b : Nat) (hb : zz_pp b) (h0 : zz_H) (post : Int32 → zz_H → Prop) (hw : wX3_readPupil b h0 post) : zz_Ct zz_C 3 yX3_readPupil cX3_readPupil 4 (some .boolean) [.ref 29, .ref b] h0 post := by
  refine zz_ct (L := [.ref 29, .ref b, .null, .null]) (by decide +kernel) (Nat.le_of_ble_eq_true rfl) (fun ad q hq => hq) ?_
  show zz_Go zz_C 3 cX3_readPupil RX3 4 (some .boolean) post 0 [] [.ref 29, .ref b, .null, .null] h0
  unfold wX3_readPupil at hw
  refine zr_aload_n dX3_readPupil_0 rfl rfl ?_
  refine zr_getI zz_cX0 (zz_ppO hb) 7 (by decide) rfl zf_X3_80 dX3_readPupil_1 ?_
  refine zr_bipush dX3_readPupil_4 zbk_12 ?_
  refine zr_icmp_lt 11 dX3_readPupil_6 (by decide) (fun q => ?_) (fun q => ?_)
  · have hw := hw.1 q
    refine zr_aload_n dX3_readPupil_11 rfl rfl ?_
    refine zr_callVv zz_cX3 zz_C29 (ctX3_step h0 _ hw) zy_X3_step zm_X3_31 (by decide) rfl rfl (Nat.le_of_ble_eq_true rfl) dX3_readPupil_12 (fun h1 hw => ?_)
    refine zr_aload_n dX3_readPupil_15 rfl rfl ?_
    refine zr_iconst dX3_readPupil_16 zqk_3 ?_
    refine zr_pVi zz_cX3 zz_C29 (ctX3_isNumber (3 : Int32) h1 _ hw) zy_X3_isNumber zm_X3_65 (by decide) rfl rfl (Nat.le_of_ble_eq_true rfl) dX3_readPupil_17 (fun r2 hw => ?_)
    refine zr_if_ne 25 dX3_readPupil_20 (by decide) (fun q => ?_) (fun q => ?_)
    · have hw := hw.1 q
      refine zr_aload_n dX3_readPupil_25 rfl rfl ?_
      refine zr_aload_n dX3_readPupil_26 rfl rfl ?_
      refine zr_getI zz_cX3 zz_C29 5 (by decide) rfl zf_X3_28 dX3_readPupil_27 ?_
      refine zr_callVi zz_cX0 (zz_ppO hb) (ctX0_addPupil b (h1 29 5) hb h1 _ hw) zy_X0_addPupil zm_X3_83 (by decide) rfl rfl (Nat.le_of_ble_eq_true rfl) dX3_readPupil_30 (fun r4 h3 hw => ?_)
      refine zr_istore_n [.ref 29, .ref b, .int r4, .null] dX3_readPupil_33 rfl (by decide) rfl rfl ?_
      refine zr_aload_n dX3_readPupil_34 rfl rfl ?_
      refine zr_callVv zz_cX3 zz_C29 (ctX3_step h3 _ hw) zy_X3_step zm_X3_31 (by decide) rfl rfl (Nat.le_of_ble_eq_true rfl) dX3_readPupil_35 (fun h5 hw => ?_)
      refine zr_iconst dX3_readPupil_38 zqk_0 ?_
      refine zr_istore_n [.ref 29, .ref b, .int r4, .int (0 : Int32)] dX3_readPupil_39 rfl (by decide) rfl rfl ?_
      obtain ⟨t9, hw⟩ := hw
      have step40 : ∀ (K8 : Int32 × zz_H → Prop), (∀ (x6 : Int32) (h7 : zz_H), K8 (x6, h7) → zz_Go zz_C 3 cX3_readPupil RX3 4 (some .boolean) post 40 [] [.ref 29, .ref b, .int r4, .int x6] h7) → ∀ (x6 : Int32) (h7 : zz_H), wX3_readPupil_b40 b post r4 K8 x6 h7 → zz_Go zz_C 3 cX3_readPupil RX3 4 (some .boolean) post 40 [] [.ref 29, .ref b, .int r4, .int x6] h7 := by
        intro K8 ih40 x6 h7 hw
        unfold wX3_readPupil_b40 at hw
        refine zr_iload_n dX3_readPupil_40 rfl rfl ?_
        refine zr_bipush dX3_readPupil_41 zbk_8 ?_
        refine zr_icmp_ge 89 dX3_readPupil_43 (by decide) (fun q => ?_) (fun q => ?_)
        · have hw := hw.1 q
          refine zr_iconst dX3_readPupil_89 zqk_1 ?_
          exact zr_ret rfl rfl dX3_readPupil_90 hw
        · have hw := hw.2 q
          refine zr_aload_n dX3_readPupil_46 rfl rfl ?_
          refine zr_getI zz_cX3 zz_C29 2 (by decide) rfl zf_X3_19 dX3_readPupil_47 ?_
          refine zr_iconst dX3_readPupil_50 zqk_2 ?_
          refine zr_icmp_ne 89 dX3_readPupil_51 (by decide) (fun q => ?_) (fun q => ?_)
          · have hw := hw.1 q
            refine zr_iconst dX3_readPupil_89 zqk_1 ?_
            exact zr_ret rfl rfl dX3_readPupil_90 hw
          · have hw := hw.2 q
            refine zr_aload_n dX3_readPupil_54 rfl rfl ?_
            refine zr_aload_n dX3_readPupil_55 rfl rfl ?_
            refine zr_getR zz_cX0 (zz_ppO hb) 0 (by decide) rfl zf_X3_87 dX3_readPupil_56 ?_
            refine zr_iload_n dX3_readPupil_59 rfl rfl ?_
            obtain ⟨hi, hw⟩ := hw
            refine zr_iald (zz_ppA0 hb) hi rfl dX3_readPupil_60 ?_
            refine zr_pVi zz_cX3 zz_C29 (ctX3_isNumber (h7 (b + 1) x6.toNatClampNeg) h7 _ hw) zy_X3_isNumber zm_X3_65 (by decide) rfl rfl (Nat.le_of_ble_eq_true rfl) dX3_readPupil_61 (fun r9 hw => ?_)
            refine zr_if_ne 69 dX3_readPupil_64 (by decide) (fun q => ?_) (fun q => ?_)
            · have hw := hw.1 q
              refine zr_aload_n dX3_readPupil_69 rfl rfl ?_
              refine zr_iload_n dX3_readPupil_70 rfl rfl ?_
              refine zr_iload_n dX3_readPupil_71 rfl rfl ?_
              refine zr_aload_n dX3_readPupil_72 rfl rfl ?_
              refine zr_getI zz_cX3 zz_C29 5 (by decide) rfl zf_X3_28 dX3_readPupil_73 ?_
              refine zr_callVv zz_cX0 (zz_ppO hb) (ctX0_setBoth b r4 x6 (h7 29 5) hb h7 _ hw) zy_X0_setBoth zm_X3_90 (by decide) rfl rfl (Nat.le_of_ble_eq_true rfl) dX3_readPupil_76 (fun h10 hw => ?_)
              refine zr_aload_n dX3_readPupil_79 rfl rfl ?_
              refine zr_callVv zz_cX3 zz_C29 (ctX3_step h10 _ hw) zy_X3_step zm_X3_31 (by decide) rfl rfl (Nat.le_of_ble_eq_true rfl) dX3_readPupil_80 (fun h11 hw => ?_)
              refine zr_iinc (x6 + 1) [.ref 29, .ref b, .int r4, .int (x6 + 1)] dX3_readPupil_83 rfl (zok_1 _) (by decide) rfl rfl ?_
              refine zr_goto 40 dX3_readPupil_86 (by decide) ?_
              exact ih40 _ _ hw
            · have hw := hw.2 q
              refine zr_iconst dX3_readPupil_67 zqk_0 ?_
              exact zr_ret rfl rfl dX3_readPupil_68 hw
      have key40 : ∀ (t9 : Nat) (x6 : Int32) (h7 : zz_H), zz_lp (fun K (s : Int32 × zz_H) => wX3_readPupil_b40 b post r4 K s.1 s.2) t9 (x6, h7) → zz_Go zz_C 3 cX3_readPupil RX3 4 (some .boolean) post 40 [] [.ref 29, .ref b, .int r4, .int x6] h7 := by
        intro t9
        induction t9 with
        | zero => intro x6 h7 hw; exact hw.elim
        | succ t9 ih => intro x6 h7 hw; exact step40 _ ih _ _ hw
      exact key40 t9 _ _ hw
    · have hw := hw.2 q
      refine zr_iconst dX3_readPupil_23 zqk_0 ?_
      exact zr_ret rfl rfl dX3_readPupil_24 hw
  · have hw := hw.2 q
    refine zr_iconst dX3_readPupil_9 zqk_0 ?_
    exact zr_ret rfl rfl dX3_readPupil_10 hw
def wX3_kindOfWord (h0 : zz_H) (post : Int32 → Prop) : Prop :=
  wX3_isWord 5 h0 (fun r1 => ((r1 = 0) → (wX3_isWord 6 h0 (fun r2 => ((r2 = 0) → (wX3_isWord 7 h0 (fun r3 => ((r3 = 0) → (wX3_isWord 8 h0 (fun r4 => ((r4 = 0) → (wX3_isWord 9 h0 (fun r5 => ((r5 = 0) → (wX3_isWord 10 h0 (fun r6 => ((r6 = 0) → (wX3_isWord 11 h0 (fun r7 => ((r7 = 0) → (post ((-1) : Int32))) ∧ ((¬ r7 = 0) → (post (6 : Int32)))))) ∧ ((¬ r6 = 0) → (post (5 : Int32)))))) ∧ ((¬ r5 = 0) → (post (4 : Int32)))))) ∧ ((¬ r4 = 0) → (post (3 : Int32)))))) ∧ ((¬ r3 = 0) → (post (2 : Int32)))))) ∧ ((¬ r2 = 0) → (post (1 : Int32)))))) ∧ ((¬ r1 = 0) → (post (0 : Int32))))
set_option maxRecDepth 20000 in
set_option maxHeartbeats 4000000 in
theorem ctX3_kindOfWord (h0 : zz_H) (post : Int32 → Prop) (hw : wX3_kindOfWord h0 post) : zz_Ct zz_C 6 yX3_kindOfWord cX3_kindOfWord 1 (some .int) [.ref 29] h0 (zz_pu h0 post) := by
  refine zz_ct (L := [.ref 29]) (by decide +kernel) (Nat.le_of_ble_eq_true rfl) (fun ad q hq => hq) ?_
  show zz_Go zz_C 6 cX3_kindOfWord RX3 1 (some .int) (zz_pu h0 post) 0 [] [.ref 29] h0
  unfold wX3_kindOfWord at hw
  refine zr_aload_n dX3_kindOfWord_0 rfl rfl ?_
  refine zr_ldcS 5 (by decide) rfl rfl dX3_kindOfWord_1 ?_
  refine zr_pVi zz_cX3 zz_C29 (ctX3_isWord 5 (by decide) h0 _ hw) zy_X3_isWord zm_X3_40 (by decide) rfl rfl (Nat.le_of_ble_eq_true rfl) dX3_kindOfWord_3 (fun r1 hw => ?_)
  refine zr_if_eq 11 dX3_kindOfWord_6 (by decide) (fun q => ?_) (fun q => ?_)
  · have hw := hw.1 q
    refine zr_aload_n dX3_kindOfWord_11 rfl rfl ?_
    refine zr_ldcS 6 (by decide) rfl rfl dX3_kindOfWord_12 ?_
    refine zr_pVi zz_cX3 zz_C29 (ctX3_isWord 6 (by decide) h0 _ hw) zy_X3_isWord zm_X3_40 (by decide) rfl rfl (Nat.le_of_ble_eq_true rfl) dX3_kindOfWord_14 (fun r2 hw => ?_)
    refine zr_if_eq 22 dX3_kindOfWord_17 (by decide) (fun q => ?_) (fun q => ?_)
    · have hw := hw.1 q
      refine zr_aload_n dX3_kindOfWord_22 rfl rfl ?_
      refine zr_ldcS 7 (by decide) rfl rfl dX3_kindOfWord_23 ?_
      refine zr_pVi zz_cX3 zz_C29 (ctX3_isWord 7 (by decide) h0 _ hw) zy_X3_isWord zm_X3_40 (by decide) rfl rfl (Nat.le_of_ble_eq_true rfl) dX3_kindOfWord_25 (fun r3 hw => ?_)
      refine zr_if_eq 33 dX3_kindOfWord_28 (by decide) (fun q => ?_) (fun q => ?_)
      · have hw := hw.1 q
        refine zr_aload_n dX3_kindOfWord_33 rfl rfl ?_
        refine zr_ldcS 8 (by decide) rfl rfl dX3_kindOfWord_34 ?_
        refine zr_pVi zz_cX3 zz_C29 (ctX3_isWord 8 (by decide) h0 _ hw) zy_X3_isWord zm_X3_40 (by decide) rfl rfl (Nat.le_of_ble_eq_true rfl) dX3_kindOfWord_36 (fun r4 hw => ?_)
        refine zr_if_eq 44 dX3_kindOfWord_39 (by decide) (fun q => ?_) (fun q => ?_)
        · have hw := hw.1 q
          refine zr_aload_n dX3_kindOfWord_44 rfl rfl ?_
          refine zr_ldcS 9 (by decide) rfl rfl dX3_kindOfWord_45 ?_
          refine zr_pVi zz_cX3 zz_C29 (ctX3_isWord 9 (by decide) h0 _ hw) zy_X3_isWord zm_X3_40 (by decide) rfl rfl (Nat.le_of_ble_eq_true rfl) dX3_kindOfWord_47 (fun r5 hw => ?_)
          refine zr_if_eq 55 dX3_kindOfWord_50 (by decide) (fun q => ?_) (fun q => ?_)
          · have hw := hw.1 q
            refine zr_aload_n dX3_kindOfWord_55 rfl rfl ?_
            refine zr_ldcS 10 (by decide) rfl rfl dX3_kindOfWord_56 ?_
            refine zr_pVi zz_cX3 zz_C29 (ctX3_isWord 10 (by decide) h0 _ hw) zy_X3_isWord zm_X3_40 (by decide) rfl rfl (Nat.le_of_ble_eq_true rfl) dX3_kindOfWord_58 (fun r6 hw => ?_)
            refine zr_if_eq 66 dX3_kindOfWord_61 (by decide) (fun q => ?_) (fun q => ?_)
            · have hw := hw.1 q
              refine zr_aload_n dX3_kindOfWord_66 rfl rfl ?_
              refine zr_ldcS 11 (by decide) rfl rfl dX3_kindOfWord_67 ?_
              refine zr_pVi zz_cX3 zz_C29 (ctX3_isWord 11 (by decide) h0 _ hw) zy_X3_isWord zm_X3_40 (by decide) rfl rfl (Nat.le_of_ble_eq_true rfl) dX3_kindOfWord_69 (fun r7 hw => ?_)
              refine zr_if_eq 80 dX3_kindOfWord_72 (by decide) (fun q => ?_) (fun q => ?_)
              · have hw := hw.1 q
                refine zr_iconst dX3_kindOfWord_80 zqk_m1 ?_
                exact zr_ret rfl rfl dX3_kindOfWord_81 ⟨rfl, hw⟩
              · have hw := hw.2 q
                refine zr_bipush dX3_kindOfWord_75 zbk_6 ?_
                refine zr_goto 81 dX3_kindOfWord_77 (by decide) ?_
                exact zr_ret rfl rfl dX3_kindOfWord_81 ⟨rfl, hw⟩
            · have hw := hw.2 q
              refine zr_iconst dX3_kindOfWord_64 zqk_5 ?_
              exact zr_ret rfl rfl dX3_kindOfWord_65 ⟨rfl, hw⟩
          · have hw := hw.2 q
            refine zr_iconst dX3_kindOfWord_53 zqk_4 ?_
            exact zr_ret rfl rfl dX3_kindOfWord_54 ⟨rfl, hw⟩
        · have hw := hw.2 q
          refine zr_iconst dX3_kindOfWord_42 zqk_3 ?_
          exact zr_ret rfl rfl dX3_kindOfWord_43 ⟨rfl, hw⟩
      · have hw := hw.2 q
        refine zr_iconst dX3_kindOfWord_31 zqk_2 ?_
        exact zr_ret rfl rfl dX3_kindOfWord_32 ⟨rfl, hw⟩
    · have hw := hw.2 q
      refine zr_iconst dX3_kindOfWord_20 zqk_1 ?_
      exact zr_ret rfl rfl dX3_kindOfWord_21 ⟨rfl, hw⟩
  · have hw := hw.2 q
    refine zr_iconst dX3_kindOfWord_9 zqk_0 ?_
    exact zr_ret rfl rfl dX3_kindOfWord_10 ⟨rfl, hw⟩
def wX3_readCurve (b : Nat) (p2 : Int32) (h0 : zz_H) (post : Int32 → zz_H → Prop) : Prop :=
  (((h0 b 8) < (6 : Int32)) → (wX3_step h0 (fun _ h1 => wX3_isWord 4 h1 (fun r2 => ((r2 = 0) → (wX0_addCurve b p2 (0 : Int32) h1 (fun r4 h3 => post (1 : Int32) h3))) ∧ ((¬ r2 = 0) → (wX3_step h1 (fun _ h5 => wX3_isNumber (100 : Int32) h5 (fun r6 => ((¬ r6 = 0) → (wX3_step h5 (fun _ h7 => wX0_addCurve b p2 (h5 29 5) h7 (fun r9 h8 => post (1 : Int32) h8)))) ∧ ((r6 = 0) → (post (0 : Int32) h5)))))))))) ∧ ((¬ (h0 b 8) < (6 : Int32)) → (post (0 : Int32) h0))
set_option maxRecDepth 20000 in
set_option maxHeartbeats 4000000 in
theorem ctX3_readCurve (b : Nat) (p2 : Int32) (hb : zz_pp b) (h0 : zz_H) (post : Int32 → zz_H → Prop) (hw : wX3_readCurve b p2 h0 post) : zz_Ct zz_C 6 yX3_readCurve cX3_readCurve 4 (some .boolean) [.ref 29, .ref b, .int p2] h0 post := by
  refine zz_ct (L := [.ref 29, .ref b, .int p2, .null]) (by decide +kernel) (Nat.le_of_ble_eq_true rfl) (fun ad q hq => hq) ?_
  show zz_Go zz_C 6 cX3_readCurve RX3 4 (some .boolean) post 0 [] [.ref 29, .ref b, .int p2, .null] h0
  unfold wX3_readCurve at hw
  refine zr_aload_n dX3_readCurve_0 rfl rfl ?_
  refine zr_getI zz_cX0 (zz_ppO hb) 8 (by decide) rfl zf_X3_94 dX3_readCurve_1 ?_
  refine zr_bipush dX3_readCurve_4 zbk_6 ?_
  refine zr_icmp_lt 11 dX3_readCurve_6 (by decide) (fun q => ?_) (fun q => ?_)
  · have hw := hw.1 q
    refine zr_iconst dX3_readCurve_11 zqk_0 ?_
    refine zr_istore_n [.ref 29, .ref b, .int p2, .int (0 : Int32)] dX3_readCurve_12 rfl (by decide) rfl rfl ?_
    refine zr_aload_n dX3_readCurve_13 rfl rfl ?_
    refine zr_callVv zz_cX3 zz_C29 (ctX3_step h0 _ hw) zy_X3_step zm_X3_31 (by decide) rfl rfl (Nat.le_of_ble_eq_true rfl) dX3_readCurve_14 (fun h1 hw => ?_)
    refine zr_aload_n dX3_readCurve_17 rfl rfl ?_
    refine zr_ldcS 4 (by decide) rfl rfl dX3_readCurve_18 ?_
    refine zr_pVi zz_cX3 zz_C29 (ctX3_isWord 4 (by decide) h1 _ hw) zy_X3_isWord zm_X3_40 (by decide) rfl rfl (Nat.le_of_ble_eq_true rfl) dX3_readCurve_20 (fun r2 hw => ?_)
    refine zr_if_eq 50 dX3_readCurve_23 (by decide) (fun q => ?_) (fun q => ?_)
    · have hw := hw.1 q
      refine zr_aload_n dX3_readCurve_50 rfl rfl ?_
      refine zr_iload_n dX3_readCurve_51 rfl rfl ?_
      refine zr_iload_n dX3_readCurve_52 rfl rfl ?_
      refine zr_callVi zz_cX0 (zz_ppO hb) (ctX0_addCurve b p2 (0 : Int32) hb h1 _ hw) zy_X0_addCurve zm_X3_99 (by decide) rfl rfl (Nat.le_of_ble_eq_true rfl) dX3_readCurve_53 (fun r4 h3 hw => ?_)
      refine zr_pop dX3_readCurve_56 rfl ?_
      refine zr_iconst dX3_readCurve_57 zqk_1 ?_
      exact zr_ret rfl rfl dX3_readCurve_58 hw
    · have hw := hw.2 q
      refine zr_aload_n dX3_readCurve_26 rfl rfl ?_
      refine zr_callVv zz_cX3 zz_C29 (ctX3_step h1 _ hw) zy_X3_step zm_X3_31 (by decide) rfl rfl (Nat.le_of_ble_eq_true rfl) dX3_readCurve_27 (fun h5 hw => ?_)
      refine zr_aload_n dX3_readCurve_30 rfl rfl ?_
      refine zr_bipush dX3_readCurve_31 zbk_100 ?_
      refine zr_pVi zz_cX3 zz_C29 (ctX3_isNumber (100 : Int32) h5 _ hw) zy_X3_isNumber zm_X3_65 (by decide) rfl rfl (Nat.le_of_ble_eq_true rfl) dX3_readCurve_33 (fun r6 hw => ?_)
      refine zr_if_ne 41 dX3_readCurve_36 (by decide) (fun q => ?_) (fun q => ?_)
      · have hw := hw.1 q
        refine zr_aload_n dX3_readCurve_41 rfl rfl ?_
        refine zr_getI zz_cX3 zz_C29 5 (by decide) rfl zf_X3_28 dX3_readCurve_42 ?_
        refine zr_istore_n [.ref 29, .ref b, .int p2, .int (h5 29 5)] dX3_readCurve_45 rfl (by decide) rfl rfl ?_
        refine zr_aload_n dX3_readCurve_46 rfl rfl ?_
        refine zr_callVv zz_cX3 zz_C29 (ctX3_step h5 _ hw) zy_X3_step zm_X3_31 (by decide) rfl rfl (Nat.le_of_ble_eq_true rfl) dX3_readCurve_47 (fun h7 hw => ?_)
        refine zr_aload_n dX3_readCurve_50 rfl rfl ?_
        refine zr_iload_n dX3_readCurve_51 rfl rfl ?_
        refine zr_iload_n dX3_readCurve_52 rfl rfl ?_
        refine zr_callVi zz_cX0 (zz_ppO hb) (ctX0_addCurve b p2 (h5 29 5) hb h7 _ hw) zy_X0_addCurve zm_X3_99 (by decide) rfl rfl (Nat.le_of_ble_eq_true rfl) dX3_readCurve_53 (fun r9 h8 hw => ?_)
        refine zr_pop dX3_readCurve_56 rfl ?_
        refine zr_iconst dX3_readCurve_57 zqk_1 ?_
        exact zr_ret rfl rfl dX3_readCurve_58 hw
      · have hw := hw.2 q
        refine zr_iconst dX3_readCurve_39 zqk_0 ?_
        exact zr_ret rfl rfl dX3_readCurve_40 hw
  · have hw := hw.2 q
    refine zr_iconst dX3_readCurve_9 zqk_0 ?_
    exact zr_ret rfl rfl dX3_readCurve_10 hw
def wX3_readItem (b : Nat) (h0 : zz_H) (post : Int32 → zz_H → Prop) : Prop :=
  wX3_isWord 0 h0 (fun r1 => ((r1 = 0) → (wX3_isWord 1 h0 (fun r2 => ((r2 = 0) → (wX3_isWord 2 h0 (fun r3 => ((r3 = 0) → (wX3_kindOfWord h0 (fun r4 => ((r4 < 0) → (post (0 : Int32) h0)) ∧ ((¬ r4 < 0) → (wX3_readCurve b r4 h0 (fun r6 h5 => ((r6 = 0) → (post (0 : Int32) h5)) ∧ ((¬ r6 = 0) → (post (1 : Int32) h5)))))))) ∧ ((¬ r3 = 0) → (wX3_readPupil b h0 (fun r8 h7 => zz_z r8 ∧ post r8 h7)))))) ∧ ((¬ r2 = 0) → (wX3_readCommon b h0 (fun r10 h9 => zz_z r10 ∧ post r10 h9)))))) ∧ ((¬ r1 = 0) → (wX3_readQuestion b h0 (fun r12 h11 => zz_z r12 ∧ post r12 h11))))
set_option maxRecDepth 20000 in
set_option maxHeartbeats 4000000 in
theorem ctX3_readItem (b : Nat) (hb : zz_pp b) (h0 : zz_H) (post : Int32 → zz_H → Prop) (hw : wX3_readItem b h0 post) : zz_Ct zz_C 7 yX3_readItem cX3_readItem 3 (some .boolean) [.ref 29, .ref b] h0 post := by
  refine zz_ct (L := [.ref 29, .ref b, .null]) (by decide +kernel) (Nat.le_of_ble_eq_true rfl) (fun ad q hq => hq) ?_
  show zz_Go zz_C 7 cX3_readItem RX3 3 (some .boolean) post 0 [] [.ref 29, .ref b, .null] h0
  unfold wX3_readItem at hw
  refine zr_aload_n dX3_readItem_0 rfl rfl ?_
  refine zr_ldcS 0 (by decide) rfl rfl dX3_readItem_1 ?_
  refine zr_pVi zz_cX3 zz_C29 (ctX3_isWord 0 (by decide) h0 _ hw) zy_X3_isWord zm_X3_40 (by decide) rfl rfl (Nat.le_of_ble_eq_true rfl) dX3_readItem_3 (fun r1 hw => ?_)
  refine zr_if_eq 15 dX3_readItem_6 (by decide) (fun q => ?_) (fun q => ?_)
  · have hw := hw.1 q
    refine zr_aload_n dX3_readItem_15 rfl rfl ?_
    refine zr_ldcS 1 (by decide) rfl rfl dX3_readItem_16 ?_
    refine zr_pVi zz_cX3 zz_C29 (ctX3_isWord 1 (by decide) h0 _ hw) zy_X3_isWord zm_X3_40 (by decide) rfl rfl (Nat.le_of_ble_eq_true rfl) dX3_readItem_18 (fun r2 hw => ?_)
    refine zr_if_eq 30 dX3_readItem_21 (by decide) (fun q => ?_) (fun q => ?_)
    · have hw := hw.1 q
      refine zr_aload_n dX3_readItem_30 rfl rfl ?_
      refine zr_ldcS 2 (by decide) rfl rfl dX3_readItem_31 ?_
      refine zr_pVi zz_cX3 zz_C29 (ctX3_isWord 2 (by decide) h0 _ hw) zy_X3_isWord zm_X3_40 (by decide) rfl rfl (Nat.le_of_ble_eq_true rfl) dX3_readItem_33 (fun r3 hw => ?_)
      refine zr_if_eq 45 dX3_readItem_36 (by decide) (fun q => ?_) (fun q => ?_)
      · have hw := hw.1 q
        refine zr_aload_n dX3_readItem_45 rfl rfl ?_
        refine zr_pVi zz_cX3 zz_C29 (ctX3_kindOfWord h0 _ hw) zy_X3_kindOfWord zm_X3_57 (by decide) rfl rfl (Nat.le_of_ble_eq_true rfl) dX3_readItem_46 (fun r4 hw => ?_)
        refine zr_istore_n [.ref 29, .ref b, .int r4] dX3_readItem_49 rfl (by decide) rfl rfl ?_
        refine zr_iload_n dX3_readItem_50 rfl rfl ?_
        refine zr_if_lt 67 dX3_readItem_51 (by decide) (fun q => ?_) (fun q => ?_)
        · have hw := hw.1 q
          refine zr_iconst dX3_readItem_67 zqk_0 ?_
          exact zr_ret rfl rfl dX3_readItem_68 hw
        · have hw := hw.2 q
          refine zr_aload_n dX3_readItem_54 rfl rfl ?_
          refine zr_aload_n dX3_readItem_55 rfl rfl ?_
          refine zr_iload_n dX3_readItem_56 rfl rfl ?_
          refine zr_callVi zz_cX3 zz_C29 (ctX3_readCurve b r4 hb h0 _ hw) zy_X3_readCurve zm_X3_61 (by decide) rfl rfl (Nat.le_of_ble_eq_true rfl) dX3_readItem_57 (fun r6 h5 hw => ?_)
          refine zr_if_eq 67 dX3_readItem_60 (by decide) (fun q => ?_) (fun q => ?_)
          · have hw := hw.1 q
            refine zr_iconst dX3_readItem_67 zqk_0 ?_
            exact zr_ret rfl rfl dX3_readItem_68 hw
          · have hw := hw.2 q
            refine zr_iconst dX3_readItem_63 zqk_1 ?_
            refine zr_goto 68 dX3_readItem_64 (by decide) ?_
            exact zr_ret rfl rfl dX3_readItem_68 hw
      · have hw := hw.2 q
        refine zr_aload_n dX3_readItem_39 rfl rfl ?_
        refine zr_aload_n dX3_readItem_40 rfl rfl ?_
        refine zr_callVi zz_cX3 zz_C29 (ctX3_readPupil b hb h0 _ hw) zy_X3_readPupil zm_X3_54 (by decide) rfl rfl (Nat.le_of_ble_eq_true rfl) dX3_readItem_41 (fun r8 h7 hw => ?_)
        exact zr_ret rfl hw.1 dX3_readItem_44 hw.2
    · have hw := hw.2 q
      refine zr_aload_n dX3_readItem_24 rfl rfl ?_
      refine zr_aload_n dX3_readItem_25 rfl rfl ?_
      refine zr_callVi zz_cX3 zz_C29 (ctX3_readCommon b hb h0 _ hw) zy_X3_readCommon zm_X3_49 (by decide) rfl rfl (Nat.le_of_ble_eq_true rfl) dX3_readItem_26 (fun r10 h9 hw => ?_)
      exact zr_ret rfl hw.1 dX3_readItem_29 hw.2
  · have hw := hw.2 q
    refine zr_aload_n dX3_readItem_9 rfl rfl ?_
    refine zr_aload_n dX3_readItem_10 rfl rfl ?_
    refine zr_callVi zz_cX3 zz_C29 (ctX3_readQuestion b hb h0 _ hw) zy_X3_readQuestion zm_X3_44 (by decide) rfl rfl (Nat.le_of_ble_eq_true rfl) dX3_readItem_11 (fun r12 h11 hw => ?_)
    exact zr_ret rfl hw.1 dX3_readItem_14 hw.2
def wX3_readInto_b11 (b : Nat) (post : Int32 → zz_H → Prop) (K5 : Int32 × zz_H → Prop) (x3 : Int32) (h4 : zz_H) : Prop :=
  (((120 : Int32) < x3) → (post (((-1) : Int32) - (h4 29 3)) h4)) ∧ ((¬ (120 : Int32) < x3) → (wX3_readItem b h4 (fun r7 h6 => ((¬ r7 = 0) → (((¬ (h6 29 2) = 0) → ((((h6 29 2) = (3 : Int32)) → (wX3_step h6 (fun _ h8 => K5 ((x3 + 1), h8)))) ∧ ((¬ (h6 29 2) = (3 : Int32)) → (post (((-1) : Int32) - (h6 29 3)) h6)))) ∧ (((h6 29 2) = 0) → (post x3 h6)))) ∧ ((r7 = 0) → (post (((-1) : Int32) - (h6 29 3)) h6)))))
def wX3_readInto (b : Nat) (h0 : zz_H) (post : Int32 → zz_H → Prop) : Prop :=
  zz_sto h0 29 (upd (h0 29) 4 (0 : Int32)) (fun h1 => wX3_step h1 (fun _ h2 => ∃ t9, zz_lp (fun K (s : Int32 × zz_H) => wX3_readInto_b11 b post K s.1 s.2) t9 ((1 : Int32), h2)))
set_option maxRecDepth 20000 in
set_option maxHeartbeats 4000000 in
theorem ctX3_readInto (b : Nat) (hb : zz_pp b) (h0 : zz_H) (post : Int32 → zz_H → Prop) (hw : wX3_readInto b h0 post) : zz_Ct zz_C 8 yX3_readInto cX3_readInto 3 (some .int) [.ref 29, .ref b] h0 post := by
  refine zz_ct (L := [.ref 29, .ref b, .null]) (by decide +kernel) (Nat.le_of_ble_eq_true rfl) (fun ad q hq => hq) ?_
  show zz_Go zz_C 8 cX3_readInto RX3 3 (some .int) post 0 [] [.ref 29, .ref b, .null] h0
  unfold wX3_readInto at hw
  refine zr_aload_n dX3_readInto_0 rfl rfl ?_
  refine zr_iconst dX3_readInto_1 zqk_0 ?_
  refine zr_putI zz_cX3 zz_C29 4 (by decide) rfl rfl rfl rfl rfl zf_X3_25 dX3_readInto_2 hw (fun h1 hw => ?_)
  refine zr_aload_n dX3_readInto_5 rfl rfl ?_
  refine zr_callVv zz_cX3 zz_C29 (ctX3_step h1 _ hw) zy_X3_step zm_X3_31 (by decide) rfl rfl (Nat.le_of_ble_eq_true rfl) dX3_readInto_6 (fun h2 hw => ?_)
  refine zr_iconst dX3_readInto_9 zqk_1 ?_
  refine zr_istore_n [.ref 29, .ref b, .int (1 : Int32)] dX3_readInto_10 rfl (by decide) rfl rfl ?_
  obtain ⟨t9, hw⟩ := hw
  have step11 : ∀ (K5 : Int32 × zz_H → Prop), (∀ (x3 : Int32) (h4 : zz_H), K5 (x3, h4) → zz_Go zz_C 8 cX3_readInto RX3 3 (some .int) post 11 [] [.ref 29, .ref b, .int x3] h4) → ∀ (x3 : Int32) (h4 : zz_H), wX3_readInto_b11 b post K5 x3 h4 → zz_Go zz_C 8 cX3_readInto RX3 3 (some .int) post 11 [] [.ref 29, .ref b, .int x3] h4 := by
    intro K5 ih11 x3 h4 hw
    unfold wX3_readInto_b11 at hw
    refine zr_iload_n dX3_readInto_11 rfl rfl ?_
    refine zr_bipush dX3_readInto_12 zbk_120 ?_
    refine zr_icmp_gt 66 dX3_readInto_14 (by decide) (fun q => ?_) (fun q => ?_)
    · have hw := hw.1 q
      refine zr_iconst dX3_readInto_66 zqk_m1 ?_
      refine zr_aload_n dX3_readInto_67 rfl rfl ?_
      refine zr_getI zz_cX3 zz_C29 3 (by decide) rfl zf_X3_22 dX3_readInto_68 ?_
      refine zr_isub dX3_readInto_71 ?_
      exact zr_ret rfl rfl dX3_readInto_72 hw
    · have hw := hw.2 q
      refine zr_aload_n dX3_readInto_17 rfl rfl ?_
      refine zr_aload_n dX3_readInto_18 rfl rfl ?_
      refine zr_callVi zz_cX3 zz_C29 (ctX3_readItem b hb h4 _ hw) zy_X3_readItem zm_X3_34 (by decide) rfl rfl (Nat.le_of_ble_eq_true rfl) dX3_readInto_19 (fun r7 h6 hw => ?_)
      refine zr_if_ne 32 dX3_readInto_22 (by decide) (fun q => ?_) (fun q => ?_)
      · have hw := hw.1 q
        refine zr_aload_n dX3_readInto_32 rfl rfl ?_
        refine zr_getI zz_cX3 zz_C29 2 (by decide) rfl zf_X3_19 dX3_readInto_33 ?_
        refine zr_if_ne 41 dX3_readInto_36 (by decide) (fun q => ?_) (fun q => ?_)
        · have hw := hw.1 q
          refine zr_aload_n dX3_readInto_41 rfl rfl ?_
          refine zr_getI zz_cX3 zz_C29 2 (by decide) rfl zf_X3_19 dX3_readInto_42 ?_
          refine zr_iconst dX3_readInto_45 zqk_3 ?_
          refine zr_icmp_eq 56 dX3_readInto_46 (by decide) (fun q => ?_) (fun q => ?_)
          · have hw := hw.1 q
            refine zr_aload_n dX3_readInto_56 rfl rfl ?_
            refine zr_callVv zz_cX3 zz_C29 (ctX3_step h6 _ hw) zy_X3_step zm_X3_31 (by decide) rfl rfl (Nat.le_of_ble_eq_true rfl) dX3_readInto_57 (fun h8 hw => ?_)
            refine zr_iinc (x3 + 1) [.ref 29, .ref b, .int (x3 + 1)] dX3_readInto_60 rfl (zok_1 _) (by decide) rfl rfl ?_
            refine zr_goto 11 dX3_readInto_63 (by decide) ?_
            exact ih11 _ _ hw
          · have hw := hw.2 q
            refine zr_iconst dX3_readInto_49 zqk_m1 ?_
            refine zr_aload_n dX3_readInto_50 rfl rfl ?_
            refine zr_getI zz_cX3 zz_C29 3 (by decide) rfl zf_X3_22 dX3_readInto_51 ?_
            refine zr_isub dX3_readInto_54 ?_
            exact zr_ret rfl rfl dX3_readInto_55 hw
        · have hw := hw.2 q
          refine zr_iload_n dX3_readInto_39 rfl rfl ?_
          exact zr_ret rfl rfl dX3_readInto_40 hw
      · have hw := hw.2 q
        refine zr_iconst dX3_readInto_25 zqk_m1 ?_
        refine zr_aload_n dX3_readInto_26 rfl rfl ?_
        refine zr_getI zz_cX3 zz_C29 3 (by decide) rfl zf_X3_22 dX3_readInto_27 ?_
        refine zr_isub dX3_readInto_30 ?_
        exact zr_ret rfl rfl dX3_readInto_31 hw
  have key11 : ∀ (t9 : Nat) (x3 : Int32) (h4 : zz_H), zz_lp (fun K (s : Int32 × zz_H) => wX3_readInto_b11 b post K s.1 s.2) t9 (x3, h4) → zz_Go zz_C 8 cX3_readInto RX3 3 (some .int) post 11 [] [.ref 29, .ref b, .int x3] h4 := by
    intro t9
    induction t9 with
    | zero => intro x3 h4 hw; exact hw.elim
    | succ t9 ih => intro x3 h4 hw; exact step11 _ ih _ _ hw
  exact key11 t9 _ _ hw
def wX4_within (p1 : Int32) (p2 : Int32) (p3 : Int32) (h0 : zz_H) (post : Int32 → Prop) : Prop :=
  ((p1 < p2) → (post (0 : Int32))) ∧ ((¬ p1 < p2) → (((p3 < p1) → (post (0 : Int32))) ∧ ((¬ p3 < p1) → (post (1 : Int32)))))
set_option maxRecDepth 20000 in
set_option maxHeartbeats 4000000 in
theorem ctX4_within (p1 : Int32) (p2 : Int32) (p3 : Int32) (h0 : zz_H) (post : Int32 → Prop) (hw : wX4_within p1 p2 p3 h0 post) : zz_Ct zz_C 0 yX4_within cX4_within 3 (some .boolean) [.int p1, .int p2, .int p3] h0 (zz_pu h0 post) := by
  refine zz_ct (L := [.int p1, .int p2, .int p3]) (by decide +kernel) (Nat.le_of_ble_eq_true rfl) (fun ad q hq => hq) ?_
  show zz_Go zz_C 0 cX4_within RX4 3 (some .boolean) (zz_pu h0 post) 0 [] [.int p1, .int p2, .int p3] h0
  unfold wX4_within at hw
  refine zr_iload_n dX4_within_0 rfl rfl ?_
  refine zr_iload_n dX4_within_1 rfl rfl ?_
  refine zr_icmp_lt 14 dX4_within_2 (by decide) (fun q => ?_) (fun q => ?_)
  · have hw := hw.1 q
    refine zr_iconst dX4_within_14 zqk_0 ?_
    exact zr_ret rfl rfl dX4_within_15 ⟨rfl, hw⟩
  · have hw := hw.2 q
    refine zr_iload_n dX4_within_5 rfl rfl ?_
    refine zr_iload_n dX4_within_6 rfl rfl ?_
    refine zr_icmp_gt 14 dX4_within_7 (by decide) (fun q => ?_) (fun q => ?_)
    · have hw := hw.1 q
      refine zr_iconst dX4_within_14 zqk_0 ?_
      exact zr_ret rfl rfl dX4_within_15 ⟨rfl, hw⟩
    · have hw := hw.2 q
      refine zr_iconst dX4_within_10 zqk_1 ?_
      refine zr_goto 15 dX4_within_11 (by decide) ?_
      exact zr_ret rfl rfl dX4_within_15 ⟨rfl, hw⟩
def wX4_isQuestion (p1 : Int32) (h0 : zz_H) (post : Int32 → Prop) : Prop :=
  wX4_within p1 (0 : Int32) (7 : Int32) h0 (fun r1 => zz_z r1 ∧ post r1)
set_option maxRecDepth 20000 in
set_option maxHeartbeats 4000000 in
theorem ctX4_isQuestion (p1 : Int32) (h0 : zz_H) (post : Int32 → Prop) (hw : wX4_isQuestion p1 h0 post) : zz_Ct zz_C 1 yX4_isQuestion cX4_isQuestion 1 (some .boolean) [.int p1] h0 (zz_pu h0 post) := by
  refine zz_ct (L := [.int p1]) (by decide +kernel) (Nat.le_of_ble_eq_true rfl) (fun ad q hq => hq) ?_
  show zz_Go zz_C 1 cX4_isQuestion RX4 1 (some .boolean) (zz_pu h0 post) 0 [] [.int p1] h0
  unfold wX4_isQuestion at hw
  refine zr_iload_n dX4_isQuestion_0 rfl rfl ?_
  refine zr_iconst dX4_isQuestion_1 zqk_0 ?_
  refine zr_bipush dX4_isQuestion_2 zbk_7 ?_
  refine zr_pSi (ctX4_within p1 (0 : Int32) (7 : Int32) h0 _ hw) zy_X4_within zm_X4_61 (by decide) rfl rfl (Nat.le_of_ble_eq_true rfl) dX4_isQuestion_4 (fun r1 hw => ?_)
  exact zr_ret rfl hw.1 dX4_isQuestion_7 ⟨rfl, hw.2⟩
def wX4_tell (p1 : Int32) (h0 : zz_H) (post : Int32 → zz_H → Prop) : Prop :=
  wX4_within (((-1000001) : Int32) - p1) (0 : Int32) (6 : Int32) h0 (fun r1 => ((r1 = 0) → (post p1 h0)) ∧ ((¬ r1 = 0) → (vp_in (((-1000001) : Int32) - p1) 7 ∧ (vp_in (((-1000001) : Int32) - p1) 7 ∧ zz_sto h0 34 (upd (h0 34) (((-1000001) : Int32) - p1).toNatClampNeg ((h0 34 (((-1000001) : Int32) - p1).toNatClampNeg) + (1 : Int32))) (fun h2 => post p1 h2)))))
set_option maxRecDepth 20000 in
set_option maxHeartbeats 4000000 in
theorem ctX4_tell (p1 : Int32) (h0 : zz_H) (post : Int32 → zz_H → Prop) (hw : wX4_tell p1 h0 post) : zz_Ct zz_C 1 yX4_tell cX4_tell 3 (some .int) [.ref 0, .int p1] h0 post := by
  refine zz_ct (L := [.ref 0, .int p1, .null]) (by decide +kernel) (Nat.le_of_ble_eq_true rfl) (fun ad q hq => hq) ?_
  show zz_Go zz_C 1 cX4_tell RX4 3 (some .int) post 0 [] [.ref 0, .int p1, .null] h0
  unfold wX4_tell at hw
  refine zr_ldc zk_X4_65 dX4_tell_0 ?_
  refine zr_iload_n dX4_tell_2 rfl rfl ?_
  refine zr_isub dX4_tell_3 ?_
  refine zr_istore_n [.ref 0, .int p1, .int (((-1000001) : Int32) - p1)] dX4_tell_4 rfl (by decide) rfl rfl ?_
  refine zr_iload_n dX4_tell_5 rfl rfl ?_
  refine zr_iconst dX4_tell_6 zqk_0 ?_
  refine zr_bipush dX4_tell_7 zbk_6 ?_
  refine zr_pSi (ctX4_within (((-1000001) : Int32) - p1) (0 : Int32) (6 : Int32) h0 _ hw) zy_X4_within zm_X4_61 (by decide) rfl rfl (Nat.le_of_ble_eq_true rfl) dX4_tell_9 (fun r1 hw => ?_)
  refine zr_if_eq 25 dX4_tell_12 (by decide) (fun q => ?_) (fun q => ?_)
  · have hw := hw.1 q
    refine zr_iload_n dX4_tell_25 rfl rfl ?_
    exact zr_ret rfl rfl dX4_tell_26 hw
  · have hw := hw.2 q
    refine zr_aload_n dX4_tell_15 rfl rfl ?_
    refine zr_getR zz_cX4 zz_C0 8 (by decide) rfl zf_X4_49 dX4_tell_16 ?_
    refine zr_iload_n dX4_tell_19 rfl rfl ?_
    refine zr_dup2 dX4_tell_20 rfl rfl ?_
    obtain ⟨hi, hw⟩ := hw
    refine zr_iald zz_C34 hi rfl dX4_tell_21 ?_
    refine zr_iconst dX4_tell_22 zqk_1 ?_
    refine zr_iadd dX4_tell_23 ?_
    obtain ⟨hi, hw⟩ := hw
    refine zr_iast zz_C34 hi rfl dX4_tell_24 hw (fun h2 hw => ?_)
    refine zr_iload_n dX4_tell_25 rfl rfl ?_
    exact zr_ret rfl rfl dX4_tell_26 hw
def wX4_worth (p1 : Int32) (p2 : Int32) (h0 : zz_H) (post : Int32 → zz_H → Prop) : Prop :=
  wX4_isQuestion p1 h0 (fun r1 => ((r1 = 0) → (wX4_tell ((-1000001) : Int32) h0 (fun r3 h2 => post r3 h2))) ∧ ((¬ r1 = 0) → (wX4_within p2 (0 : Int32) (40 : Int32) h0 (fun r4 => ((¬ r4 = 0) → (vp_in p1 8 ∧ (wX0_setWorth 1 p1 p2 h0 (fun _ h5 => post (h0 2 p1.toNatClampNeg) h5)))) ∧ ((r4 = 0) → (wX4_tell ((-1000001) : Int32) h0 (fun r7 h6 => post r7 h6)))))))
set_option maxRecDepth 20000 in
set_option maxHeartbeats 4000000 in
theorem ctX4_worth (p1 : Int32) (p2 : Int32) (h0 : zz_H) (post : Int32 → zz_H → Prop) (hw : wX4_worth p1 p2 h0 post) : zz_Ct zz_C 2 yX4_worth cX4_worth 4 (some .int) [.ref 0, .int p1, .int p2] h0 post := by
  refine zz_ct (L := [.ref 0, .int p1, .int p2, .null]) (by decide +kernel) (Nat.le_of_ble_eq_true rfl) (fun ad q hq => hq) ?_
  show zz_Go zz_C 2 cX4_worth RX4 4 (some .int) post 0 [] [.ref 0, .int p1, .int p2, .null] h0
  unfold wX4_worth at hw
  refine zr_iload_n dX4_worth_0 rfl rfl ?_
  refine zr_pSi (ctX4_isQuestion p1 h0 _ hw) zy_X4_isQuestion zm_X4_57 (by decide) rfl rfl (Nat.le_of_ble_eq_true rfl) dX4_worth_1 (fun r1 hw => ?_)
  refine zr_if_eq 17 dX4_worth_4 (by decide) (fun q => ?_) (fun q => ?_)
  · have hw := hw.1 q
    refine zr_aload_n dX4_worth_17 rfl rfl ?_
    refine zr_ldc zk_X4_65 dX4_worth_18 ?_
    refine zr_callVi zz_cX4 zz_C0 (ctX4_tell ((-1000001) : Int32) h0 _ hw) zy_X4_tell zm_X4_66 (by decide) rfl rfl (Nat.le_of_ble_eq_true rfl) dX4_worth_20 (fun r3 h2 hw => ?_)
    exact zr_ret rfl rfl dX4_worth_23 hw
  · have hw := hw.2 q
    refine zr_iload_n dX4_worth_7 rfl rfl ?_
    refine zr_iconst dX4_worth_8 zqk_0 ?_
    refine zr_bipush dX4_worth_9 zbk_40 ?_
    refine zr_pSi (ctX4_within p2 (0 : Int32) (40 : Int32) h0 _ hw) zy_X4_within zm_X4_61 (by decide) rfl rfl (Nat.le_of_ble_eq_true rfl) dX4_worth_11 (fun r4 hw => ?_)
    refine zr_if_ne 24 dX4_worth_14 (by decide) (fun q => ?_) (fun q => ?_)
    · have hw := hw.1 q
      refine zr_aload_n dX4_worth_24 rfl rfl ?_
      refine zr_getR zz_cX4 zz_C0 0 (by decide) rfl zf_X4_12 dX4_worth_25 ?_
      refine zr_getR zz_cX0 zz_C1 0 (by decide) rfl zf_X4_70 dX4_worth_28 ?_
      refine zr_iload_n dX4_worth_31 rfl rfl ?_
      obtain ⟨hi, hw⟩ := hw
      refine zr_iald zz_C2 hi rfl dX4_worth_32 ?_
      refine zr_istore_n [.ref 0, .int p1, .int p2, .int (h0 2 p1.toNatClampNeg)] dX4_worth_33 rfl (by decide) rfl rfl ?_
      refine zr_aload_n dX4_worth_34 rfl rfl ?_
      refine zr_getR zz_cX4 zz_C0 0 (by decide) rfl zf_X4_12 dX4_worth_35 ?_
      refine zr_iload_n dX4_worth_38 rfl rfl ?_
      refine zr_iload_n dX4_worth_39 rfl rfl ?_
      refine zr_callVv zz_cX0 zz_C1 (ctX0_setWorth 1 p1 p2 (Or.inl rfl) h0 _ hw) zy_X0_setWorth zm_X4_73 (by decide) rfl rfl (Nat.le_of_ble_eq_true rfl) dX4_worth_40 (fun h5 hw => ?_)
      refine zr_iload_n dX4_worth_43 rfl rfl ?_
      exact zr_ret rfl rfl dX4_worth_44 hw
    · have hw := hw.2 q
      refine zr_aload_n dX4_worth_17 rfl rfl ?_
      refine zr_ldc zk_X4_65 dX4_worth_18 ?_
      refine zr_callVi zz_cX4 zz_C0 (ctX4_tell ((-1000001) : Int32) h0 _ hw) zy_X4_tell zm_X4_66 (by decide) rfl rfl (Nat.le_of_ble_eq_true rfl) dX4_worth_20 (fun r7 h6 hw => ?_)
      exact zr_ret rfl rfl dX4_worth_23 hw
def wX4_common (p1 : Int32) (p2 : Int32) (h0 : zz_H) (post : Int32 → zz_H → Prop) : Prop :=
  wX4_isQuestion p1 h0 (fun r1 => ((r1 = 0) → (wX4_tell ((-1000001) : Int32) h0 (fun r3 h2 => post r3 h2))) ∧ ((¬ r1 = 0) → (wX4_within p2 ((-1) : Int32) (400 : Int32) h0 (fun r4 => ((¬ r4 = 0) → (vp_in p1 8 ∧ (vp_in p1 8 ∧ zz_sto h0 3 (upd (h0 3) p1.toNatClampNeg p2) (fun h5 => post (h0 3 p1.toNatClampNeg) h5)))) ∧ ((r4 = 0) → (wX4_tell ((-1000001) : Int32) h0 (fun r7 h6 => post r7 h6)))))))
set_option maxRecDepth 20000 in
set_option maxHeartbeats 4000000 in
theorem ctX4_common (p1 : Int32) (p2 : Int32) (h0 : zz_H) (post : Int32 → zz_H → Prop) (hw : wX4_common p1 p2 h0 post) : zz_Ct zz_C 2 yX4_common cX4_common 4 (some .int) [.ref 0, .int p1, .int p2] h0 post := by
  refine zz_ct (L := [.ref 0, .int p1, .int p2, .null]) (by decide +kernel) (Nat.le_of_ble_eq_true rfl) (fun ad q hq => hq) ?_
  show zz_Go zz_C 2 cX4_common RX4 4 (some .int) post 0 [] [.ref 0, .int p1, .int p2, .null] h0
  unfold wX4_common at hw
  refine zr_iload_n dX4_common_0 rfl rfl ?_
  refine zr_pSi (ctX4_isQuestion p1 h0 _ hw) zy_X4_isQuestion zm_X4_57 (by decide) rfl rfl (Nat.le_of_ble_eq_true rfl) dX4_common_1 (fun r1 hw => ?_)
  refine zr_if_eq 18 dX4_common_4 (by decide) (fun q => ?_) (fun q => ?_)
  · have hw := hw.1 q
    refine zr_aload_n dX4_common_18 rfl rfl ?_
    refine zr_ldc zk_X4_65 dX4_common_19 ?_
    refine zr_callVi zz_cX4 zz_C0 (ctX4_tell ((-1000001) : Int32) h0 _ hw) zy_X4_tell zm_X4_66 (by decide) rfl rfl (Nat.le_of_ble_eq_true rfl) dX4_common_21 (fun r3 h2 hw => ?_)
    exact zr_ret rfl rfl dX4_common_24 hw
  · have hw := hw.2 q
    refine zr_iload_n dX4_common_7 rfl rfl ?_
    refine zr_iconst dX4_common_8 zqk_m1 ?_
    refine zr_sipush dX4_common_9 zhk_400 ?_
    refine zr_pSi (ctX4_within p2 ((-1) : Int32) (400 : Int32) h0 _ hw) zy_X4_within zm_X4_61 (by decide) rfl rfl (Nat.le_of_ble_eq_true rfl) dX4_common_12 (fun r4 hw => ?_)
    refine zr_if_ne 25 dX4_common_15 (by decide) (fun q => ?_) (fun q => ?_)
    · have hw := hw.1 q
      refine zr_aload_n dX4_common_25 rfl rfl ?_
      refine zr_getR zz_cX4 zz_C0 0 (by decide) rfl zf_X4_12 dX4_common_26 ?_
      refine zr_getR zz_cX0 zz_C1 1 (by decide) rfl zf_X4_77 dX4_common_29 ?_
      refine zr_iload_n dX4_common_32 rfl rfl ?_
      obtain ⟨hi, hw⟩ := hw
      refine zr_iald zz_C3 hi rfl dX4_common_33 ?_
      refine zr_istore_n [.ref 0, .int p1, .int p2, .int (h0 3 p1.toNatClampNeg)] dX4_common_34 rfl (by decide) rfl rfl ?_
      refine zr_aload_n dX4_common_35 rfl rfl ?_
      refine zr_getR zz_cX4 zz_C0 0 (by decide) rfl zf_X4_12 dX4_common_36 ?_
      refine zr_getR zz_cX0 zz_C1 1 (by decide) rfl zf_X4_77 dX4_common_39 ?_
      refine zr_iload_n dX4_common_42 rfl rfl ?_
      refine zr_iload_n dX4_common_43 rfl rfl ?_
      obtain ⟨hi, hw⟩ := hw
      refine zr_iast zz_C3 hi rfl dX4_common_44 hw (fun h5 hw => ?_)
      refine zr_iload_n dX4_common_45 rfl rfl ?_
      exact zr_ret rfl rfl dX4_common_46 hw
    · have hw := hw.2 q
      refine zr_aload_n dX4_common_18 rfl rfl ?_
      refine zr_ldc zk_X4_65 dX4_common_19 ?_
      refine zr_callVi zz_cX4 zz_C0 (ctX4_tell ((-1000001) : Int32) h0 _ hw) zy_X4_tell zm_X4_66 (by decide) rfl rfl (Nat.le_of_ble_eq_true rfl) dX4_common_21 (fun r7 h6 hw => ?_)
      exact zr_ret rfl rfl dX4_common_24 hw
def wX4_pupil (p1 : Int32) (h0 : zz_H) (post : Int32 → zz_H → Prop) : Prop :=
  wX4_within p1 (0 : Int32) (3 : Int32) h0 (fun r1 => ((¬ r1 = 0) → ((((h0 1 7) < (12 : Int32)) → (wX0_addPupil 1 p1 h0 (fun r3 h2 => post r3 h2))) ∧ ((¬ (h0 1 7) < (12 : Int32)) → (wX4_tell ((-1000002) : Int32) h0 (fun r5 h4 => post r5 h4))))) ∧ ((r1 = 0) → (wX4_tell ((-1000001) : Int32) h0 (fun r7 h6 => post r7 h6))))
set_option maxRecDepth 20000 in
set_option maxHeartbeats 4000000 in
theorem ctX4_pupil (p1 : Int32) (h0 : zz_H) (post : Int32 → zz_H → Prop) (hw : wX4_pupil p1 h0 post) : zz_Ct zz_C 3 yX4_pupil cX4_pupil 2 (some .int) [.ref 0, .int p1] h0 post := by
  refine zz_ct (L := [.ref 0, .int p1]) (by decide +kernel) (Nat.le_of_ble_eq_true rfl) (fun ad q hq => hq) ?_
  show zz_Go zz_C 3 cX4_pupil RX4 2 (some .int) post 0 [] [.ref 0, .int p1] h0
  unfold wX4_pupil at hw
  refine zr_iload_n dX4_pupil_0 rfl rfl ?_
  refine zr_iconst dX4_pupil_1 zqk_0 ?_
  refine zr_iconst dX4_pupil_2 zqk_3 ?_
  refine zr_pSi (ctX4_within p1 (0 : Int32) (3 : Int32) h0 _ hw) zy_X4_within zm_X4_61 (by decide) rfl rfl (Nat.le_of_ble_eq_true rfl) dX4_pupil_3 (fun r1 hw => ?_)
  refine zr_if_ne 16 dX4_pupil_6 (by decide) (fun q => ?_) (fun q => ?_)
  · have hw := hw.1 q
    refine zr_aload_n dX4_pupil_16 rfl rfl ?_
    refine zr_getR zz_cX4 zz_C0 0 (by decide) rfl zf_X4_12 dX4_pupil_17 ?_
    refine zr_getI zz_cX0 zz_C1 7 (by decide) rfl zf_X4_80 dX4_pupil_20 ?_
    refine zr_bipush dX4_pupil_23 zbk_12 ?_
    refine zr_icmp_lt 35 dX4_pupil_25 (by decide) (fun q => ?_) (fun q => ?_)
    · have hw := hw.1 q
      refine zr_aload_n dX4_pupil_35 rfl rfl ?_
      refine zr_getR zz_cX4 zz_C0 0 (by decide) rfl zf_X4_12 dX4_pupil_36 ?_
      refine zr_iload_n dX4_pupil_39 rfl rfl ?_
      refine zr_callVi zz_cX0 zz_C1 (ctX0_addPupil 1 p1 (Or.inl rfl) h0 _ hw) zy_X0_addPupil zm_X4_85 (by decide) rfl rfl (Nat.le_of_ble_eq_true rfl) dX4_pupil_40 (fun r3 h2 hw => ?_)
      exact zr_ret rfl rfl dX4_pupil_43 hw
    · have hw := hw.2 q
      refine zr_aload_n dX4_pupil_28 rfl rfl ?_
      refine zr_ldc zk_X4_84 dX4_pupil_29 ?_
      refine zr_callVi zz_cX4 zz_C0 (ctX4_tell ((-1000002) : Int32) h0 _ hw) zy_X4_tell zm_X4_66 (by decide) rfl rfl (Nat.le_of_ble_eq_true rfl) dX4_pupil_31 (fun r5 h4 hw => ?_)
      exact zr_ret rfl rfl dX4_pupil_34 hw
  · have hw := hw.2 q
    refine zr_aload_n dX4_pupil_9 rfl rfl ?_
    refine zr_ldc zk_X4_65 dX4_pupil_10 ?_
    refine zr_callVi zz_cX4 zz_C0 (ctX4_tell ((-1000001) : Int32) h0 _ hw) zy_X4_tell zm_X4_66 (by decide) rfl rfl (Nat.le_of_ble_eq_true rfl) dX4_pupil_12 (fun r7 h6 hw => ?_)
    exact zr_ret rfl rfl dX4_pupil_15 hw
def wX4_isPupil (p1 : Int32) (h0 : zz_H) (post : Int32 → Prop) : Prop :=
  wX4_within p1 (0 : Int32) ((h0 1 7) - (1 : Int32)) h0 (fun r1 => zz_z r1 ∧ post r1)
set_option maxRecDepth 20000 in
set_option maxHeartbeats 4000000 in
theorem ctX4_isPupil (p1 : Int32) (h0 : zz_H) (post : Int32 → Prop) (hw : wX4_isPupil p1 h0 post) : zz_Ct zz_C 1 yX4_isPupil cX4_isPupil 2 (some .boolean) [.ref 0, .int p1] h0 (zz_pu h0 post) := by
  refine zz_ct (L := [.ref 0, .int p1]) (by decide +kernel) (Nat.le_of_ble_eq_true rfl) (fun ad q hq => hq) ?_
  show zz_Go zz_C 1 cX4_isPupil RX4 2 (some .boolean) (zz_pu h0 post) 0 [] [.ref 0, .int p1] h0
  unfold wX4_isPupil at hw
  refine zr_iload_n dX4_isPupil_0 rfl rfl ?_
  refine zr_iconst dX4_isPupil_1 zqk_0 ?_
  refine zr_aload_n dX4_isPupil_2 rfl rfl ?_
  refine zr_getR zz_cX4 zz_C0 0 (by decide) rfl zf_X4_12 dX4_isPupil_3 ?_
  refine zr_getI zz_cX0 zz_C1 7 (by decide) rfl zf_X4_80 dX4_isPupil_6 ?_
  refine zr_iconst dX4_isPupil_9 zqk_1 ?_
  refine zr_isub dX4_isPupil_10 ?_
  refine zr_pSi (ctX4_within p1 (0 : Int32) ((h0 1 7) - (1 : Int32)) h0 _ hw) zy_X4_within zm_X4_61 (by decide) rfl rfl (Nat.le_of_ble_eq_true rfl) dX4_isPupil_11 (fun r1 hw => ?_)
  exact zr_ret rfl hw.1 dX4_isPupil_14 ⟨rfl, hw.2⟩
def wX4_isMarker (p1 : Int32) (h0 : zz_H) (post : Int32 → Prop) : Prop :=
  wX4_within p1 (0 : Int32) (1 : Int32) h0 (fun r1 => zz_z r1 ∧ post r1)
set_option maxRecDepth 20000 in
set_option maxHeartbeats 4000000 in
theorem ctX4_isMarker (p1 : Int32) (h0 : zz_H) (post : Int32 → Prop) (hw : wX4_isMarker p1 h0 post) : zz_Ct zz_C 1 yX4_isMarker cX4_isMarker 1 (some .boolean) [.int p1] h0 (zz_pu h0 post) := by
  refine zz_ct (L := [.int p1]) (by decide +kernel) (Nat.le_of_ble_eq_true rfl) (fun ad q hq => hq) ?_
  show zz_Go zz_C 1 cX4_isMarker RX4 1 (some .boolean) (zz_pu h0 post) 0 [] [.int p1] h0
  unfold wX4_isMarker at hw
  refine zr_iload_n dX4_isMarker_0 rfl rfl ?_
  refine zr_iconst dX4_isMarker_1 zqk_0 ?_
  refine zr_iconst dX4_isMarker_2 zqk_1 ?_
  refine zr_pSi (ctX4_within p1 (0 : Int32) (1 : Int32) h0 _ hw) zy_X4_within zm_X4_61 (by decide) rfl rfl (Nat.le_of_ble_eq_true rfl) dX4_isMarker_3 (fun r1 hw => ?_)
  exact zr_ret rfl hw.1 dX4_isMarker_6 ⟨rfl, hw.2⟩
def wX4_point (p1 : Int32) (p2 : Int32) (p3 : Int32) (p4 : Int32) (h0 : zz_H) (post : Int32 → zz_H → Prop) : Prop :=
  wX4_isPupil p1 h0 (fun r1 => ((r1 = 0) → (wX4_tell ((-1000001) : Int32) h0 (fun r3 h2 => post r3 h2))) ∧ ((¬ r1 = 0) → (wX4_isQuestion p2 h0 (fun r4 => ((r4 = 0) → (wX4_tell ((-1000001) : Int32) h0 (fun r6 h5 => post r6 h5))) ∧ ((¬ r4 = 0) → (wX4_isMarker p3 h0 (fun r7 => ((¬ r7 = 0) → (vp_in p2 8 ∧ (wX4_within p4 (0 : Int32) (h0 2 p2.toNatClampNeg) h0 (fun r8 => ((¬ r8 = 0) → (wX4_spotOfPoint p1 p2 p3 h0 (fun r9 => vp_in r9 192 ∧ (vp_in r9 192 ∧ zz_sto h0 5 (upd (h0 5) r9.toNatClampNeg p4) (fun h10 => post (h0 5 r9.toNatClampNeg) h10))))) ∧ ((r8 = 0) → (wX4_tell ((-1000001) : Int32) h0 (fun r12 h11 => post r12 h11))))))) ∧ ((r7 = 0) → (wX4_tell ((-1000001) : Int32) h0 (fun r14 h13 => post r14 h13))))))))))
set_option maxRecDepth 20000 in
set_option maxHeartbeats 4000000 in
theorem ctX4_point (p1 : Int32) (p2 : Int32) (p3 : Int32) (p4 : Int32) (h0 : zz_H) (post : Int32 → zz_H → Prop) (hw : wX4_point p1 p2 p3 p4 h0 post) : zz_Ct zz_C 2 yX4_point cX4_point 7 (some .int) [.ref 0, .int p1, .int p2, .int p3, .int p4] h0 post := by
  refine zz_ct (L := [.ref 0, .int p1, .int p2, .int p3, .int p4, .null, .null]) (by decide +kernel) (Nat.le_of_ble_eq_true rfl) (fun ad q hq => hq) ?_
  show zz_Go zz_C 2 cX4_point RX4 7 (some .int) post 0 [] [.ref 0, .int p1, .int p2, .int p3, .int p4, .null, .null] h0
  unfold wX4_point at hw
  refine zr_aload_n dX4_point_0 rfl rfl ?_
  refine zr_iload_n dX4_point_1 rfl rfl ?_
  refine zr_pVi zz_cX4 zz_C0 (ctX4_isPupil p1 h0 _ hw) zy_X4_isPupil zm_X4_88 (by decide) rfl rfl (Nat.le_of_ble_eq_true rfl) dX4_point_2 (fun r1 hw => ?_)
  refine zr_if_eq 22 dX4_point_5 (by decide) (fun q => ?_) (fun q => ?_)
  · have hw := hw.1 q
    refine zr_aload_n dX4_point_22 rfl rfl ?_
    refine zr_ldc zk_X4_65 dX4_point_23 ?_
    refine zr_callVi zz_cX4 zz_C0 (ctX4_tell ((-1000001) : Int32) h0 _ hw) zy_X4_tell zm_X4_66 (by decide) rfl rfl (Nat.le_of_ble_eq_true rfl) dX4_point_25 (fun r3 h2 hw => ?_)
    exact zr_ret rfl rfl dX4_point_28 hw
  · have hw := hw.2 q
    refine zr_iload_n dX4_point_8 rfl rfl ?_
    refine zr_pSi (ctX4_isQuestion p2 h0 _ hw) zy_X4_isQuestion zm_X4_57 (by decide) rfl rfl (Nat.le_of_ble_eq_true rfl) dX4_point_9 (fun r4 hw => ?_)
    refine zr_if_eq 22 dX4_point_12 (by decide) (fun q => ?_) (fun q => ?_)
    · have hw := hw.1 q
      refine zr_aload_n dX4_point_22 rfl rfl ?_
      refine zr_ldc zk_X4_65 dX4_point_23 ?_
      refine zr_callVi zz_cX4 zz_C0 (ctX4_tell ((-1000001) : Int32) h0 _ hw) zy_X4_tell zm_X4_66 (by decide) rfl rfl (Nat.le_of_ble_eq_true rfl) dX4_point_25 (fun r6 h5 hw => ?_)
      exact zr_ret rfl rfl dX4_point_28 hw
    · have hw := hw.2 q
      refine zr_iload_n dX4_point_15 rfl rfl ?_
      refine zr_pSi (ctX4_isMarker p3 h0 _ hw) zy_X4_isMarker zm_X4_91 (by decide) rfl rfl (Nat.le_of_ble_eq_true rfl) dX4_point_16 (fun r7 hw => ?_)
      refine zr_if_ne 29 dX4_point_19 (by decide) (fun q => ?_) (fun q => ?_)
      · have hw := hw.1 q
        refine zr_iload dX4_point_29 rfl ?_
        refine zr_iconst dX4_point_31 zqk_0 ?_
        refine zr_aload_n dX4_point_32 rfl rfl ?_
        refine zr_getR zz_cX4 zz_C0 0 (by decide) rfl zf_X4_12 dX4_point_33 ?_
        refine zr_getR zz_cX0 zz_C1 0 (by decide) rfl zf_X4_70 dX4_point_36 ?_
        refine zr_iload_n dX4_point_39 rfl rfl ?_
        obtain ⟨hi, hw⟩ := hw
        refine zr_iald zz_C2 hi rfl dX4_point_40 ?_
        refine zr_pSi (ctX4_within p4 (0 : Int32) (h0 2 p2.toNatClampNeg) h0 _ hw) zy_X4_within zm_X4_61 (by decide) rfl rfl (Nat.le_of_ble_eq_true rfl) dX4_point_41 (fun r8 hw => ?_)
        refine zr_if_ne 54 dX4_point_44 (by decide) (fun q => ?_) (fun q => ?_)
        · have hw := hw.1 q
          refine zr_iload_n dX4_point_54 rfl rfl ?_
          refine zr_iload_n dX4_point_55 rfl rfl ?_
          refine zr_iload_n dX4_point_56 rfl rfl ?_
          refine zr_pSi (ctX4_spotOfPoint p1 p2 p3 h0 _ hw) zy_X4_spotOfPoint zm_X4_94 (by decide) rfl rfl (Nat.le_of_ble_eq_true rfl) dX4_point_57 (fun r9 hw => ?_)
          refine zr_istore [.ref 0, .int p1, .int p2, .int p3, .int p4, .int r9, .null] dX4_point_60 (by decide) rfl rfl ?_
          refine zr_aload_n dX4_point_62 rfl rfl ?_
          refine zr_getR zz_cX4 zz_C0 0 (by decide) rfl zf_X4_12 dX4_point_63 ?_
          refine zr_getR zz_cX0 zz_C1 3 (by decide) rfl zf_X4_98 dX4_point_66 ?_
          refine zr_iload dX4_point_69 rfl ?_
          obtain ⟨hi, hw⟩ := hw
          refine zr_iald zz_C5 hi rfl dX4_point_71 ?_
          refine zr_istore [.ref 0, .int p1, .int p2, .int p3, .int p4, .int r9, .int (h0 5 r9.toNatClampNeg)] dX4_point_72 (by decide) rfl rfl ?_
          refine zr_aload_n dX4_point_74 rfl rfl ?_
          refine zr_getR zz_cX4 zz_C0 0 (by decide) rfl zf_X4_12 dX4_point_75 ?_
          refine zr_getR zz_cX0 zz_C1 3 (by decide) rfl zf_X4_98 dX4_point_78 ?_
          refine zr_iload dX4_point_81 rfl ?_
          refine zr_iload dX4_point_83 rfl ?_
          obtain ⟨hi, hw⟩ := hw
          refine zr_iast zz_C5 hi rfl dX4_point_85 hw (fun h10 hw => ?_)
          refine zr_iload dX4_point_86 rfl ?_
          exact zr_ret rfl rfl dX4_point_88 hw
        · have hw := hw.2 q
          refine zr_aload_n dX4_point_47 rfl rfl ?_
          refine zr_ldc zk_X4_65 dX4_point_48 ?_
          refine zr_callVi zz_cX4 zz_C0 (ctX4_tell ((-1000001) : Int32) h0 _ hw) zy_X4_tell zm_X4_66 (by decide) rfl rfl (Nat.le_of_ble_eq_true rfl) dX4_point_50 (fun r12 h11 hw => ?_)
          exact zr_ret rfl rfl dX4_point_53 hw
      · have hw := hw.2 q
        refine zr_aload_n dX4_point_22 rfl rfl ?_
        refine zr_ldc zk_X4_65 dX4_point_23 ?_
        refine zr_callVi zz_cX4 zz_C0 (ctX4_tell ((-1000001) : Int32) h0 _ hw) zy_X4_tell zm_X4_66 (by decide) rfl rfl (Nat.le_of_ble_eq_true rfl) dX4_point_25 (fun r14 h13 hw => ?_)
        exact zr_ret rfl rfl dX4_point_28 hw
def wX4_pupilOf (p1 : Int32) (p2 : Int32) (h0 : zz_H) (post : Int32 → zz_H → Prop) : Prop :=
  wX4_isPupil p1 h0 (fun r1 => ((r1 = 0) → (wX4_tell ((-1000001) : Int32) h0 (fun r3 h2 => post r3 h2))) ∧ ((¬ r1 = 0) → (wX4_within p2 (0 : Int32) (9 : Int32) h0 (fun r4 => ((¬ r4 = 0) → (((¬ p2 = 0) → (((¬ p2 = (1 : Int32)) → (wX0_scoreOf 1 p1 (p2 - (2 : Int32)) h0 (fun r5 => post r5 h0))) ∧ ((p2 = (1 : Int32)) → (wX0_rawOf 1 p1 h0 (fun r6 => post r6 h0))))) ∧ ((p2 = 0) → (vp_in p1 12 ∧ (post (h0 4 p1.toNatClampNeg) h0))))) ∧ ((r4 = 0) → (wX4_tell ((-1000001) : Int32) h0 (fun r8 h7 => post r8 h7)))))))
set_option maxRecDepth 20000 in
set_option maxHeartbeats 4000000 in
theorem ctX4_pupilOf (p1 : Int32) (p2 : Int32) (h0 : zz_H) (post : Int32 → zz_H → Prop) (hw : wX4_pupilOf p1 p2 h0 post) : zz_Ct zz_C 3 yX4_pupilOf cX4_pupilOf 3 (some .int) [.ref 0, .int p1, .int p2] h0 post := by
  refine zz_ct (L := [.ref 0, .int p1, .int p2]) (by decide +kernel) (Nat.le_of_ble_eq_true rfl) (fun ad q hq => hq) ?_
  show zz_Go zz_C 3 cX4_pupilOf RX4 3 (some .int) post 0 [] [.ref 0, .int p1, .int p2] h0
  unfold wX4_pupilOf at hw
  refine zr_aload_n dX4_pupilOf_0 rfl rfl ?_
  refine zr_iload_n dX4_pupilOf_1 rfl rfl ?_
  refine zr_pVi zz_cX4 zz_C0 (ctX4_isPupil p1 h0 _ hw) zy_X4_isPupil zm_X4_88 (by decide) rfl rfl (Nat.le_of_ble_eq_true rfl) dX4_pupilOf_2 (fun r1 hw => ?_)
  refine zr_if_eq 18 dX4_pupilOf_5 (by decide) (fun q => ?_) (fun q => ?_)
  · have hw := hw.1 q
    refine zr_aload_n dX4_pupilOf_18 rfl rfl ?_
    refine zr_ldc zk_X4_65 dX4_pupilOf_19 ?_
    refine zr_callVi zz_cX4 zz_C0 (ctX4_tell ((-1000001) : Int32) h0 _ hw) zy_X4_tell zm_X4_66 (by decide) rfl rfl (Nat.le_of_ble_eq_true rfl) dX4_pupilOf_21 (fun r3 h2 hw => ?_)
    exact zr_ret rfl rfl dX4_pupilOf_24 hw
  · have hw := hw.2 q
    refine zr_iload_n dX4_pupilOf_8 rfl rfl ?_
    refine zr_iconst dX4_pupilOf_9 zqk_0 ?_
    refine zr_bipush dX4_pupilOf_10 zbk_9 ?_
    refine zr_pSi (ctX4_within p2 (0 : Int32) (9 : Int32) h0 _ hw) zy_X4_within zm_X4_61 (by decide) rfl rfl (Nat.le_of_ble_eq_true rfl) dX4_pupilOf_12 (fun r4 hw => ?_)
    refine zr_if_ne 25 dX4_pupilOf_15 (by decide) (fun q => ?_) (fun q => ?_)
    · have hw := hw.1 q
      refine zr_iload_n dX4_pupilOf_25 rfl rfl ?_
      refine zr_if_ne 39 dX4_pupilOf_26 (by decide) (fun q => ?_) (fun q => ?_)
      · have hw := hw.1 q
        refine zr_iload_n dX4_pupilOf_39 rfl rfl ?_
        refine zr_iconst dX4_pupilOf_40 zqk_1 ?_
        refine zr_icmp_ne 55 dX4_pupilOf_41 (by decide) (fun q => ?_) (fun q => ?_)
        · have hw := hw.1 q
          refine zr_aload_n dX4_pupilOf_55 rfl rfl ?_
          refine zr_getR zz_cX4 zz_C0 0 (by decide) rfl zf_X4_12 dX4_pupilOf_56 ?_
          refine zr_iload_n dX4_pupilOf_59 rfl rfl ?_
          refine zr_iload_n dX4_pupilOf_60 rfl rfl ?_
          refine zr_iconst dX4_pupilOf_61 zqk_2 ?_
          refine zr_isub dX4_pupilOf_62 ?_
          refine zr_pVi zz_cX0 zz_C1 (ctX0_scoreOf 1 p1 (p2 - (2 : Int32)) (Or.inl rfl) h0 _ hw) zy_X0_scoreOf zm_X4_107 (by decide) rfl rfl (Nat.le_of_ble_eq_true rfl) dX4_pupilOf_63 (fun r5 hw => ?_)
          exact zr_ret rfl rfl dX4_pupilOf_66 hw
        · have hw := hw.2 q
          refine zr_aload_n dX4_pupilOf_44 rfl rfl ?_
          refine zr_getR zz_cX4 zz_C0 0 (by decide) rfl zf_X4_12 dX4_pupilOf_45 ?_
          refine zr_iload_n dX4_pupilOf_48 rfl rfl ?_
          refine zr_pVi zz_cX0 zz_C1 (ctX0_rawOf 1 p1 (Or.inl rfl) h0 _ hw) zy_X0_rawOf zm_X4_104 (by decide) rfl rfl (Nat.le_of_ble_eq_true rfl) dX4_pupilOf_49 (fun r6 hw => ?_)
          refine zr_goto 66 dX4_pupilOf_52 (by decide) ?_
          exact zr_ret rfl rfl dX4_pupilOf_66 hw
      · have hw := hw.2 q
        refine zr_aload_n dX4_pupilOf_29 rfl rfl ?_
        refine zr_getR zz_cX4 zz_C0 0 (by decide) rfl zf_X4_12 dX4_pupilOf_30 ?_
        refine zr_getR zz_cX0 zz_C1 2 (by decide) rfl zf_X4_101 dX4_pupilOf_33 ?_
        refine zr_iload_n dX4_pupilOf_36 rfl rfl ?_
        obtain ⟨hi, hw⟩ := hw
        refine zr_iald zz_C4 hi rfl dX4_pupilOf_37 ?_
        exact zr_ret rfl rfl dX4_pupilOf_38 hw
    · have hw := hw.2 q
      refine zr_aload_n dX4_pupilOf_18 rfl rfl ?_
      refine zr_ldc zk_X4_65 dX4_pupilOf_19 ?_
      refine zr_callVi zz_cX4 zz_C0 (ctX4_tell ((-1000001) : Int32) h0 _ hw) zy_X4_tell zm_X4_66 (by decide) rfl rfl (Nat.le_of_ble_eq_true rfl) dX4_pupilOf_21 (fun r8 h7 hw => ?_)
      exact zr_ret rfl rfl dX4_pupilOf_24 hw
def wX4_paper_j43 (p1 : Int32) (h0 : zz_H) (post : Int32 → zz_H → Prop) : Prop :=
  wX1_read 1 h0 (fun _ h2 => (p1 = (0 : Int32) → (post (h2 25 4) h2)) ∧ (p1 = (1 : Int32) → (wX1_greatestRaw h2 (fun r3 => post r3 h2))) ∧ (p1 = (2 : Int32) → (post (h2 25 6) h2)) ∧ (p1 = (3 : Int32) → (wX1_newMean h2 (fun r4 => post r4 h2))) ∧ (p1 = (4 : Int32) → (wX1_sumOfRaws h2 (fun r5 => post r5 h2))) ∧ ((¬ p1 = (0 : Int32)) → (¬ p1 = (1 : Int32)) → (¬ p1 = (2 : Int32)) → (¬ p1 = (3 : Int32)) → (¬ p1 = (4 : Int32)) → (post (h2 25 5) h2)))
def wX4_paper_j26 (p1 : Int32) (h0 : zz_H) (post : Int32 → zz_H → Prop) : Prop :=
  ((¬ (h0 1 7) = 0) → (wX4_paper_j43 p1 h0 post)) ∧ (((h0 1 7) = 0) → (wX4_tell ((-1000004) : Int32) h0 (fun r7 h6 => post r7 h6)))
def wX4_paper (p1 : Int32) (h0 : zz_H) (post : Int32 → zz_H → Prop) : Prop :=
  wX4_within p1 (0 : Int32) (5 : Int32) h0 (fun r1 => ((¬ r1 = 0) → (((p1 = (1 : Int32)) → (wX4_paper_j26 p1 h0 post)) ∧ ((¬ p1 = (1 : Int32)) → (((¬ p1 = (3 : Int32)) → (wX4_paper_j43 p1 h0 post)) ∧ ((p1 = (3 : Int32)) → (wX4_paper_j26 p1 h0 post)))))) ∧ ((r1 = 0) → (wX4_tell ((-1000001) : Int32) h0 (fun r9 h8 => post r9 h8))))
set_option maxRecDepth 20000 in
set_option maxHeartbeats 4000000 in
theorem ctX4_paper (p1 : Int32) (h0 : zz_H) (post : Int32 → zz_H → Prop) (hw : wX4_paper p1 h0 post) : zz_Ct zz_C 3 yX4_paper cX4_paper 2 (some .int) [.ref 0, .int p1] h0 post := by
  refine zz_ct (L := [.ref 0, .int p1]) (by decide +kernel) (Nat.le_of_ble_eq_true rfl) (fun ad q hq => hq) ?_
  show zz_Go zz_C 3 cX4_paper RX4 2 (some .int) post 0 [] [.ref 0, .int p1] h0
  unfold wX4_paper at hw
  refine zr_iload_n dX4_paper_0 rfl rfl ?_
  refine zr_iconst dX4_paper_1 zqk_0 ?_
  refine zr_iconst dX4_paper_2 zqk_5 ?_
  refine zr_pSi (ctX4_within p1 (0 : Int32) (5 : Int32) h0 _ hw) zy_X4_within zm_X4_61 (by decide) rfl rfl (Nat.le_of_ble_eq_true rfl) dX4_paper_3 (fun r1 hw => ?_)
  refine zr_if_ne 16 dX4_paper_6 (by decide) (fun q => ?_) (fun q => ?_)
  · have hw := hw.1 q
    refine zr_iload_n dX4_paper_16 rfl rfl ?_
    refine zr_iconst dX4_paper_17 zqk_1 ?_
    have j43 : wX4_paper_j43 p1 h0 post → zz_Go zz_C 3 cX4_paper RX4 2 (some .int) post 43 [] [.ref 0, .int p1] h0 := by
      intro hw
      unfold wX4_paper_j43 at hw
      refine zr_aload_n dX4_paper_43 rfl rfl ?_
      refine zr_getR zz_cX4 zz_C0 3 (by decide) rfl zf_X4_25 dX4_paper_44 ?_
      refine zr_aload_n dX4_paper_47 rfl rfl ?_
      refine zr_getR zz_cX4 zz_C0 0 (by decide) rfl zf_X4_12 dX4_paper_48 ?_
      refine zr_callVv zz_cX1 zz_C25 (ctX1_read 1 (Or.inl rfl) h0 _ hw) zy_X1_read zm_X4_112 (by decide) rfl rfl (Nat.le_of_ble_eq_true rfl) dX4_paper_51 (fun h2 hw => ?_)
      refine zr_iload_n dX4_paper_54 rfl rfl ?_
      by_cases q0 : p1 = (0 : Int32)
      · have hw := hw.1 q0
        refine zr_tabIn 88 dX4_paper_55 (by rw [q0]; decide) (by rw [q0]; decide) (off := 33) (by rw [q0]; decide) (by decide) ?_
        refine zr_aload_n dX4_paper_88 rfl rfl ?_
        refine zr_getR zz_cX4 zz_C0 3 (by decide) rfl zf_X4_25 dX4_paper_89 ?_
        refine zr_getI zz_cX1 zz_C25 4 (by decide) rfl zf_X4_116 dX4_paper_92 ?_
        exact zr_ret rfl rfl dX4_paper_95 hw
      by_cases q1 : p1 = (1 : Int32)
      · have hw := hw.2.1 q1
        refine zr_tabIn 96 dX4_paper_55 (by rw [q1]; decide) (by rw [q1]; decide) (off := 41) (by rw [q1]; decide) (by decide) ?_
        refine zr_aload_n dX4_paper_96 rfl rfl ?_
        refine zr_getR zz_cX4 zz_C0 3 (by decide) rfl zf_X4_25 dX4_paper_97 ?_
        refine zr_pVi zz_cX1 zz_C25 (ctX1_greatestRaw h2 _ hw) zy_X1_greatestRaw zm_X4_119 (by decide) rfl rfl (Nat.le_of_ble_eq_true rfl) dX4_paper_100 (fun r3 hw => ?_)
        exact zr_ret rfl rfl dX4_paper_103 hw
      by_cases q2 : p1 = (2 : Int32)
      · have hw := hw.2.2.1 q2
        refine zr_tabIn 104 dX4_paper_55 (by rw [q2]; decide) (by rw [q2]; decide) (off := 49) (by rw [q2]; decide) (by decide) ?_
        refine zr_aload_n dX4_paper_104 rfl rfl ?_
        refine zr_getR zz_cX4 zz_C0 3 (by decide) rfl zf_X4_25 dX4_paper_105 ?_
        refine zr_getI zz_cX1 zz_C25 6 (by decide) rfl zf_X4_123 dX4_paper_108 ?_
        exact zr_ret rfl rfl dX4_paper_111 hw
      by_cases q3 : p1 = (3 : Int32)
      · have hw := hw.2.2.2.1 q3
        refine zr_tabIn 112 dX4_paper_55 (by rw [q3]; decide) (by rw [q3]; decide) (off := 57) (by rw [q3]; decide) (by decide) ?_
        refine zr_aload_n dX4_paper_112 rfl rfl ?_
        refine zr_getR zz_cX4 zz_C0 3 (by decide) rfl zf_X4_25 dX4_paper_113 ?_
        refine zr_pVi zz_cX1 zz_C25 (ctX1_newMean h2 _ hw) zy_X1_newMean zm_X4_126 (by decide) rfl rfl (Nat.le_of_ble_eq_true rfl) dX4_paper_116 (fun r4 hw => ?_)
        exact zr_ret rfl rfl dX4_paper_119 hw
      by_cases q4 : p1 = (4 : Int32)
      · have hw := hw.2.2.2.2.1 q4
        refine zr_tabIn 120 dX4_paper_55 (by rw [q4]; decide) (by rw [q4]; decide) (off := 65) (by rw [q4]; decide) (by decide) ?_
        refine zr_aload_n dX4_paper_120 rfl rfl ?_
        refine zr_getR zz_cX4 zz_C0 3 (by decide) rfl zf_X4_25 dX4_paper_121 ?_
        refine zr_pVi zz_cX1 zz_C25 (ctX1_sumOfRaws h2 _ hw) zy_X1_sumOfRaws zm_X4_129 (by decide) rfl rfl (Nat.le_of_ble_eq_true rfl) dX4_paper_124 (fun r5 hw => ?_)
        exact zr_ret rfl rfl dX4_paper_127 hw
      have hw := hw.2.2.2.2.2 q0 q1 q2 q3 q4
      refine zr_tabOut 128 dX4_paper_55 (zz_tout (fun j h1 h2 => by rcases (show j = 0 ∨ j = 1 ∨ j = 2 ∨ j = 3 ∨ j = 4 by omega) with rfl | rfl | rfl | rfl | rfl <;> first | exact fun e => q0 (e.trans zqk_0) | exact fun e => q1 (e.trans zqk_1) | exact fun e => q2 (e.trans zqk_2) | exact fun e => q3 (e.trans zqk_3) | exact fun e => q4 (e.trans zqk_4))) (by decide) ?_
      refine zr_aload_n dX4_paper_128 rfl rfl ?_
      refine zr_getR zz_cX4 zz_C0 3 (by decide) rfl zf_X4_25 dX4_paper_129 ?_
      refine zr_getI zz_cX1 zz_C25 5 (by decide) rfl zf_X4_132 dX4_paper_132 ?_
      exact zr_ret rfl rfl dX4_paper_135 hw
    have j26 : wX4_paper_j26 p1 h0 post → zz_Go zz_C 3 cX4_paper RX4 2 (some .int) post 26 [] [.ref 0, .int p1] h0 := by
      intro hw
      unfold wX4_paper_j26 at hw
      refine zr_aload_n dX4_paper_26 rfl rfl ?_
      refine zr_getR zz_cX4 zz_C0 0 (by decide) rfl zf_X4_12 dX4_paper_27 ?_
      refine zr_getI zz_cX0 zz_C1 7 (by decide) rfl zf_X4_80 dX4_paper_30 ?_
      refine zr_if_ne 43 dX4_paper_33 (by decide) (fun q => ?_) (fun q => ?_)
      · have hw := hw.1 q
        exact j43 hw
      · have hw := hw.2 q
        refine zr_aload_n dX4_paper_36 rfl rfl ?_
        refine zr_ldc zk_X4_111 dX4_paper_37 ?_
        refine zr_callVi zz_cX4 zz_C0 (ctX4_tell ((-1000004) : Int32) h0 _ hw) zy_X4_tell zm_X4_66 (by decide) rfl rfl (Nat.le_of_ble_eq_true rfl) dX4_paper_39 (fun r7 h6 hw => ?_)
        exact zr_ret rfl rfl dX4_paper_42 hw
    refine zr_icmp_eq 26 dX4_paper_18 (by decide) (fun q => ?_) (fun q => ?_)
    · have hw := hw.1 q
      exact j26 hw
    · have hw := hw.2 q
      refine zr_iload_n dX4_paper_21 rfl rfl ?_
      refine zr_iconst dX4_paper_22 zqk_3 ?_
      refine zr_icmp_ne 43 dX4_paper_23 (by decide) (fun q => ?_) (fun q => ?_)
      · have hw := hw.1 q
        exact j43 hw
      · have hw := hw.2 q
        exact j26 hw
  · have hw := hw.2 q
    refine zr_aload_n dX4_paper_9 rfl rfl ?_
    refine zr_ldc zk_X4_65 dX4_paper_10 ?_
    refine zr_callVi zz_cX4 zz_C0 (ctX4_tell ((-1000001) : Int32) h0 _ hw) zy_X4_tell zm_X4_66 (by decide) rfl rfl (Nat.le_of_ble_eq_true rfl) dX4_paper_12 (fun r9 h8 hw => ?_)
    exact zr_ret rfl rfl dX4_paper_15 hw
def wX4_drawn_b24 (p1 : Int32) (p2 : Int32) (post : Int32 → zz_H → Prop) (K7 : Int32 × zz_H → Prop) (x5 : Int32) (h6 : zz_H) : Prop :=
  (((8 : Int32) ≤ x5) → (wX0_rawOf 1 p1 h6 (fun r8 => post r8 h6))) ∧ ((¬ (8 : Int32) ≤ x5) → (vp_in x5 8 ∧ (wX0_nextDraw 1 h6 (fun r10 h9 => wX4_spotOfPoint p1 x5 p2 h9 (fun r11 => ((((h6 2 x5.toNatClampNeg) + (1 : Int32)) ≤ 0) → (vp_in r11 192 ∧ zz_sto h9 5 (upd (h9 5) r11.toNatClampNeg (0 : Int32)) (fun h12 => K7 ((x5 + 1), h12)))) ∧ ((¬ ((h6 2 x5.toNatClampNeg) + (1 : Int32)) ≤ 0) → (¬ ((h6 2 x5.toNatClampNeg) + (1 : Int32)) = 0 ∧ (vp_in r11 192 ∧ zz_sto h9 5 (upd (h9 5) r11.toNatClampNeg (zz_rem r10 ((h6 2 x5.toNatClampNeg) + (1 : Int32)))) (fun h13 => K7 ((x5 + 1), h13))))))))))
def wX4_drawn (p1 : Int32) (p2 : Int32) (h0 : zz_H) (post : Int32 → zz_H → Prop) : Prop :=
  wX4_isPupil p1 h0 (fun r1 => ((r1 = 0) → (wX4_tell ((-1000001) : Int32) h0 (fun r3 h2 => post r3 h2))) ∧ ((¬ r1 = 0) → (wX4_isMarker p2 h0 (fun r4 => ((¬ r4 = 0) → (∃ t9, zz_lp (fun K (s : Int32 × zz_H) => wX4_drawn_b24 p1 p2 post K s.1 s.2) t9 ((0 : Int32), h0))) ∧ ((r4 = 0) → (wX4_tell ((-1000001) : Int32) h0 (fun r15 h14 => post r15 h14)))))))
set_option maxRecDepth 20000 in
set_option maxHeartbeats 4000000 in
theorem ctX4_drawn (p1 : Int32) (p2 : Int32) (h0 : zz_H) (post : Int32 → zz_H → Prop) (hw : wX4_drawn p1 p2 h0 post) : zz_Ct zz_C 3 yX4_drawn cX4_drawn 6 (some .int) [.ref 0, .int p1, .int p2] h0 post := by
  refine zz_ct (L := [.ref 0, .int p1, .int p2, .null, .null, .null]) (by decide +kernel) (Nat.le_of_ble_eq_true rfl) (fun ad q hq => hq) ?_
  show zz_Go zz_C 3 cX4_drawn RX4 6 (some .int) post 0 [] [.ref 0, .int p1, .int p2, .null, .null, .null] h0
  unfold wX4_drawn at hw
  refine zr_aload_n dX4_drawn_0 rfl rfl ?_
  refine zr_iload_n dX4_drawn_1 rfl rfl ?_
  refine zr_pVi zz_cX4 zz_C0 (ctX4_isPupil p1 h0 _ hw) zy_X4_isPupil zm_X4_88 (by decide) rfl rfl (Nat.le_of_ble_eq_true rfl) dX4_drawn_2 (fun r1 hw => ?_)
  refine zr_if_eq 15 dX4_drawn_5 (by decide) (fun q => ?_) (fun q => ?_)
  · have hw := hw.1 q
    refine zr_aload_n dX4_drawn_15 rfl rfl ?_
    refine zr_ldc zk_X4_65 dX4_drawn_16 ?_
    refine zr_callVi zz_cX4 zz_C0 (ctX4_tell ((-1000001) : Int32) h0 _ hw) zy_X4_tell zm_X4_66 (by decide) rfl rfl (Nat.le_of_ble_eq_true rfl) dX4_drawn_18 (fun r3 h2 hw => ?_)
    exact zr_ret rfl rfl dX4_drawn_21 hw
  · have hw := hw.2 q
    refine zr_iload_n dX4_drawn_8 rfl rfl ?_
    refine zr_pSi (ctX4_isMarker p2 h0 _ hw) zy_X4_isMarker zm_X4_91 (by decide) rfl rfl (Nat.le_of_ble_eq_true rfl) dX4_drawn_9 (fun r4 hw => ?_)
    refine zr_if_ne 22 dX4_drawn_12 (by decide) (fun q => ?_) (fun q => ?_)
    · have hw := hw.1 q
      refine zr_iconst dX4_drawn_22 zqk_0 ?_
      refine zr_istore_n [.ref 0, .int p1, .int p2, .int (0 : Int32), .null, .null] dX4_drawn_23 rfl (by decide) rfl rfl ?_
      obtain ⟨t9, hw⟩ := hw
      have step24 : ∀ (K7 : Int32 × zz_H → Prop), (∀ (x5 : Int32) (h6 : zz_H), K7 (x5, h6) → zz_Go zz_C 3 cX4_drawn RX4 6 (some .int) post 24 [] [.ref 0, .int p1, .int p2, .int x5, .null, .null] h6) → ∀ (x5 : Int32) (h6 : zz_H), wX4_drawn_b24 p1 p2 post K7 x5 h6 → zz_Go zz_C 3 cX4_drawn RX4 6 (some .int) post 24 [] [.ref 0, .int p1, .int p2, .int x5, .null, .null] h6 := by
        intro K7 ih24 x5 h6 hw
        unfold wX4_drawn_b24 at hw
        refine zr_iload_n dX4_drawn_24 rfl rfl ?_
        refine zr_bipush dX4_drawn_25 zbk_8 ?_
        refine zr_icmp_ge 86 dX4_drawn_27 (by decide) (fun q => ?_) (fun q => ?_)
        · have hw := hw.1 q
          refine zr_aload_n dX4_drawn_86 rfl rfl ?_
          refine zr_getR zz_cX4 zz_C0 0 (by decide) rfl zf_X4_12 dX4_drawn_87 ?_
          refine zr_iload_n dX4_drawn_90 rfl rfl ?_
          refine zr_pVi zz_cX0 zz_C1 (ctX0_rawOf 1 p1 (Or.inl rfl) h6 _ hw) zy_X0_rawOf zm_X4_104 (by decide) rfl rfl (Nat.le_of_ble_eq_true rfl) dX4_drawn_91 (fun r8 hw => ?_)
          exact zr_ret rfl rfl dX4_drawn_94 hw
        · have hw := hw.2 q
          refine zr_aload_n dX4_drawn_30 rfl rfl ?_
          refine zr_getR zz_cX4 zz_C0 0 (by decide) rfl zf_X4_12 dX4_drawn_31 ?_
          refine zr_getR zz_cX0 zz_C1 0 (by decide) rfl zf_X4_70 dX4_drawn_34 ?_
          refine zr_iload_n dX4_drawn_37 rfl rfl ?_
          obtain ⟨hi, hw⟩ := hw
          refine zr_iald zz_C2 hi rfl dX4_drawn_38 ?_
          refine zr_iconst dX4_drawn_39 zqk_1 ?_
          refine zr_iadd dX4_drawn_40 ?_
          refine zr_istore [.ref 0, .int p1, .int p2, .int x5, .int ((h6 2 x5.toNatClampNeg) + (1 : Int32)), .null] dX4_drawn_41 (by decide) rfl rfl ?_
          refine zr_aload_n dX4_drawn_43 rfl rfl ?_
          refine zr_getR zz_cX4 zz_C0 0 (by decide) rfl zf_X4_12 dX4_drawn_44 ?_
          refine zr_callVi zz_cX0 zz_C1 (ctX0_nextDraw 1 (Or.inl rfl) h6 _ hw) zy_X0_nextDraw zm_X4_135 (by decide) rfl rfl (Nat.le_of_ble_eq_true rfl) dX4_drawn_47 (fun r10 h9 hw => ?_)
          refine zr_istore [.ref 0, .int p1, .int p2, .int x5, .int ((h6 2 x5.toNatClampNeg) + (1 : Int32)), .int r10] dX4_drawn_50 (by decide) rfl rfl ?_
          refine zr_aload_n dX4_drawn_52 rfl rfl ?_
          refine zr_getR zz_cX4 zz_C0 0 (by decide) rfl zf_X4_12 dX4_drawn_53 ?_
          refine zr_getR zz_cX0 zz_C1 3 (by decide) rfl zf_X4_98 dX4_drawn_56 ?_
          refine zr_iload_n dX4_drawn_59 rfl rfl ?_
          refine zr_iload_n dX4_drawn_60 rfl rfl ?_
          refine zr_iload_n dX4_drawn_61 rfl rfl ?_
          refine zr_pSi (ctX4_spotOfPoint p1 x5 p2 h9 _ hw) zy_X4_spotOfPoint zm_X4_94 (by decide) rfl rfl (Nat.le_of_ble_eq_true rfl) dX4_drawn_62 (fun r11 hw => ?_)
          refine zr_iload dX4_drawn_65 rfl ?_
          refine zr_if_le 78 dX4_drawn_67 (by decide) (fun q => ?_) (fun q => ?_)
          · have hw := hw.1 q
            refine zr_iconst dX4_drawn_78 zqk_0 ?_
            obtain ⟨hi, hw⟩ := hw
            refine zr_iast zz_C5 hi rfl dX4_drawn_79 hw (fun h12 hw => ?_)
            refine zr_iinc (x5 + 1) [.ref 0, .int p1, .int p2, .int (x5 + 1), .int ((h6 2 x5.toNatClampNeg) + (1 : Int32)), .int r10] dX4_drawn_80 rfl (zok_1 _) (by decide) rfl rfl ?_
            refine zr_goto 24 dX4_drawn_83 (by decide) ?_
            refine zr_sub [.ref 0, .int p1, .int p2, .int (x5 + 1), .null, .null] ⟨Or.inr rfl, ⟨Or.inr rfl, ⟨Or.inr rfl, ⟨Or.inr rfl, ⟨Or.inl rfl, ⟨Or.inl rfl, trivial⟩⟩⟩⟩⟩⟩ ?_
            exact ih24 _ _ hw
          · have hw := hw.2 q
            refine zr_iload dX4_drawn_70 rfl ?_
            refine zr_iload dX4_drawn_72 rfl ?_
            obtain ⟨hne, hw⟩ := hw
            refine zr_irem dX4_drawn_74 hne ?_
            refine zr_goto 79 dX4_drawn_75 (by decide) ?_
            obtain ⟨hi, hw⟩ := hw
            refine zr_iast zz_C5 hi rfl dX4_drawn_79 hw (fun h13 hw => ?_)
            refine zr_iinc (x5 + 1) [.ref 0, .int p1, .int p2, .int (x5 + 1), .int ((h6 2 x5.toNatClampNeg) + (1 : Int32)), .int r10] dX4_drawn_80 rfl (zok_1 _) (by decide) rfl rfl ?_
            refine zr_goto 24 dX4_drawn_83 (by decide) ?_
            refine zr_sub [.ref 0, .int p1, .int p2, .int (x5 + 1), .null, .null] ⟨Or.inr rfl, ⟨Or.inr rfl, ⟨Or.inr rfl, ⟨Or.inr rfl, ⟨Or.inl rfl, ⟨Or.inl rfl, trivial⟩⟩⟩⟩⟩⟩ ?_
            exact ih24 _ _ hw
      have key24 : ∀ (t9 : Nat) (x5 : Int32) (h6 : zz_H), zz_lp (fun K (s : Int32 × zz_H) => wX4_drawn_b24 p1 p2 post K s.1 s.2) t9 (x5, h6) → zz_Go zz_C 3 cX4_drawn RX4 6 (some .int) post 24 [] [.ref 0, .int p1, .int p2, .int x5, .null, .null] h6 := by
        intro t9
        induction t9 with
        | zero => intro x5 h6 hw; exact hw.elim
        | succ t9 ih => intro x5 h6 hw; exact step24 _ ih _ _ hw
      exact key24 t9 _ _ hw
    · have hw := hw.2 q
      refine zr_aload_n dX4_drawn_15 rfl rfl ?_
      refine zr_ldc zk_X4_65 dX4_drawn_16 ?_
      refine zr_callVi zz_cX4 zz_C0 (ctX4_tell ((-1000001) : Int32) h0 _ hw) zy_X4_tell zm_X4_66 (by decide) rfl rfl (Nat.le_of_ble_eq_true rfl) dX4_drawn_18 (fun r15 h14 hw => ?_)
      exact zr_ret rfl rfl dX4_drawn_21 hw
def wX4_drop (h0 : zz_H) (post : Int32 → zz_H → Prop) : Prop :=
  ((0 < (h0 1 7)) → (zz_sto h0 1 (upd (h0 1) 7 ((h0 1 7) - (1 : Int32))) (fun h1 => post (h1 1 7) h1))) ∧ ((¬ 0 < (h0 1 7)) → (wX4_tell ((-1000004) : Int32) h0 (fun r3 h2 => post r3 h2)))
set_option maxRecDepth 20000 in
set_option maxHeartbeats 4000000 in
theorem ctX4_drop (h0 : zz_H) (post : Int32 → zz_H → Prop) (hw : wX4_drop h0 post) : zz_Ct zz_C 2 yX4_drop cX4_drop 1 (some .int) [.ref 0] h0 post := by
  refine zz_ct (L := [.ref 0]) (by decide +kernel) (Nat.le_of_ble_eq_true rfl) (fun ad q hq => hq) ?_
  show zz_Go zz_C 2 cX4_drop RX4 1 (some .int) post 0 [] [.ref 0] h0
  unfold wX4_drop at hw
  refine zr_aload_n dX4_drop_0 rfl rfl ?_
  refine zr_getR zz_cX4 zz_C0 0 (by decide) rfl zf_X4_12 dX4_drop_1 ?_
  refine zr_getI zz_cX0 zz_C1 7 (by decide) rfl zf_X4_80 dX4_drop_4 ?_
  refine zr_if_gt 17 dX4_drop_7 (by decide) (fun q => ?_) (fun q => ?_)
  · have hw := hw.1 q
    refine zr_aload_n dX4_drop_17 rfl rfl ?_
    refine zr_getR zz_cX4 zz_C0 0 (by decide) rfl zf_X4_12 dX4_drop_18 ?_
    refine zr_dup dX4_drop_21 rfl ?_
    refine zr_getI zz_cX0 zz_C1 7 (by decide) rfl zf_X4_80 dX4_drop_22 ?_
    refine zr_iconst dX4_drop_25 zqk_1 ?_
    refine zr_isub dX4_drop_26 ?_
    refine zr_putI zz_cX0 zz_C1 7 (by decide) rfl rfl rfl rfl rfl zf_X4_80 dX4_drop_27 hw (fun h1 hw => ?_)
    refine zr_aload_n dX4_drop_30 rfl rfl ?_
    refine zr_getR zz_cX4 zz_C0 0 (by decide) rfl zf_X4_12 dX4_drop_31 ?_
    refine zr_getI zz_cX0 zz_C1 7 (by decide) rfl zf_X4_80 dX4_drop_34 ?_
    exact zr_ret rfl rfl dX4_drop_37 hw
  · have hw := hw.2 q
    refine zr_aload_n dX4_drop_10 rfl rfl ?_
    refine zr_ldc zk_X4_111 dX4_drop_11 ?_
    refine zr_callVi zz_cX4 zz_C0 (ctX4_tell ((-1000004) : Int32) h0 _ hw) zy_X4_tell zm_X4_66 (by decide) rfl rfl (Nat.le_of_ble_eq_true rfl) dX4_drop_13 (fun r3 h2 hw => ?_)
    exact zr_ret rfl rfl dX4_drop_16 hw
def wX4_isKind (p1 : Int32) (h0 : zz_H) (post : Int32 → Prop) : Prop :=
  wX4_within p1 (0 : Int32) (6 : Int32) h0 (fun r1 => zz_z r1 ∧ post r1)
set_option maxRecDepth 20000 in
set_option maxHeartbeats 4000000 in
theorem ctX4_isKind (p1 : Int32) (h0 : zz_H) (post : Int32 → Prop) (hw : wX4_isKind p1 h0 post) : zz_Ct zz_C 1 yX4_isKind cX4_isKind 1 (some .boolean) [.int p1] h0 (zz_pu h0 post) := by
  refine zz_ct (L := [.int p1]) (by decide +kernel) (Nat.le_of_ble_eq_true rfl) (fun ad q hq => hq) ?_
  show zz_Go zz_C 1 cX4_isKind RX4 1 (some .boolean) (zz_pu h0 post) 0 [] [.int p1] h0
  unfold wX4_isKind at hw
  refine zr_iload_n dX4_isKind_0 rfl rfl ?_
  refine zr_iconst dX4_isKind_1 zqk_0 ?_
  refine zr_bipush dX4_isKind_2 zbk_6 ?_
  refine zr_pSi (ctX4_within p1 (0 : Int32) (6 : Int32) h0 _ hw) zy_X4_within zm_X4_61 (by decide) rfl rfl (Nat.le_of_ble_eq_true rfl) dX4_isKind_4 (fun r1 hw => ?_)
  exact zr_ret rfl hw.1 dX4_isKind_7 ⟨rfl, hw.2⟩
def wX4_isBy (p1 : Int32) (h0 : zz_H) (post : Int32 → Prop) : Prop :=
  wX4_within p1 (0 : Int32) (100 : Int32) h0 (fun r1 => zz_z r1 ∧ post r1)
set_option maxRecDepth 20000 in
set_option maxHeartbeats 4000000 in
theorem ctX4_isBy (p1 : Int32) (h0 : zz_H) (post : Int32 → Prop) (hw : wX4_isBy p1 h0 post) : zz_Ct zz_C 1 yX4_isBy cX4_isBy 1 (some .boolean) [.int p1] h0 (zz_pu h0 post) := by
  refine zz_ct (L := [.int p1]) (by decide +kernel) (Nat.le_of_ble_eq_true rfl) (fun ad q hq => hq) ?_
  show zz_Go zz_C 1 cX4_isBy RX4 1 (some .boolean) (zz_pu h0 post) 0 [] [.int p1] h0
  unfold wX4_isBy at hw
  refine zr_iload_n dX4_isBy_0 rfl rfl ?_
  refine zr_iconst dX4_isBy_1 zqk_0 ?_
  refine zr_bipush dX4_isBy_2 zbk_100 ?_
  refine zr_pSi (ctX4_within p1 (0 : Int32) (100 : Int32) h0 _ hw) zy_X4_within zm_X4_61 (by decide) rfl rfl (Nat.le_of_ble_eq_true rfl) dX4_isBy_4 (fun r1 hw => ?_)
  exact zr_ret rfl hw.1 dX4_isBy_7 ⟨rfl, hw.2⟩
def wX4_curve (p1 : Int32) (p2 : Int32) (h0 : zz_H) (post : Int32 → zz_H → Prop) : Prop :=
  wX4_isKind p1 h0 (fun r1 => ((r1 = 0) → (wX4_tell ((-1000001) : Int32) h0 (fun r3 h2 => post r3 h2))) ∧ ((¬ r1 = 0) → (wX4_isBy p2 h0 (fun r4 => ((¬ r4 = 0) → ((((h0 1 8) < (6 : Int32)) → (wX0_addCurve 1 p1 p2 h0 (fun r6 h5 => post r6 h5))) ∧ ((¬ (h0 1 8) < (6 : Int32)) → (wX4_tell ((-1000002) : Int32) h0 (fun r8 h7 => post r8 h7))))) ∧ ((r4 = 0) → (wX4_tell ((-1000001) : Int32) h0 (fun r10 h9 => post r10 h9)))))))
set_option maxRecDepth 20000 in
set_option maxHeartbeats 4000000 in
theorem ctX4_curve (p1 : Int32) (p2 : Int32) (h0 : zz_H) (post : Int32 → zz_H → Prop) (hw : wX4_curve p1 p2 h0 post) : zz_Ct zz_C 2 yX4_curve cX4_curve 3 (some .int) [.ref 0, .int p1, .int p2] h0 post := by
  refine zz_ct (L := [.ref 0, .int p1, .int p2]) (by decide +kernel) (Nat.le_of_ble_eq_true rfl) (fun ad q hq => hq) ?_
  show zz_Go zz_C 2 cX4_curve RX4 3 (some .int) post 0 [] [.ref 0, .int p1, .int p2] h0
  unfold wX4_curve at hw
  refine zr_iload_n dX4_curve_0 rfl rfl ?_
  refine zr_pSi (ctX4_isKind p1 h0 _ hw) zy_X4_isKind zm_X4_138 (by decide) rfl rfl (Nat.le_of_ble_eq_true rfl) dX4_curve_1 (fun r1 hw => ?_)
  refine zr_if_eq 14 dX4_curve_4 (by decide) (fun q => ?_) (fun q => ?_)
  · have hw := hw.1 q
    refine zr_aload_n dX4_curve_14 rfl rfl ?_
    refine zr_ldc zk_X4_65 dX4_curve_15 ?_
    refine zr_callVi zz_cX4 zz_C0 (ctX4_tell ((-1000001) : Int32) h0 _ hw) zy_X4_tell zm_X4_66 (by decide) rfl rfl (Nat.le_of_ble_eq_true rfl) dX4_curve_17 (fun r3 h2 hw => ?_)
    exact zr_ret rfl rfl dX4_curve_20 hw
  · have hw := hw.2 q
    refine zr_iload_n dX4_curve_7 rfl rfl ?_
    refine zr_pSi (ctX4_isBy p2 h0 _ hw) zy_X4_isBy zm_X4_141 (by decide) rfl rfl (Nat.le_of_ble_eq_true rfl) dX4_curve_8 (fun r4 hw => ?_)
    refine zr_if_ne 21 dX4_curve_11 (by decide) (fun q => ?_) (fun q => ?_)
    · have hw := hw.1 q
      refine zr_aload_n dX4_curve_21 rfl rfl ?_
      refine zr_getR zz_cX4 zz_C0 0 (by decide) rfl zf_X4_12 dX4_curve_22 ?_
      refine zr_getI zz_cX0 zz_C1 8 (by decide) rfl zf_X4_144 dX4_curve_25 ?_
      refine zr_bipush dX4_curve_28 zbk_6 ?_
      refine zr_icmp_lt 40 dX4_curve_30 (by decide) (fun q => ?_) (fun q => ?_)
      · have hw := hw.1 q
        refine zr_aload_n dX4_curve_40 rfl rfl ?_
        refine zr_getR zz_cX4 zz_C0 0 (by decide) rfl zf_X4_12 dX4_curve_41 ?_
        refine zr_iload_n dX4_curve_44 rfl rfl ?_
        refine zr_iload_n dX4_curve_45 rfl rfl ?_
        refine zr_callVi zz_cX0 zz_C1 (ctX0_addCurve 1 p1 p2 (Or.inl rfl) h0 _ hw) zy_X0_addCurve zm_X4_147 (by decide) rfl rfl (Nat.le_of_ble_eq_true rfl) dX4_curve_46 (fun r6 h5 hw => ?_)
        exact zr_ret rfl rfl dX4_curve_49 hw
      · have hw := hw.2 q
        refine zr_aload_n dX4_curve_33 rfl rfl ?_
        refine zr_ldc zk_X4_84 dX4_curve_34 ?_
        refine zr_callVi zz_cX4 zz_C0 (ctX4_tell ((-1000002) : Int32) h0 _ hw) zy_X4_tell zm_X4_66 (by decide) rfl rfl (Nat.le_of_ble_eq_true rfl) dX4_curve_36 (fun r8 h7 hw => ?_)
        exact zr_ret rfl rfl dX4_curve_39 hw
    · have hw := hw.2 q
      refine zr_aload_n dX4_curve_14 rfl rfl ?_
      refine zr_ldc zk_X4_65 dX4_curve_15 ?_
      refine zr_callVi zz_cX4 zz_C0 (ctX4_tell ((-1000001) : Int32) h0 _ hw) zy_X4_tell zm_X4_66 (by decide) rfl rfl (Nat.le_of_ble_eq_true rfl) dX4_curve_17 (fun r10 h9 hw => ?_)
      exact zr_ret rfl rfl dX4_curve_20 hw
def wX4_isCurve (p1 : Int32) (h0 : zz_H) (post : Int32 → Prop) : Prop :=
  wX4_within p1 (0 : Int32) ((h0 1 8) - (1 : Int32)) h0 (fun r1 => zz_z r1 ∧ post r1)
set_option maxRecDepth 20000 in
set_option maxHeartbeats 4000000 in
theorem ctX4_isCurve (p1 : Int32) (h0 : zz_H) (post : Int32 → Prop) (hw : wX4_isCurve p1 h0 post) : zz_Ct zz_C 1 yX4_isCurve cX4_isCurve 2 (some .boolean) [.ref 0, .int p1] h0 (zz_pu h0 post) := by
  refine zz_ct (L := [.ref 0, .int p1]) (by decide +kernel) (Nat.le_of_ble_eq_true rfl) (fun ad q hq => hq) ?_
  show zz_Go zz_C 1 cX4_isCurve RX4 2 (some .boolean) (zz_pu h0 post) 0 [] [.ref 0, .int p1] h0
  unfold wX4_isCurve at hw
  refine zr_iload_n dX4_isCurve_0 rfl rfl ?_
  refine zr_iconst dX4_isCurve_1 zqk_0 ?_
  refine zr_aload_n dX4_isCurve_2 rfl rfl ?_
  refine zr_getR zz_cX4 zz_C0 0 (by decide) rfl zf_X4_12 dX4_isCurve_3 ?_
  refine zr_getI zz_cX0 zz_C1 8 (by decide) rfl zf_X4_144 dX4_isCurve_6 ?_
  refine zr_iconst dX4_isCurve_9 zqk_1 ?_
  refine zr_isub dX4_isCurve_10 ?_
  refine zr_pSi (ctX4_within p1 (0 : Int32) ((h0 1 8) - (1 : Int32)) h0 _ hw) zy_X4_within zm_X4_61 (by decide) rfl rfl (Nat.le_of_ble_eq_true rfl) dX4_isCurve_11 (fun r1 hw => ?_)
  exact zr_ret rfl hw.1 dX4_isCurve_14 ⟨rfl, hw.2⟩
def wX4_curveOf (p1 : Int32) (p2 : Int32) (h0 : zz_H) (post : Int32 → zz_H → Prop) : Prop :=
  wX4_isCurve p1 h0 (fun r1 => ((r1 = 0) → (wX4_tell ((-1000001) : Int32) h0 (fun r3 h2 => post r3 h2))) ∧ ((¬ r1 = 0) → (wX4_within p2 (0 : Int32) (1 : Int32) h0 (fun r4 => ((¬ r4 = 0) → (((¬ p2 = 0) → (vp_in p1 6 ∧ (post (h0 7 p1.toNatClampNeg) h0))) ∧ ((p2 = 0) → (vp_in p1 6 ∧ (post (h0 6 p1.toNatClampNeg) h0))))) ∧ ((r4 = 0) → (wX4_tell ((-1000001) : Int32) h0 (fun r6 h5 => post r6 h5)))))))
set_option maxRecDepth 20000 in
set_option maxHeartbeats 4000000 in
theorem ctX4_curveOf (p1 : Int32) (p2 : Int32) (h0 : zz_H) (post : Int32 → zz_H → Prop) (hw : wX4_curveOf p1 p2 h0 post) : zz_Ct zz_C 2 yX4_curveOf cX4_curveOf 3 (some .int) [.ref 0, .int p1, .int p2] h0 post := by
  refine zz_ct (L := [.ref 0, .int p1, .int p2]) (by decide +kernel) (Nat.le_of_ble_eq_true rfl) (fun ad q hq => hq) ?_
  show zz_Go zz_C 2 cX4_curveOf RX4 3 (some .int) post 0 [] [.ref 0, .int p1, .int p2] h0
  unfold wX4_curveOf at hw
  refine zr_aload_n dX4_curveOf_0 rfl rfl ?_
  refine zr_iload_n dX4_curveOf_1 rfl rfl ?_
  refine zr_pVi zz_cX4 zz_C0 (ctX4_isCurve p1 h0 _ hw) zy_X4_isCurve zm_X4_150 (by decide) rfl rfl (Nat.le_of_ble_eq_true rfl) dX4_curveOf_2 (fun r1 hw => ?_)
  refine zr_if_eq 17 dX4_curveOf_5 (by decide) (fun q => ?_) (fun q => ?_)
  · have hw := hw.1 q
    refine zr_aload_n dX4_curveOf_17 rfl rfl ?_
    refine zr_ldc zk_X4_65 dX4_curveOf_18 ?_
    refine zr_callVi zz_cX4 zz_C0 (ctX4_tell ((-1000001) : Int32) h0 _ hw) zy_X4_tell zm_X4_66 (by decide) rfl rfl (Nat.le_of_ble_eq_true rfl) dX4_curveOf_20 (fun r3 h2 hw => ?_)
    exact zr_ret rfl rfl dX4_curveOf_23 hw
  · have hw := hw.2 q
    refine zr_iload_n dX4_curveOf_8 rfl rfl ?_
    refine zr_iconst dX4_curveOf_9 zqk_0 ?_
    refine zr_iconst dX4_curveOf_10 zqk_1 ?_
    refine zr_pSi (ctX4_within p2 (0 : Int32) (1 : Int32) h0 _ hw) zy_X4_within zm_X4_61 (by decide) rfl rfl (Nat.le_of_ble_eq_true rfl) dX4_curveOf_11 (fun r4 hw => ?_)
    refine zr_if_ne 24 dX4_curveOf_14 (by decide) (fun q => ?_) (fun q => ?_)
    · have hw := hw.1 q
      refine zr_iload_n dX4_curveOf_24 rfl rfl ?_
      refine zr_if_ne 40 dX4_curveOf_25 (by decide) (fun q => ?_) (fun q => ?_)
      · have hw := hw.1 q
        refine zr_aload_n dX4_curveOf_40 rfl rfl ?_
        refine zr_getR zz_cX4 zz_C0 0 (by decide) rfl zf_X4_12 dX4_curveOf_41 ?_
        refine zr_getR zz_cX0 zz_C1 5 (by decide) rfl zf_X4_156 dX4_curveOf_44 ?_
        refine zr_iload_n dX4_curveOf_47 rfl rfl ?_
        obtain ⟨hi, hw⟩ := hw
        refine zr_iald zz_C7 hi rfl dX4_curveOf_48 ?_
        exact zr_ret rfl rfl dX4_curveOf_49 hw
      · have hw := hw.2 q
        refine zr_aload_n dX4_curveOf_28 rfl rfl ?_
        refine zr_getR zz_cX4 zz_C0 0 (by decide) rfl zf_X4_12 dX4_curveOf_29 ?_
        refine zr_getR zz_cX0 zz_C1 4 (by decide) rfl zf_X4_153 dX4_curveOf_32 ?_
        refine zr_iload_n dX4_curveOf_35 rfl rfl ?_
        obtain ⟨hi, hw⟩ := hw
        refine zr_iald zz_C6 hi rfl dX4_curveOf_36 ?_
        refine zr_goto 49 dX4_curveOf_37 (by decide) ?_
        exact zr_ret rfl rfl dX4_curveOf_49 hw
    · have hw := hw.2 q
      refine zr_aload_n dX4_curveOf_17 rfl rfl ?_
      refine zr_ldc zk_X4_65 dX4_curveOf_18 ?_
      refine zr_callVi zz_cX4 zz_C0 (ctX4_tell ((-1000001) : Int32) h0 _ hw) zy_X4_tell zm_X4_66 (by decide) rfl rfl (Nat.le_of_ble_eq_true rfl) dX4_curveOf_20 (fun r6 h5 hw => ?_)
      exact zr_ret rfl rfl dX4_curveOf_23 hw
def wX4_turn (p1 : Int32) (p2 : Int32) (h0 : zz_H) (post : Int32 → zz_H → Prop) : Prop :=
  wX4_isCurve p1 h0 (fun r1 => ((r1 = 0) → (wX4_tell ((-1000001) : Int32) h0 (fun r3 h2 => post r3 h2))) ∧ ((¬ r1 = 0) → (wX4_isKind p2 h0 (fun r4 => ((¬ r4 = 0) → (vp_in p1 6 ∧ (vp_in p1 6 ∧ zz_sto h0 6 (upd (h0 6) p1.toNatClampNeg p2) (fun h5 => post (h0 6 p1.toNatClampNeg) h5)))) ∧ ((r4 = 0) → (wX4_tell ((-1000001) : Int32) h0 (fun r7 h6 => post r7 h6)))))))
set_option maxRecDepth 20000 in
set_option maxHeartbeats 4000000 in
theorem ctX4_turn (p1 : Int32) (p2 : Int32) (h0 : zz_H) (post : Int32 → zz_H → Prop) (hw : wX4_turn p1 p2 h0 post) : zz_Ct zz_C 2 yX4_turn cX4_turn 4 (some .int) [.ref 0, .int p1, .int p2] h0 post := by
  refine zz_ct (L := [.ref 0, .int p1, .int p2, .null]) (by decide +kernel) (Nat.le_of_ble_eq_true rfl) (fun ad q hq => hq) ?_
  show zz_Go zz_C 2 cX4_turn RX4 4 (some .int) post 0 [] [.ref 0, .int p1, .int p2, .null] h0
  unfold wX4_turn at hw
  refine zr_aload_n dX4_turn_0 rfl rfl ?_
  refine zr_iload_n dX4_turn_1 rfl rfl ?_
  refine zr_pVi zz_cX4 zz_C0 (ctX4_isCurve p1 h0 _ hw) zy_X4_isCurve zm_X4_150 (by decide) rfl rfl (Nat.le_of_ble_eq_true rfl) dX4_turn_2 (fun r1 hw => ?_)
  refine zr_if_eq 15 dX4_turn_5 (by decide) (fun q => ?_) (fun q => ?_)
  · have hw := hw.1 q
    refine zr_aload_n dX4_turn_15 rfl rfl ?_
    refine zr_ldc zk_X4_65 dX4_turn_16 ?_
    refine zr_callVi zz_cX4 zz_C0 (ctX4_tell ((-1000001) : Int32) h0 _ hw) zy_X4_tell zm_X4_66 (by decide) rfl rfl (Nat.le_of_ble_eq_true rfl) dX4_turn_18 (fun r3 h2 hw => ?_)
    exact zr_ret rfl rfl dX4_turn_21 hw
  · have hw := hw.2 q
    refine zr_iload_n dX4_turn_8 rfl rfl ?_
    refine zr_pSi (ctX4_isKind p2 h0 _ hw) zy_X4_isKind zm_X4_138 (by decide) rfl rfl (Nat.le_of_ble_eq_true rfl) dX4_turn_9 (fun r4 hw => ?_)
    refine zr_if_ne 22 dX4_turn_12 (by decide) (fun q => ?_) (fun q => ?_)
    · have hw := hw.1 q
      refine zr_aload_n dX4_turn_22 rfl rfl ?_
      refine zr_getR zz_cX4 zz_C0 0 (by decide) rfl zf_X4_12 dX4_turn_23 ?_
      refine zr_getR zz_cX0 zz_C1 4 (by decide) rfl zf_X4_153 dX4_turn_26 ?_
      refine zr_iload_n dX4_turn_29 rfl rfl ?_
      obtain ⟨hi, hw⟩ := hw
      refine zr_iald zz_C6 hi rfl dX4_turn_30 ?_
      refine zr_istore_n [.ref 0, .int p1, .int p2, .int (h0 6 p1.toNatClampNeg)] dX4_turn_31 rfl (by decide) rfl rfl ?_
      refine zr_aload_n dX4_turn_32 rfl rfl ?_
      refine zr_getR zz_cX4 zz_C0 0 (by decide) rfl zf_X4_12 dX4_turn_33 ?_
      refine zr_getR zz_cX0 zz_C1 4 (by decide) rfl zf_X4_153 dX4_turn_36 ?_
      refine zr_iload_n dX4_turn_39 rfl rfl ?_
      refine zr_iload_n dX4_turn_40 rfl rfl ?_
      obtain ⟨hi, hw⟩ := hw
      refine zr_iast zz_C6 hi rfl dX4_turn_41 hw (fun h5 hw => ?_)
      refine zr_iload_n dX4_turn_42 rfl rfl ?_
      exact zr_ret rfl rfl dX4_turn_43 hw
    · have hw := hw.2 q
      refine zr_aload_n dX4_turn_15 rfl rfl ?_
      refine zr_ldc zk_X4_65 dX4_turn_16 ?_
      refine zr_callVi zz_cX4 zz_C0 (ctX4_tell ((-1000001) : Int32) h0 _ hw) zy_X4_tell zm_X4_66 (by decide) rfl rfl (Nat.le_of_ble_eq_true rfl) dX4_turn_18 (fun r7 h6 hw => ?_)
      exact zr_ret rfl rfl dX4_turn_21 hw
def wX4_by (p1 : Int32) (p2 : Int32) (h0 : zz_H) (post : Int32 → zz_H → Prop) : Prop :=
  wX4_isCurve p1 h0 (fun r1 => ((r1 = 0) → (wX4_tell ((-1000001) : Int32) h0 (fun r3 h2 => post r3 h2))) ∧ ((¬ r1 = 0) → (wX4_isBy p2 h0 (fun r4 => ((¬ r4 = 0) → (vp_in p1 6 ∧ (vp_in p1 6 ∧ zz_sto h0 7 (upd (h0 7) p1.toNatClampNeg p2) (fun h5 => post (h0 7 p1.toNatClampNeg) h5)))) ∧ ((r4 = 0) → (wX4_tell ((-1000001) : Int32) h0 (fun r7 h6 => post r7 h6)))))))
set_option maxRecDepth 20000 in
set_option maxHeartbeats 4000000 in
theorem ctX4_by (p1 : Int32) (p2 : Int32) (h0 : zz_H) (post : Int32 → zz_H → Prop) (hw : wX4_by p1 p2 h0 post) : zz_Ct zz_C 2 yX4_by cX4_by 4 (some .int) [.ref 0, .int p1, .int p2] h0 post := by
  refine zz_ct (L := [.ref 0, .int p1, .int p2, .null]) (by decide +kernel) (Nat.le_of_ble_eq_true rfl) (fun ad q hq => hq) ?_
  show zz_Go zz_C 2 cX4_by RX4 4 (some .int) post 0 [] [.ref 0, .int p1, .int p2, .null] h0
  unfold wX4_by at hw
  refine zr_aload_n dX4_by_0 rfl rfl ?_
  refine zr_iload_n dX4_by_1 rfl rfl ?_
  refine zr_pVi zz_cX4 zz_C0 (ctX4_isCurve p1 h0 _ hw) zy_X4_isCurve zm_X4_150 (by decide) rfl rfl (Nat.le_of_ble_eq_true rfl) dX4_by_2 (fun r1 hw => ?_)
  refine zr_if_eq 15 dX4_by_5 (by decide) (fun q => ?_) (fun q => ?_)
  · have hw := hw.1 q
    refine zr_aload_n dX4_by_15 rfl rfl ?_
    refine zr_ldc zk_X4_65 dX4_by_16 ?_
    refine zr_callVi zz_cX4 zz_C0 (ctX4_tell ((-1000001) : Int32) h0 _ hw) zy_X4_tell zm_X4_66 (by decide) rfl rfl (Nat.le_of_ble_eq_true rfl) dX4_by_18 (fun r3 h2 hw => ?_)
    exact zr_ret rfl rfl dX4_by_21 hw
  · have hw := hw.2 q
    refine zr_iload_n dX4_by_8 rfl rfl ?_
    refine zr_pSi (ctX4_isBy p2 h0 _ hw) zy_X4_isBy zm_X4_141 (by decide) rfl rfl (Nat.le_of_ble_eq_true rfl) dX4_by_9 (fun r4 hw => ?_)
    refine zr_if_ne 22 dX4_by_12 (by decide) (fun q => ?_) (fun q => ?_)
    · have hw := hw.1 q
      refine zr_aload_n dX4_by_22 rfl rfl ?_
      refine zr_getR zz_cX4 zz_C0 0 (by decide) rfl zf_X4_12 dX4_by_23 ?_
      refine zr_getR zz_cX0 zz_C1 5 (by decide) rfl zf_X4_156 dX4_by_26 ?_
      refine zr_iload_n dX4_by_29 rfl rfl ?_
      obtain ⟨hi, hw⟩ := hw
      refine zr_iald zz_C7 hi rfl dX4_by_30 ?_
      refine zr_istore_n [.ref 0, .int p1, .int p2, .int (h0 7 p1.toNatClampNeg)] dX4_by_31 rfl (by decide) rfl rfl ?_
      refine zr_aload_n dX4_by_32 rfl rfl ?_
      refine zr_getR zz_cX4 zz_C0 0 (by decide) rfl zf_X4_12 dX4_by_33 ?_
      refine zr_getR zz_cX0 zz_C1 5 (by decide) rfl zf_X4_156 dX4_by_36 ?_
      refine zr_iload_n dX4_by_39 rfl rfl ?_
      refine zr_iload_n dX4_by_40 rfl rfl ?_
      obtain ⟨hi, hw⟩ := hw
      refine zr_iast zz_C7 hi rfl dX4_by_41 hw (fun h5 hw => ?_)
      refine zr_iload_n dX4_by_42 rfl rfl ?_
      exact zr_ret rfl rfl dX4_by_43 hw
    · have hw := hw.2 q
      refine zr_aload_n dX4_by_15 rfl rfl ?_
      refine zr_ldc zk_X4_65 dX4_by_16 ?_
      refine zr_callVi zz_cX4 zz_C0 (ctX4_tell ((-1000001) : Int32) h0 _ hw) zy_X4_tell zm_X4_66 (by decide) rfl rfl (Nat.le_of_ble_eq_true rfl) dX4_by_18 (fun r7 h6 hw => ?_)
      exact zr_ret rfl rfl dX4_by_21 hw
def wX4_mark (p1 : Int32) (p2 : Int32) (h0 : zz_H) (post : Int32 → zz_H → Prop) : Prop :=
  wX4_isCurve p1 h0 (fun r1 => ((r1 = 0) → (wX4_tell ((-1000001) : Int32) h0 (fun r3 h2 => post r3 h2))) ∧ ((¬ r1 = 0) → (wX4_isPupil p2 h0 (fun r4 => ((¬ r4 = 0) → (wX1_read 1 h0 (fun _ h5 => vp_in p1 6 ∧ (vp_in p1 6 ∧ (wX1_markOf (h5 6 p1.toNatClampNeg) (h5 7 p1.toNatClampNeg) p2 h5 (fun r6 => post r6 h5)))))) ∧ ((r4 = 0) → (wX4_tell ((-1000001) : Int32) h0 (fun r8 h7 => post r8 h7)))))))
set_option maxRecDepth 20000 in
set_option maxHeartbeats 4000000 in
theorem ctX4_mark (p1 : Int32) (p2 : Int32) (h0 : zz_H) (post : Int32 → zz_H → Prop) (hw : wX4_mark p1 p2 h0 post) : zz_Ct zz_C 4 yX4_mark cX4_mark 3 (some .int) [.ref 0, .int p1, .int p2] h0 post := by
  refine zz_ct (L := [.ref 0, .int p1, .int p2]) (by decide +kernel) (Nat.le_of_ble_eq_true rfl) (fun ad q hq => hq) ?_
  show zz_Go zz_C 4 cX4_mark RX4 3 (some .int) post 0 [] [.ref 0, .int p1, .int p2] h0
  unfold wX4_mark at hw
  refine zr_aload_n dX4_mark_0 rfl rfl ?_
  refine zr_iload_n dX4_mark_1 rfl rfl ?_
  refine zr_pVi zz_cX4 zz_C0 (ctX4_isCurve p1 h0 _ hw) zy_X4_isCurve zm_X4_150 (by decide) rfl rfl (Nat.le_of_ble_eq_true rfl) dX4_mark_2 (fun r1 hw => ?_)
  refine zr_if_eq 16 dX4_mark_5 (by decide) (fun q => ?_) (fun q => ?_)
  · have hw := hw.1 q
    refine zr_aload_n dX4_mark_16 rfl rfl ?_
    refine zr_ldc zk_X4_65 dX4_mark_17 ?_
    refine zr_callVi zz_cX4 zz_C0 (ctX4_tell ((-1000001) : Int32) h0 _ hw) zy_X4_tell zm_X4_66 (by decide) rfl rfl (Nat.le_of_ble_eq_true rfl) dX4_mark_19 (fun r3 h2 hw => ?_)
    exact zr_ret rfl rfl dX4_mark_22 hw
  · have hw := hw.2 q
    refine zr_aload_n dX4_mark_8 rfl rfl ?_
    refine zr_iload_n dX4_mark_9 rfl rfl ?_
    refine zr_pVi zz_cX4 zz_C0 (ctX4_isPupil p2 h0 _ hw) zy_X4_isPupil zm_X4_88 (by decide) rfl rfl (Nat.le_of_ble_eq_true rfl) dX4_mark_10 (fun r4 hw => ?_)
    refine zr_if_ne 23 dX4_mark_13 (by decide) (fun q => ?_) (fun q => ?_)
    · have hw := hw.1 q
      refine zr_aload_n dX4_mark_23 rfl rfl ?_
      refine zr_getR zz_cX4 zz_C0 3 (by decide) rfl zf_X4_25 dX4_mark_24 ?_
      refine zr_aload_n dX4_mark_27 rfl rfl ?_
      refine zr_getR zz_cX4 zz_C0 0 (by decide) rfl zf_X4_12 dX4_mark_28 ?_
      refine zr_callVv zz_cX1 zz_C25 (ctX1_read 1 (Or.inl rfl) h0 _ hw) zy_X1_read zm_X4_112 (by decide) rfl rfl (Nat.le_of_ble_eq_true rfl) dX4_mark_31 (fun h5 hw => ?_)
      refine zr_aload_n dX4_mark_34 rfl rfl ?_
      refine zr_getR zz_cX4 zz_C0 3 (by decide) rfl zf_X4_25 dX4_mark_35 ?_
      refine zr_aload_n dX4_mark_38 rfl rfl ?_
      refine zr_getR zz_cX4 zz_C0 0 (by decide) rfl zf_X4_12 dX4_mark_39 ?_
      refine zr_getR zz_cX0 zz_C1 4 (by decide) rfl zf_X4_153 dX4_mark_42 ?_
      refine zr_iload_n dX4_mark_45 rfl rfl ?_
      obtain ⟨hi, hw⟩ := hw
      refine zr_iald zz_C6 hi rfl dX4_mark_46 ?_
      refine zr_aload_n dX4_mark_47 rfl rfl ?_
      refine zr_getR zz_cX4 zz_C0 0 (by decide) rfl zf_X4_12 dX4_mark_48 ?_
      refine zr_getR zz_cX0 zz_C1 5 (by decide) rfl zf_X4_156 dX4_mark_51 ?_
      refine zr_iload_n dX4_mark_54 rfl rfl ?_
      obtain ⟨hi, hw⟩ := hw
      refine zr_iald zz_C7 hi rfl dX4_mark_55 ?_
      refine zr_iload_n dX4_mark_56 rfl rfl ?_
      refine zr_pVi zz_cX1 zz_C25 (ctX1_markOf (h5 6 p1.toNatClampNeg) (h5 7 p1.toNatClampNeg) p2 h5 _ hw) zy_X1_markOf zm_X4_159 (by decide) rfl rfl (Nat.le_of_ble_eq_true rfl) dX4_mark_57 (fun r6 hw => ?_)
      exact zr_ret rfl rfl dX4_mark_60 hw
    · have hw := hw.2 q
      refine zr_aload_n dX4_mark_16 rfl rfl ?_
      refine zr_ldc zk_X4_65 dX4_mark_17 ?_
      refine zr_callVi zz_cX4 zz_C0 (ctX4_tell ((-1000001) : Int32) h0 _ hw) zy_X4_tell zm_X4_66 (by decide) rfl rfl (Nat.le_of_ble_eq_true rfl) dX4_mark_19 (fun r8 h7 hw => ?_)
      exact zr_ret rfl rfl dX4_mark_22 hw
def wX4_workOut (p1 : Int32) (h0 : zz_H) (post : Int32 → zz_H → Prop) : Prop :=
  wX1_read 1 h0 (fun _ h1 => vp_in p1 6 ∧ (vp_in p1 6 ∧ (wX1_markAll (h1 6 p1.toNatClampNeg) (h1 7 p1.toNatClampNeg) 32 h1 (fun _ h2 => post 0 h2))))
set_option maxRecDepth 20000 in
set_option maxHeartbeats 4000000 in
theorem ctX4_workOut (p1 : Int32) (h0 : zz_H) (post : Int32 → zz_H → Prop) (hw : wX4_workOut p1 h0 post) : zz_Ct zz_C 5 yX4_workOut cX4_workOut 2 none [.ref 0, .int p1] h0 post := by
  refine zz_ct (L := [.ref 0, .int p1]) (by decide +kernel) (Nat.le_of_ble_eq_true rfl) (fun ad q hq => hq) ?_
  show zz_Go zz_C 5 cX4_workOut RX4 2 none post 0 [] [.ref 0, .int p1] h0
  unfold wX4_workOut at hw
  refine zr_aload_n dX4_workOut_0 rfl rfl ?_
  refine zr_getR zz_cX4 zz_C0 3 (by decide) rfl zf_X4_25 dX4_workOut_1 ?_
  refine zr_aload_n dX4_workOut_4 rfl rfl ?_
  refine zr_getR zz_cX4 zz_C0 0 (by decide) rfl zf_X4_12 dX4_workOut_5 ?_
  refine zr_callVv zz_cX1 zz_C25 (ctX1_read 1 (Or.inl rfl) h0 _ hw) zy_X1_read zm_X4_112 (by decide) rfl rfl (Nat.le_of_ble_eq_true rfl) dX4_workOut_8 (fun h1 hw => ?_)
  refine zr_aload_n dX4_workOut_11 rfl rfl ?_
  refine zr_getR zz_cX4 zz_C0 3 (by decide) rfl zf_X4_25 dX4_workOut_12 ?_
  refine zr_aload_n dX4_workOut_15 rfl rfl ?_
  refine zr_getR zz_cX4 zz_C0 0 (by decide) rfl zf_X4_12 dX4_workOut_16 ?_
  refine zr_getR zz_cX0 zz_C1 4 (by decide) rfl zf_X4_153 dX4_workOut_19 ?_
  refine zr_iload_n dX4_workOut_22 rfl rfl ?_
  obtain ⟨hi, hw⟩ := hw
  refine zr_iald zz_C6 hi rfl dX4_workOut_23 ?_
  refine zr_aload_n dX4_workOut_24 rfl rfl ?_
  refine zr_getR zz_cX4 zz_C0 0 (by decide) rfl zf_X4_12 dX4_workOut_25 ?_
  refine zr_getR zz_cX0 zz_C1 5 (by decide) rfl zf_X4_156 dX4_workOut_28 ?_
  refine zr_iload_n dX4_workOut_31 rfl rfl ?_
  obtain ⟨hi, hw⟩ := hw
  refine zr_iald zz_C7 hi rfl dX4_workOut_32 ?_
  refine zr_aload_n dX4_workOut_33 rfl rfl ?_
  refine zr_getR zz_cX4 zz_C0 6 (by decide) rfl zf_X4_42 dX4_workOut_34 ?_
  refine zr_callVv zz_cX1 zz_C25 (ctX1_markAll (h1 6 p1.toNatClampNeg) (h1 7 p1.toNatClampNeg) 32 zz_C32 h1 _ hw) zy_X1_markAll zm_X4_185 (by decide) rfl rfl (Nat.le_of_ble_eq_true rfl) dX4_workOut_37 (fun h2 hw => ?_)
  exact zr_vret rfl dX4_workOut_40 hw
def wX4_marksFrom_b4 (p1 : Int32) (h0 : zz_H) (post : Int32 → Prop) (K3 : Int32 × Int32 → Prop) (x1 : Int32) (x2 : Int32) : Prop :=
  (((h0 1 7) ≤ x2) → (post x1)) ∧ ((¬ (h0 1 7) ≤ x2) → (vp_in x2 12 ∧ ((((h0 32 x2.toNatClampNeg) < p1) → (K3 (x1, (x2 + 1)))) ∧ ((¬ (h0 32 x2.toNatClampNeg) < p1) → (K3 ((x1 + 1), (x2 + 1)))))))
def wX4_marksFrom (p1 : Int32) (h0 : zz_H) (post : Int32 → Prop) : Prop :=
  ∃ t9, zz_lp (fun K (s : Int32 × Int32) => wX4_marksFrom_b4 p1 h0 post K s.1 s.2) t9 ((0 : Int32), (0 : Int32))
set_option maxRecDepth 20000 in
set_option maxHeartbeats 4000000 in
theorem ctX4_marksFrom (p1 : Int32) (h0 : zz_H) (post : Int32 → Prop) (hw : wX4_marksFrom p1 h0 post) : zz_Ct zz_C 0 yX4_marksFrom cX4_marksFrom 4 (some .int) [.ref 0, .int p1] h0 (zz_pu h0 post) := by
  refine zz_ct (L := [.ref 0, .int p1, .null, .null]) (by decide +kernel) (Nat.le_of_ble_eq_true rfl) (fun ad q hq => hq) ?_
  show zz_Go zz_C 0 cX4_marksFrom RX4 4 (some .int) (zz_pu h0 post) 0 [] [.ref 0, .int p1, .null, .null] h0
  unfold wX4_marksFrom at hw
  refine zr_iconst dX4_marksFrom_0 zqk_0 ?_
  refine zr_istore_n [.ref 0, .int p1, .int (0 : Int32), .null] dX4_marksFrom_1 rfl (by decide) rfl rfl ?_
  refine zr_iconst dX4_marksFrom_2 zqk_0 ?_
  refine zr_istore_n [.ref 0, .int p1, .int (0 : Int32), .int (0 : Int32)] dX4_marksFrom_3 rfl (by decide) rfl rfl ?_
  obtain ⟨t9, hw⟩ := hw
  have step4 : ∀ (K3 : Int32 × Int32 → Prop), (∀ (x1 : Int32) (x2 : Int32), K3 (x1, x2) → zz_Go zz_C 0 cX4_marksFrom RX4 4 (some .int) (zz_pu h0 post) 4 [] [.ref 0, .int p1, .int x1, .int x2] h0) → ∀ (x1 : Int32) (x2 : Int32), wX4_marksFrom_b4 p1 h0 post K3 x1 x2 → zz_Go zz_C 0 cX4_marksFrom RX4 4 (some .int) (zz_pu h0 post) 4 [] [.ref 0, .int p1, .int x1, .int x2] h0 := by
    intro K3 ih4 x1 x2 hw
    unfold wX4_marksFrom_b4 at hw
    refine zr_iload_n dX4_marksFrom_4 rfl rfl ?_
    refine zr_aload_n dX4_marksFrom_5 rfl rfl ?_
    refine zr_getR zz_cX4 zz_C0 0 (by decide) rfl zf_X4_12 dX4_marksFrom_6 ?_
    refine zr_getI zz_cX0 zz_C1 7 (by decide) rfl zf_X4_80 dX4_marksFrom_9 ?_
    refine zr_icmp_ge 34 dX4_marksFrom_12 (by decide) (fun q => ?_) (fun q => ?_)
    · have hw := hw.1 q
      refine zr_iload_n dX4_marksFrom_34 rfl rfl ?_
      exact zr_ret rfl rfl dX4_marksFrom_35 ⟨rfl, hw⟩
    · have hw := hw.2 q
      refine zr_aload_n dX4_marksFrom_15 rfl rfl ?_
      refine zr_getR zz_cX4 zz_C0 6 (by decide) rfl zf_X4_42 dX4_marksFrom_16 ?_
      refine zr_iload_n dX4_marksFrom_19 rfl rfl ?_
      obtain ⟨hi, hw⟩ := hw
      refine zr_iald zz_C32 hi rfl dX4_marksFrom_20 ?_
      refine zr_iload_n dX4_marksFrom_21 rfl rfl ?_
      refine zr_icmp_lt 28 dX4_marksFrom_22 (by decide) (fun q => ?_) (fun q => ?_)
      · have hw := hw.1 q
        refine zr_iinc (x2 + 1) [.ref 0, .int p1, .int x1, .int (x2 + 1)] dX4_marksFrom_28 rfl (zok_1 _) (by decide) rfl rfl ?_
        refine zr_goto 4 dX4_marksFrom_31 (by decide) ?_
        exact ih4 _ _ hw
      · have hw := hw.2 q
        refine zr_iinc (x1 + 1) [.ref 0, .int p1, .int (x1 + 1), .int x2] dX4_marksFrom_25 rfl (zok_1 _) (by decide) rfl rfl ?_
        refine zr_iinc (x2 + 1) [.ref 0, .int p1, .int (x1 + 1), .int (x2 + 1)] dX4_marksFrom_28 rfl (zok_1 _) (by decide) rfl rfl ?_
        refine zr_goto 4 dX4_marksFrom_31 (by decide) ?_
        exact ih4 _ _ hw
  have key4 : ∀ (t9 : Nat) (x1 : Int32) (x2 : Int32), zz_lp (fun K (s : Int32 × Int32) => wX4_marksFrom_b4 p1 h0 post K s.1 s.2) t9 (x1, x2) → zz_Go zz_C 0 cX4_marksFrom RX4 4 (some .int) (zz_pu h0 post) 4 [] [.ref 0, .int p1, .int x1, .int x2] h0 := by
    intro t9
    induction t9 with
    | zero => intro x1 x2 hw; exact hw.elim
    | succ t9 ih => intro x1 x2 hw; exact step4 _ ih _ _ hw
  exact key4 t9 _ _ hw
def wX4_place (p1 : Int32) (p2 : Int32) (h0 : zz_H) (post : Int32 → zz_H → Prop) : Prop :=
  wX4_isCurve p1 h0 (fun r1 => ((r1 = 0) → (wX4_tell ((-1000001) : Int32) h0 (fun r3 h2 => post r3 h2))) ∧ ((¬ r1 = 0) → (wX4_isPupil p2 h0 (fun r4 => ((¬ r4 = 0) → (wX4_workOut p1 h0 (fun _ h5 => vp_in p2 12 ∧ (wX4_marksFrom ((h5 32 p2.toNatClampNeg) + (1 : Int32)) h5 (fun r6 => post ((1 : Int32) + r6) h5))))) ∧ ((r4 = 0) → (wX4_tell ((-1000001) : Int32) h0 (fun r8 h7 => post r8 h7)))))))
set_option maxRecDepth 20000 in
set_option maxHeartbeats 4000000 in
theorem ctX4_place (p1 : Int32) (p2 : Int32) (h0 : zz_H) (post : Int32 → zz_H → Prop) (hw : wX4_place p1 p2 h0 post) : zz_Ct zz_C 6 yX4_place cX4_place 3 (some .int) [.ref 0, .int p1, .int p2] h0 post := by
  refine zz_ct (L := [.ref 0, .int p1, .int p2]) (by decide +kernel) (Nat.le_of_ble_eq_true rfl) (fun ad q hq => hq) ?_
  show zz_Go zz_C 6 cX4_place RX4 3 (some .int) post 0 [] [.ref 0, .int p1, .int p2] h0
  unfold wX4_place at hw
  refine zr_aload_n dX4_place_0 rfl rfl ?_
  refine zr_iload_n dX4_place_1 rfl rfl ?_
  refine zr_pVi zz_cX4 zz_C0 (ctX4_isCurve p1 h0 _ hw) zy_X4_isCurve zm_X4_150 (by decide) rfl rfl (Nat.le_of_ble_eq_true rfl) dX4_place_2 (fun r1 hw => ?_)
  refine zr_if_eq 16 dX4_place_5 (by decide) (fun q => ?_) (fun q => ?_)
  · have hw := hw.1 q
    refine zr_aload_n dX4_place_16 rfl rfl ?_
    refine zr_ldc zk_X4_65 dX4_place_17 ?_
    refine zr_callVi zz_cX4 zz_C0 (ctX4_tell ((-1000001) : Int32) h0 _ hw) zy_X4_tell zm_X4_66 (by decide) rfl rfl (Nat.le_of_ble_eq_true rfl) dX4_place_19 (fun r3 h2 hw => ?_)
    exact zr_ret rfl rfl dX4_place_22 hw
  · have hw := hw.2 q
    refine zr_aload_n dX4_place_8 rfl rfl ?_
    refine zr_iload_n dX4_place_9 rfl rfl ?_
    refine zr_pVi zz_cX4 zz_C0 (ctX4_isPupil p2 h0 _ hw) zy_X4_isPupil zm_X4_88 (by decide) rfl rfl (Nat.le_of_ble_eq_true rfl) dX4_place_10 (fun r4 hw => ?_)
    refine zr_if_ne 23 dX4_place_13 (by decide) (fun q => ?_) (fun q => ?_)
    · have hw := hw.1 q
      refine zr_aload_n dX4_place_23 rfl rfl ?_
      refine zr_iload_n dX4_place_24 rfl rfl ?_
      refine zr_callVv zz_cX4 zz_C0 (ctX4_workOut p1 h0 _ hw) zy_X4_workOut zm_X4_162 (by decide) rfl rfl (Nat.le_of_ble_eq_true rfl) dX4_place_25 (fun h5 hw => ?_)
      refine zr_iconst dX4_place_28 zqk_1 ?_
      refine zr_aload_n dX4_place_29 rfl rfl ?_
      refine zr_aload_n dX4_place_30 rfl rfl ?_
      refine zr_getR zz_cX4 zz_C0 6 (by decide) rfl zf_X4_42 dX4_place_31 ?_
      refine zr_iload_n dX4_place_34 rfl rfl ?_
      obtain ⟨hi, hw⟩ := hw
      refine zr_iald zz_C32 hi rfl dX4_place_35 ?_
      refine zr_iconst dX4_place_36 zqk_1 ?_
      refine zr_iadd dX4_place_37 ?_
      refine zr_pVi zz_cX4 zz_C0 (ctX4_marksFrom ((h5 32 p2.toNatClampNeg) + (1 : Int32)) h5 _ hw) zy_X4_marksFrom zm_X4_166 (by decide) rfl rfl (Nat.le_of_ble_eq_true rfl) dX4_place_38 (fun r6 hw => ?_)
      refine zr_iadd dX4_place_41 ?_
      exact zr_ret rfl rfl dX4_place_42 hw
    · have hw := hw.2 q
      refine zr_aload_n dX4_place_16 rfl rfl ?_
      refine zr_ldc zk_X4_65 dX4_place_17 ?_
      refine zr_callVi zz_cX4 zz_C0 (ctX4_tell ((-1000001) : Int32) h0 _ hw) zy_X4_tell zm_X4_66 (by decide) rfl rfl (Nat.le_of_ble_eq_true rfl) dX4_place_19 (fun r8 h7 hw => ?_)
      exact zr_ret rfl rfl dX4_place_22 hw
def wX4_sum_j65 (h5 : zz_H) (x6 : Int32) (x7 : Int32) (K8 : Int32 × Int32 → Prop) : Prop :=
  vp_in x7 12 ∧ (K8 ((x6 + (h5 32 x7.toNatClampNeg)), (x7 + 1)))
def wX4_sum_b34 (p2 : Int32) (post : Int32 → zz_H → Prop) (h5 : zz_H) (K8 : Int32 × Int32 → Prop) (x6 : Int32) (x7 : Int32) : Prop :=
  (((h5 1 7) ≤ x7) → (post x6 h5)) ∧ ((¬ (h5 1 7) ≤ x7) → (((p2 = ((-1) : Int32)) → (wX4_sum_j65 h5 x6 x7 K8)) ∧ ((¬ p2 = ((-1) : Int32)) → (vp_in x7 12 ∧ (((¬ (h5 4 x7.toNatClampNeg) = p2) → (K8 (x6, (x7 + 1)))) ∧ (((h5 4 x7.toNatClampNeg) = p2) → (wX4_sum_j65 h5 x6 x7 K8)))))))
def wX4_sum (p1 : Int32) (p2 : Int32) (h0 : zz_H) (post : Int32 → zz_H → Prop) : Prop :=
  wX4_isCurve p1 h0 (fun r1 => ((r1 = 0) → (wX4_tell ((-1000001) : Int32) h0 (fun r3 h2 => post r3 h2))) ∧ ((¬ r1 = 0) → (wX4_within p2 ((-1) : Int32) (3 : Int32) h0 (fun r4 => ((¬ r4 = 0) → (wX4_workOut p1 h0 (fun _ h5 => ∃ t9, zz_lp (fun K (s : Int32 × Int32) => wX4_sum_b34 p2 post h5 K s.1 s.2) t9 ((0 : Int32), (0 : Int32))))) ∧ ((r4 = 0) → (wX4_tell ((-1000001) : Int32) h0 (fun r10 h9 => post r10 h9)))))))
set_option maxRecDepth 20000 in
set_option maxHeartbeats 4000000 in
theorem ctX4_sum (p1 : Int32) (p2 : Int32) (h0 : zz_H) (post : Int32 → zz_H → Prop) (hw : wX4_sum p1 p2 h0 post) : zz_Ct zz_C 6 yX4_sum cX4_sum 5 (some .int) [.ref 0, .int p1, .int p2] h0 post := by
  refine zz_ct (L := [.ref 0, .int p1, .int p2, .null, .null]) (by decide +kernel) (Nat.le_of_ble_eq_true rfl) (fun ad q hq => hq) ?_
  show zz_Go zz_C 6 cX4_sum RX4 5 (some .int) post 0 [] [.ref 0, .int p1, .int p2, .null, .null] h0
  unfold wX4_sum at hw
  refine zr_aload_n dX4_sum_0 rfl rfl ?_
  refine zr_iload_n dX4_sum_1 rfl rfl ?_
  refine zr_pVi zz_cX4 zz_C0 (ctX4_isCurve p1 h0 _ hw) zy_X4_isCurve zm_X4_150 (by decide) rfl rfl (Nat.le_of_ble_eq_true rfl) dX4_sum_2 (fun r1 hw => ?_)
  refine zr_if_eq 17 dX4_sum_5 (by decide) (fun q => ?_) (fun q => ?_)
  · have hw := hw.1 q
    refine zr_aload_n dX4_sum_17 rfl rfl ?_
    refine zr_ldc zk_X4_65 dX4_sum_18 ?_
    refine zr_callVi zz_cX4 zz_C0 (ctX4_tell ((-1000001) : Int32) h0 _ hw) zy_X4_tell zm_X4_66 (by decide) rfl rfl (Nat.le_of_ble_eq_true rfl) dX4_sum_20 (fun r3 h2 hw => ?_)
    exact zr_ret rfl rfl dX4_sum_23 hw
  · have hw := hw.2 q
    refine zr_iload_n dX4_sum_8 rfl rfl ?_
    refine zr_iconst dX4_sum_9 zqk_m1 ?_
    refine zr_iconst dX4_sum_10 zqk_3 ?_
    refine zr_pSi (ctX4_within p2 ((-1) : Int32) (3 : Int32) h0 _ hw) zy_X4_within zm_X4_61 (by decide) rfl rfl (Nat.le_of_ble_eq_true rfl) dX4_sum_11 (fun r4 hw => ?_)
    refine zr_if_ne 24 dX4_sum_14 (by decide) (fun q => ?_) (fun q => ?_)
    · have hw := hw.1 q
      refine zr_aload_n dX4_sum_24 rfl rfl ?_
      refine zr_iload_n dX4_sum_25 rfl rfl ?_
      refine zr_callVv zz_cX4 zz_C0 (ctX4_workOut p1 h0 _ hw) zy_X4_workOut zm_X4_162 (by decide) rfl rfl (Nat.le_of_ble_eq_true rfl) dX4_sum_26 (fun h5 hw => ?_)
      refine zr_iconst dX4_sum_29 zqk_0 ?_
      refine zr_istore_n [.ref 0, .int p1, .int p2, .int (0 : Int32), .null] dX4_sum_30 rfl (by decide) rfl rfl ?_
      refine zr_iconst dX4_sum_31 zqk_0 ?_
      refine zr_istore [.ref 0, .int p1, .int p2, .int (0 : Int32), .int (0 : Int32)] dX4_sum_32 (by decide) rfl rfl ?_
      refine zr_sub [.ref 0, .null, .int p2, .int (0 : Int32), .int (0 : Int32)] ⟨Or.inr rfl, ⟨Or.inl rfl, ⟨Or.inr rfl, ⟨Or.inr rfl, ⟨Or.inr rfl, trivial⟩⟩⟩⟩⟩ ?_
      obtain ⟨t9, hw⟩ := hw
      have step34 : ∀ (K8 : Int32 × Int32 → Prop), (∀ (x6 : Int32) (x7 : Int32), K8 (x6, x7) → zz_Go zz_C 6 cX4_sum RX4 5 (some .int) post 34 [] [.ref 0, .null, .int p2, .int x6, .int x7] h5) → ∀ (x6 : Int32) (x7 : Int32), wX4_sum_b34 p2 post h5 K8 x6 x7 → zz_Go zz_C 6 cX4_sum RX4 5 (some .int) post 34 [] [.ref 0, .null, .int p2, .int x6, .int x7] h5 := by
        intro K8 ih34 x6 x7 hw
        unfold wX4_sum_b34 at hw
        refine zr_iload dX4_sum_34 rfl ?_
        refine zr_aload_n dX4_sum_36 rfl rfl ?_
        refine zr_getR zz_cX4 zz_C0 0 (by decide) rfl zf_X4_12 dX4_sum_37 ?_
        refine zr_getI zz_cX0 zz_C1 7 (by decide) rfl zf_X4_80 dX4_sum_40 ?_
        refine zr_icmp_ge 81 dX4_sum_43 (by decide) (fun q => ?_) (fun q => ?_)
        · have hw := hw.1 q
          refine zr_iload_n dX4_sum_81 rfl rfl ?_
          exact zr_ret rfl rfl dX4_sum_82 hw
        · have hw := hw.2 q
          refine zr_iload_n dX4_sum_46 rfl rfl ?_
          refine zr_iconst dX4_sum_47 zqk_m1 ?_
          have j65 : wX4_sum_j65 h5 x6 x7 K8 → zz_Go zz_C 6 cX4_sum RX4 5 (some .int) post 65 [] [.ref 0, .null, .int p2, .int x6, .int x7] h5 := by
            intro hw
            unfold wX4_sum_j65 at hw
            refine zr_iload_n dX4_sum_65 rfl rfl ?_
            refine zr_aload_n dX4_sum_66 rfl rfl ?_
            refine zr_getR zz_cX4 zz_C0 6 (by decide) rfl zf_X4_42 dX4_sum_67 ?_
            refine zr_iload dX4_sum_70 rfl ?_
            obtain ⟨hi, hw⟩ := hw
            refine zr_iald zz_C32 hi rfl dX4_sum_72 ?_
            refine zr_iadd dX4_sum_73 ?_
            refine zr_istore_n [.ref 0, .null, .int p2, .int (x6 + (h5 32 x7.toNatClampNeg)), .int x7] dX4_sum_74 rfl (by decide) rfl rfl ?_
            refine zr_iinc (x7 + 1) [.ref 0, .null, .int p2, .int (x6 + (h5 32 x7.toNatClampNeg)), .int (x7 + 1)] dX4_sum_75 rfl (zok_1 _) (by decide) rfl rfl ?_
            refine zr_goto 34 dX4_sum_78 (by decide) ?_
            exact ih34 _ _ hw
          refine zr_icmp_eq 65 dX4_sum_48 (by decide) (fun q => ?_) (fun q => ?_)
          · have hw := hw.1 q
            exact j65 hw
          · have hw := hw.2 q
            refine zr_aload_n dX4_sum_51 rfl rfl ?_
            refine zr_getR zz_cX4 zz_C0 0 (by decide) rfl zf_X4_12 dX4_sum_52 ?_
            refine zr_getR zz_cX0 zz_C1 2 (by decide) rfl zf_X4_101 dX4_sum_55 ?_
            refine zr_iload dX4_sum_58 rfl ?_
            obtain ⟨hi, hw⟩ := hw
            refine zr_iald zz_C4 hi rfl dX4_sum_60 ?_
            refine zr_iload_n dX4_sum_61 rfl rfl ?_
            refine zr_icmp_ne 75 dX4_sum_62 (by decide) (fun q => ?_) (fun q => ?_)
            · have hw := hw.1 q
              refine zr_iinc (x7 + 1) [.ref 0, .null, .int p2, .int x6, .int (x7 + 1)] dX4_sum_75 rfl (zok_1 _) (by decide) rfl rfl ?_
              refine zr_goto 34 dX4_sum_78 (by decide) ?_
              exact ih34 _ _ hw
            · have hw := hw.2 q
              exact j65 hw
      have key34 : ∀ (t9 : Nat) (x6 : Int32) (x7 : Int32), zz_lp (fun K (s : Int32 × Int32) => wX4_sum_b34 p2 post h5 K s.1 s.2) t9 (x6, x7) → zz_Go zz_C 6 cX4_sum RX4 5 (some .int) post 34 [] [.ref 0, .null, .int p2, .int x6, .int x7] h5 := by
        intro t9
        induction t9 with
        | zero => intro x6 x7 hw; exact hw.elim
        | succ t9 ih => intro x6 x7 hw; exact step34 _ ih _ _ hw
      exact key34 t9 _ _ hw
    · have hw := hw.2 q
      refine zr_aload_n dX4_sum_17 rfl rfl ?_
      refine zr_ldc zk_X4_65 dX4_sum_18 ?_
      refine zr_callVi zz_cX4 zz_C0 (ctX4_tell ((-1000001) : Int32) h0 _ hw) zy_X4_tell zm_X4_66 (by decide) rfl rfl (Nat.le_of_ble_eq_true rfl) dX4_sum_20 (fun r10 h9 hw => ?_)
      exact zr_ret rfl rfl dX4_sum_23 hw
def wX4_greatestReachedBy_b4 (p1 : Int32) (h0 : zz_H) (post : Int32 → Prop) (K3 : Int32 × Int32 → Prop) (x1 : Int32) (x2 : Int32) : Prop :=
  (((h0 1 7) ≤ x2) → (post x1)) ∧ ((¬ (h0 1 7) ≤ x2) → (vp_in x2 12 ∧ ((((h0 32 x2.toNatClampNeg) ≤ x1) → (K3 (x1, (x2 + 1)))) ∧ ((¬ (h0 32 x2.toNatClampNeg) ≤ x1) → (vp_in x2 12 ∧ (wX4_marksFrom (h0 32 x2.toNatClampNeg) h0 (fun r4 => ((r4 < p1) → (K3 (x1, (x2 + 1)))) ∧ ((¬ r4 < p1) → (vp_in x2 12 ∧ (K3 ((h0 32 x2.toNatClampNeg), (x2 + 1))))))))))))
def wX4_greatestReachedBy (p1 : Int32) (h0 : zz_H) (post : Int32 → Prop) : Prop :=
  ∃ t9, zz_lp (fun K (s : Int32 × Int32) => wX4_greatestReachedBy_b4 p1 h0 post K s.1 s.2) t9 ((0 : Int32), (0 : Int32))
set_option maxRecDepth 20000 in
set_option maxHeartbeats 4000000 in
theorem ctX4_greatestReachedBy (p1 : Int32) (h0 : zz_H) (post : Int32 → Prop) (hw : wX4_greatestReachedBy p1 h0 post) : zz_Ct zz_C 1 yX4_greatestReachedBy cX4_greatestReachedBy 4 (some .int) [.ref 0, .int p1] h0 (zz_pu h0 post) := by
  refine zz_ct (L := [.ref 0, .int p1, .null, .null]) (by decide +kernel) (Nat.le_of_ble_eq_true rfl) (fun ad q hq => hq) ?_
  show zz_Go zz_C 1 cX4_greatestReachedBy RX4 4 (some .int) (zz_pu h0 post) 0 [] [.ref 0, .int p1, .null, .null] h0
  unfold wX4_greatestReachedBy at hw
  refine zr_iconst dX4_greatestReachedBy_0 zqk_0 ?_
  refine zr_istore_n [.ref 0, .int p1, .int (0 : Int32), .null] dX4_greatestReachedBy_1 rfl (by decide) rfl rfl ?_
  refine zr_iconst dX4_greatestReachedBy_2 zqk_0 ?_
  refine zr_istore_n [.ref 0, .int p1, .int (0 : Int32), .int (0 : Int32)] dX4_greatestReachedBy_3 rfl (by decide) rfl rfl ?_
  obtain ⟨t9, hw⟩ := hw
  have step4 : ∀ (K3 : Int32 × Int32 → Prop), (∀ (x1 : Int32) (x2 : Int32), K3 (x1, x2) → zz_Go zz_C 1 cX4_greatestReachedBy RX4 4 (some .int) (zz_pu h0 post) 4 [] [.ref 0, .int p1, .int x1, .int x2] h0) → ∀ (x1 : Int32) (x2 : Int32), wX4_greatestReachedBy_b4 p1 h0 post K3 x1 x2 → zz_Go zz_C 1 cX4_greatestReachedBy RX4 4 (some .int) (zz_pu h0 post) 4 [] [.ref 0, .int p1, .int x1, .int x2] h0 := by
    intro K3 ih4 x1 x2 hw
    unfold wX4_greatestReachedBy_b4 at hw
    refine zr_iload_n dX4_greatestReachedBy_4 rfl rfl ?_
    refine zr_aload_n dX4_greatestReachedBy_5 rfl rfl ?_
    refine zr_getR zz_cX4 zz_C0 0 (by decide) rfl zf_X4_12 dX4_greatestReachedBy_6 ?_
    refine zr_getI zz_cX0 zz_C1 7 (by decide) rfl zf_X4_80 dX4_greatestReachedBy_9 ?_
    refine zr_icmp_ge 52 dX4_greatestReachedBy_12 (by decide) (fun q => ?_) (fun q => ?_)
    · have hw := hw.1 q
      refine zr_iload_n dX4_greatestReachedBy_52 rfl rfl ?_
      exact zr_ret rfl rfl dX4_greatestReachedBy_53 ⟨rfl, hw⟩
    · have hw := hw.2 q
      refine zr_aload_n dX4_greatestReachedBy_15 rfl rfl ?_
      refine zr_getR zz_cX4 zz_C0 6 (by decide) rfl zf_X4_42 dX4_greatestReachedBy_16 ?_
      refine zr_iload_n dX4_greatestReachedBy_19 rfl rfl ?_
      obtain ⟨hi, hw⟩ := hw
      refine zr_iald zz_C32 hi rfl dX4_greatestReachedBy_20 ?_
      refine zr_iload_n dX4_greatestReachedBy_21 rfl rfl ?_
      refine zr_icmp_le 46 dX4_greatestReachedBy_22 (by decide) (fun q => ?_) (fun q => ?_)
      · have hw := hw.1 q
        refine zr_iinc (x2 + 1) [.ref 0, .int p1, .int x1, .int (x2 + 1)] dX4_greatestReachedBy_46 rfl (zok_1 _) (by decide) rfl rfl ?_
        refine zr_goto 4 dX4_greatestReachedBy_49 (by decide) ?_
        exact ih4 _ _ hw
      · have hw := hw.2 q
        refine zr_aload_n dX4_greatestReachedBy_25 rfl rfl ?_
        refine zr_aload_n dX4_greatestReachedBy_26 rfl rfl ?_
        refine zr_getR zz_cX4 zz_C0 6 (by decide) rfl zf_X4_42 dX4_greatestReachedBy_27 ?_
        refine zr_iload_n dX4_greatestReachedBy_30 rfl rfl ?_
        obtain ⟨hi, hw⟩ := hw
        refine zr_iald zz_C32 hi rfl dX4_greatestReachedBy_31 ?_
        refine zr_pVi zz_cX4 zz_C0 (ctX4_marksFrom (h0 32 x2.toNatClampNeg) h0 _ hw) zy_X4_marksFrom zm_X4_166 (by decide) rfl rfl (Nat.le_of_ble_eq_true rfl) dX4_greatestReachedBy_32 (fun r4 hw => ?_)
        refine zr_iload_n dX4_greatestReachedBy_35 rfl rfl ?_
        refine zr_icmp_lt 46 dX4_greatestReachedBy_36 (by decide) (fun q => ?_) (fun q => ?_)
        · have hw := hw.1 q
          refine zr_iinc (x2 + 1) [.ref 0, .int p1, .int x1, .int (x2 + 1)] dX4_greatestReachedBy_46 rfl (zok_1 _) (by decide) rfl rfl ?_
          refine zr_goto 4 dX4_greatestReachedBy_49 (by decide) ?_
          exact ih4 _ _ hw
        · have hw := hw.2 q
          refine zr_aload_n dX4_greatestReachedBy_39 rfl rfl ?_
          refine zr_getR zz_cX4 zz_C0 6 (by decide) rfl zf_X4_42 dX4_greatestReachedBy_40 ?_
          refine zr_iload_n dX4_greatestReachedBy_43 rfl rfl ?_
          obtain ⟨hi, hw⟩ := hw
          refine zr_iald zz_C32 hi rfl dX4_greatestReachedBy_44 ?_
          refine zr_istore_n [.ref 0, .int p1, .int (h0 32 x2.toNatClampNeg), .int x2] dX4_greatestReachedBy_45 rfl (by decide) rfl rfl ?_
          refine zr_iinc (x2 + 1) [.ref 0, .int p1, .int (h0 32 x2.toNatClampNeg), .int (x2 + 1)] dX4_greatestReachedBy_46 rfl (zok_1 _) (by decide) rfl rfl ?_
          refine zr_goto 4 dX4_greatestReachedBy_49 (by decide) ?_
          exact ih4 _ _ hw
  have key4 : ∀ (t9 : Nat) (x1 : Int32) (x2 : Int32), zz_lp (fun K (s : Int32 × Int32) => wX4_greatestReachedBy_b4 p1 h0 post K s.1 s.2) t9 (x1, x2) → zz_Go zz_C 1 cX4_greatestReachedBy RX4 4 (some .int) (zz_pu h0 post) 4 [] [.ref 0, .int p1, .int x1, .int x2] h0 := by
    intro t9
    induction t9 with
    | zero => intro x1 x2 hw; exact hw.elim
    | succ t9 ih => intro x1 x2 hw; exact step4 _ ih _ _ hw
  exact key4 t9 _ _ hw
def wX4_middle (p1 : Int32) (h0 : zz_H) (post : Int32 → zz_H → Prop) : Prop :=
  wX4_isCurve p1 h0 (fun r1 => ((¬ r1 = 0) → (((¬ (h0 1 7) = 0) → (wX4_workOut p1 h0 (fun _ h2 => wX4_greatestReachedBy ((h2 1 7) - (((h2 1 7) - (1 : Int32)) / (2 : Int32))) h2 (fun r3 => post r3 h2)))) ∧ (((h0 1 7) = 0) → (wX4_tell ((-1000004) : Int32) h0 (fun r5 h4 => post r5 h4))))) ∧ ((r1 = 0) → (wX4_tell ((-1000001) : Int32) h0 (fun r7 h6 => post r7 h6))))
set_option maxRecDepth 20000 in
set_option maxHeartbeats 4000000 in
theorem ctX4_middle (p1 : Int32) (h0 : zz_H) (post : Int32 → zz_H → Prop) (hw : wX4_middle p1 h0 post) : zz_Ct zz_C 6 yX4_middle cX4_middle 2 (some .int) [.ref 0, .int p1] h0 post := by
  refine zz_ct (L := [.ref 0, .int p1]) (by decide +kernel) (Nat.le_of_ble_eq_true rfl) (fun ad q hq => hq) ?_
  show zz_Go zz_C 6 cX4_middle RX4 2 (some .int) post 0 [] [.ref 0, .int p1] h0
  unfold wX4_middle at hw
  refine zr_aload_n dX4_middle_0 rfl rfl ?_
  refine zr_iload_n dX4_middle_1 rfl rfl ?_
  refine zr_pVi zz_cX4 zz_C0 (ctX4_isCurve p1 h0 _ hw) zy_X4_isCurve zm_X4_150 (by decide) rfl rfl (Nat.le_of_ble_eq_true rfl) dX4_middle_2 (fun r1 hw => ?_)
  refine zr_if_ne 15 dX4_middle_5 (by decide) (fun q => ?_) (fun q => ?_)
  · have hw := hw.1 q
    refine zr_aload_n dX4_middle_15 rfl rfl ?_
    refine zr_getR zz_cX4 zz_C0 0 (by decide) rfl zf_X4_12 dX4_middle_16 ?_
    refine zr_getI zz_cX0 zz_C1 7 (by decide) rfl zf_X4_80 dX4_middle_19 ?_
    refine zr_if_ne 32 dX4_middle_22 (by decide) (fun q => ?_) (fun q => ?_)
    · have hw := hw.1 q
      refine zr_aload_n dX4_middle_32 rfl rfl ?_
      refine zr_iload_n dX4_middle_33 rfl rfl ?_
      refine zr_callVv zz_cX4 zz_C0 (ctX4_workOut p1 h0 _ hw) zy_X4_workOut zm_X4_162 (by decide) rfl rfl (Nat.le_of_ble_eq_true rfl) dX4_middle_34 (fun h2 hw => ?_)
      refine zr_aload_n dX4_middle_37 rfl rfl ?_
      refine zr_aload_n dX4_middle_38 rfl rfl ?_
      refine zr_getR zz_cX4 zz_C0 0 (by decide) rfl zf_X4_12 dX4_middle_39 ?_
      refine zr_getI zz_cX0 zz_C1 7 (by decide) rfl zf_X4_80 dX4_middle_42 ?_
      refine zr_aload_n dX4_middle_45 rfl rfl ?_
      refine zr_getR zz_cX4 zz_C0 0 (by decide) rfl zf_X4_12 dX4_middle_46 ?_
      refine zr_getI zz_cX0 zz_C1 7 (by decide) rfl zf_X4_80 dX4_middle_49 ?_
      refine zr_iconst dX4_middle_52 zqk_1 ?_
      refine zr_isub dX4_middle_53 ?_
      refine zr_iconst dX4_middle_54 zqk_2 ?_
      refine zr_idiv dX4_middle_55 (by decide) ?_
      refine zr_isub dX4_middle_56 ?_
      refine zr_pVi zz_cX4 zz_C0 (ctX4_greatestReachedBy ((h2 1 7) - (((h2 1 7) - (1 : Int32)) / (2 : Int32))) h2 _ hw) zy_X4_greatestReachedBy zm_X4_169 (by decide) rfl rfl (Nat.le_of_ble_eq_true rfl) dX4_middle_57 (fun r3 hw => ?_)
      exact zr_ret rfl rfl dX4_middle_60 hw
    · have hw := hw.2 q
      refine zr_aload_n dX4_middle_25 rfl rfl ?_
      refine zr_ldc zk_X4_111 dX4_middle_26 ?_
      refine zr_callVi zz_cX4 zz_C0 (ctX4_tell ((-1000004) : Int32) h0 _ hw) zy_X4_tell zm_X4_66 (by decide) rfl rfl (Nat.le_of_ble_eq_true rfl) dX4_middle_28 (fun r5 h4 hw => ?_)
      exact zr_ret rfl rfl dX4_middle_31 hw
  · have hw := hw.2 q
    refine zr_aload_n dX4_middle_8 rfl rfl ?_
    refine zr_ldc zk_X4_65 dX4_middle_9 ?_
    refine zr_callVi zz_cX4 zz_C0 (ctX4_tell ((-1000001) : Int32) h0 _ hw) zy_X4_tell zm_X4_66 (by decide) rfl rfl (Nat.le_of_ble_eq_true rfl) dX4_middle_11 (fun r7 h6 hw => ?_)
    exact zr_ret rfl rfl dX4_middle_14 hw
def wX4_firstBreak_j67 (post : Int32 → zz_H → Prop) (h1 : zz_H) (x2 : Int32) (x4 : Int32) : Prop :=
  post (((100 : Int32) * x2) + x4) h1
def wX4_firstBreak_b20 (post : Int32 → zz_H → Prop) (h1 : zz_H) (x2 : Int32) (K3 : Int32 → Prop) (K5 : Int32 → Prop) (x4 : Int32) : Prop :=
  (((h1 1 7) ≤ x4) → (K3 (x2 + 1))) ∧ ((¬ (h1 1 7) ≤ x4) → (vp_in x2 12 ∧ (vp_in x4 12 ∧ ((((h1 28 x2.toNatClampNeg) ≤ (h1 28 x4.toNatClampNeg)) → (K5 (x4 + 1))) ∧ ((¬ (h1 28 x2.toNatClampNeg) ≤ (h1 28 x4.toNatClampNeg)) → (vp_in x2 12 ∧ (vp_in x4 12 ∧ ((((h1 32 x4.toNatClampNeg) ≤ (h1 32 x2.toNatClampNeg)) → (K5 (x4 + 1))) ∧ ((¬ (h1 32 x4.toNatClampNeg) ≤ (h1 32 x2.toNatClampNeg)) → (wX4_firstBreak_j67 post h1 x2 x4))))))))))
def wX4_firstBreak_b7 (post : Int32 → zz_H → Prop) (h1 : zz_H) (K3 : Int32 → Prop) (x2 : Int32) : Prop :=
  (((h1 1 7) ≤ x2) → (post ((-1) : Int32) h1)) ∧ ((¬ (h1 1 7) ≤ x2) → (∃ t9, zz_lp (fun K (s : Int32) => wX4_firstBreak_b20 post h1 x2 K3 K s) t9 (0 : Int32)))
def wX4_firstBreak (p1 : Int32) (h0 : zz_H) (post : Int32 → zz_H → Prop) : Prop :=
  wX4_workOut p1 h0 (fun _ h1 => ∃ t9, zz_lp (fun K (s : Int32) => wX4_firstBreak_b7 post h1 K s) t9 (0 : Int32))
set_option maxRecDepth 20000 in
set_option maxHeartbeats 4000000 in
theorem ctX4_firstBreak (p1 : Int32) (h0 : zz_H) (post : Int32 → zz_H → Prop) (hw : wX4_firstBreak p1 h0 post) : zz_Ct zz_C 6 yX4_firstBreak cX4_firstBreak 4 (some .int) [.ref 0, .int p1] h0 post := by
  refine zz_ct (L := [.ref 0, .int p1, .null, .null]) (by decide +kernel) (Nat.le_of_ble_eq_true rfl) (fun ad q hq => hq) ?_
  show zz_Go zz_C 6 cX4_firstBreak RX4 4 (some .int) post 0 [] [.ref 0, .int p1, .null, .null] h0
  unfold wX4_firstBreak at hw
  refine zr_aload_n dX4_firstBreak_0 rfl rfl ?_
  refine zr_iload_n dX4_firstBreak_1 rfl rfl ?_
  refine zr_callVv zz_cX4 zz_C0 (ctX4_workOut p1 h0 _ hw) zy_X4_workOut zm_X4_162 (by decide) rfl rfl (Nat.le_of_ble_eq_true rfl) dX4_firstBreak_2 (fun h1 hw => ?_)
  refine zr_iconst dX4_firstBreak_5 zqk_0 ?_
  refine zr_istore_n [.ref 0, .int p1, .int (0 : Int32), .null] dX4_firstBreak_6 rfl (by decide) rfl rfl ?_
  refine zr_sub [.ref 0, .null, .int (0 : Int32), .null] ⟨Or.inr rfl, ⟨Or.inl rfl, ⟨Or.inr rfl, ⟨Or.inl rfl, trivial⟩⟩⟩⟩ ?_
  obtain ⟨t9, hw⟩ := hw
  have step7 : ∀ (K3 : Int32 → Prop), (∀ (x2 : Int32), K3 x2 → zz_Go zz_C 6 cX4_firstBreak RX4 4 (some .int) post 7 [] [.ref 0, .null, .int x2, .null] h1) → ∀ (x2 : Int32), wX4_firstBreak_b7 post h1 K3 x2 → zz_Go zz_C 6 cX4_firstBreak RX4 4 (some .int) post 7 [] [.ref 0, .null, .int x2, .null] h1 := by
    intro K3 ih7 x2 hw
    unfold wX4_firstBreak_b7 at hw
    refine zr_iload_n dX4_firstBreak_7 rfl rfl ?_
    refine zr_aload_n dX4_firstBreak_8 rfl rfl ?_
    refine zr_getR zz_cX4 zz_C0 0 (by decide) rfl zf_X4_12 dX4_firstBreak_9 ?_
    refine zr_getI zz_cX0 zz_C1 7 (by decide) rfl zf_X4_80 dX4_firstBreak_12 ?_
    refine zr_icmp_ge 86 dX4_firstBreak_15 (by decide) (fun q => ?_) (fun q => ?_)
    · have hw := hw.1 q
      refine zr_iconst dX4_firstBreak_86 zqk_m1 ?_
      exact zr_ret rfl rfl dX4_firstBreak_87 hw
    · have hw := hw.2 q
      refine zr_iconst dX4_firstBreak_18 zqk_0 ?_
      refine zr_istore_n [.ref 0, .null, .int x2, .int (0 : Int32)] dX4_firstBreak_19 rfl (by decide) rfl rfl ?_
      obtain ⟨t9, hw⟩ := hw
      have step20 : ∀ (K5 : Int32 → Prop), (∀ (x4 : Int32), K5 x4 → zz_Go zz_C 6 cX4_firstBreak RX4 4 (some .int) post 20 [] [.ref 0, .null, .int x2, .int x4] h1) → ∀ (x4 : Int32), wX4_firstBreak_b20 post h1 x2 K3 K5 x4 → zz_Go zz_C 6 cX4_firstBreak RX4 4 (some .int) post 20 [] [.ref 0, .null, .int x2, .int x4] h1 := by
        intro K5 ih20 x4 hw
        unfold wX4_firstBreak_b20 at hw
        refine zr_iload_n dX4_firstBreak_20 rfl rfl ?_
        refine zr_aload_n dX4_firstBreak_21 rfl rfl ?_
        refine zr_getR zz_cX4 zz_C0 0 (by decide) rfl zf_X4_12 dX4_firstBreak_22 ?_
        refine zr_getI zz_cX0 zz_C1 7 (by decide) rfl zf_X4_80 dX4_firstBreak_25 ?_
        refine zr_icmp_ge 80 dX4_firstBreak_28 (by decide) (fun q => ?_) (fun q => ?_)
        · have hw := hw.1 q
          refine zr_iinc (x2 + 1) [.ref 0, .null, .int (x2 + 1), .int x4] dX4_firstBreak_80 rfl (zok_1 _) (by decide) rfl rfl ?_
          refine zr_goto 7 dX4_firstBreak_83 (by decide) ?_
          refine zr_sub [.ref 0, .null, .int (x2 + 1), .null] ⟨Or.inr rfl, ⟨Or.inl rfl, ⟨Or.inr rfl, ⟨Or.inl rfl, trivial⟩⟩⟩⟩ ?_
          exact ih7 _ hw
        · have hw := hw.2 q
          refine zr_aload_n dX4_firstBreak_31 rfl rfl ?_
          refine zr_getR zz_cX4 zz_C0 3 (by decide) rfl zf_X4_25 dX4_firstBreak_32 ?_
          refine zr_getR zz_cX1 zz_C25 2 (by decide) rfl zf_X4_175 dX4_firstBreak_35 ?_
          refine zr_iload_n dX4_firstBreak_38 rfl rfl ?_
          obtain ⟨hi, hw⟩ := hw
          refine zr_iald zz_C28 hi rfl dX4_firstBreak_39 ?_
          refine zr_aload_n dX4_firstBreak_40 rfl rfl ?_
          refine zr_getR zz_cX4 zz_C0 3 (by decide) rfl zf_X4_25 dX4_firstBreak_41 ?_
          refine zr_getR zz_cX1 zz_C25 2 (by decide) rfl zf_X4_175 dX4_firstBreak_44 ?_
          refine zr_iload_n dX4_firstBreak_47 rfl rfl ?_
          obtain ⟨hi, hw⟩ := hw
          refine zr_iald zz_C28 hi rfl dX4_firstBreak_48 ?_
          refine zr_icmp_le 74 dX4_firstBreak_49 (by decide) (fun q => ?_) (fun q => ?_)
          · have hw := hw.1 q
            refine zr_iinc (x4 + 1) [.ref 0, .null, .int x2, .int (x4 + 1)] dX4_firstBreak_74 rfl (zok_1 _) (by decide) rfl rfl ?_
            refine zr_goto 20 dX4_firstBreak_77 (by decide) ?_
            exact ih20 _ hw
          · have hw := hw.2 q
            refine zr_aload_n dX4_firstBreak_52 rfl rfl ?_
            refine zr_getR zz_cX4 zz_C0 6 (by decide) rfl zf_X4_42 dX4_firstBreak_53 ?_
            refine zr_iload_n dX4_firstBreak_56 rfl rfl ?_
            obtain ⟨hi, hw⟩ := hw
            refine zr_iald zz_C32 hi rfl dX4_firstBreak_57 ?_
            refine zr_aload_n dX4_firstBreak_58 rfl rfl ?_
            refine zr_getR zz_cX4 zz_C0 6 (by decide) rfl zf_X4_42 dX4_firstBreak_59 ?_
            refine zr_iload_n dX4_firstBreak_62 rfl rfl ?_
            obtain ⟨hi, hw⟩ := hw
            refine zr_iald zz_C32 hi rfl dX4_firstBreak_63 ?_
            have j67 : wX4_firstBreak_j67 post h1 x2 x4 → zz_Go zz_C 6 cX4_firstBreak RX4 4 (some .int) post 67 [] [.null, .null, .int x2, .int x4] h1 := by
              intro hw
              unfold wX4_firstBreak_j67 at hw
              refine zr_bipush dX4_firstBreak_67 zbk_100 ?_
              refine zr_iload_n dX4_firstBreak_69 rfl rfl ?_
              refine zr_imul dX4_firstBreak_70 ?_
              refine zr_iload_n dX4_firstBreak_71 rfl rfl ?_
              refine zr_iadd dX4_firstBreak_72 ?_
              exact zr_ret rfl rfl dX4_firstBreak_73 hw
            refine zr_icmp_ge 74 dX4_firstBreak_64 (by decide) (fun q => ?_) (fun q => ?_)
            · have hw := hw.1 q
              refine zr_iinc (x4 + 1) [.ref 0, .null, .int x2, .int (x4 + 1)] dX4_firstBreak_74 rfl (zok_1 _) (by decide) rfl rfl ?_
              refine zr_goto 20 dX4_firstBreak_77 (by decide) ?_
              exact ih20 _ hw
            · have hw := hw.2 q
              refine zr_sub [.null, .null, .int x2, .int x4] ⟨Or.inl rfl, ⟨Or.inl rfl, ⟨Or.inr rfl, ⟨Or.inr rfl, trivial⟩⟩⟩⟩ ?_
              exact j67 hw
      have key20 : ∀ (t9 : Nat) (x4 : Int32), zz_lp (fun K (s : Int32) => wX4_firstBreak_b20 post h1 x2 K3 K s) t9 x4 → zz_Go zz_C 6 cX4_firstBreak RX4 4 (some .int) post 20 [] [.ref 0, .null, .int x2, .int x4] h1 := by
        intro t9
        induction t9 with
        | zero => intro x4 hw; exact hw.elim
        | succ t9 ih => intro x4 hw; exact step20 _ ih _ hw
      exact key20 t9 _ hw
  have key7 : ∀ (t9 : Nat) (x2 : Int32), zz_lp (fun K (s : Int32) => wX4_firstBreak_b7 post h1 K s) t9 x2 → zz_Go zz_C 6 cX4_firstBreak RX4 4 (some .int) post 7 [] [.ref 0, .null, .int x2, .null] h1 := by
    intro t9
    induction t9 with
    | zero => intro x2 hw; exact hw.elim
    | succ t9 ih => intro x2 hw; exact step7 _ ih _ hw
  exact key7 t9 _ hw
def wX4_keeps (p1 : Int32) (h0 : zz_H) (post : Int32 → zz_H → Prop) : Prop :=
  wX4_isCurve p1 h0 (fun r1 => ((¬ r1 = 0) → (wX4_firstBreak p1 h0 (fun r3 h2 => ((0 ≤ r3) → (post (0 : Int32) h2)) ∧ ((¬ 0 ≤ r3) → (post (1 : Int32) h2))))) ∧ ((r1 = 0) → (wX4_tell ((-1000001) : Int32) h0 (fun r5 h4 => post r5 h4))))
set_option maxRecDepth 20000 in
set_option maxHeartbeats 4000000 in
theorem ctX4_keeps (p1 : Int32) (h0 : zz_H) (post : Int32 → zz_H → Prop) (hw : wX4_keeps p1 h0 post) : zz_Ct zz_C 7 yX4_keeps cX4_keeps 2 (some .int) [.ref 0, .int p1] h0 post := by
  refine zz_ct (L := [.ref 0, .int p1]) (by decide +kernel) (Nat.le_of_ble_eq_true rfl) (fun ad q hq => hq) ?_
  show zz_Go zz_C 7 cX4_keeps RX4 2 (some .int) post 0 [] [.ref 0, .int p1] h0
  unfold wX4_keeps at hw
  refine zr_aload_n dX4_keeps_0 rfl rfl ?_
  refine zr_iload_n dX4_keeps_1 rfl rfl ?_
  refine zr_pVi zz_cX4 zz_C0 (ctX4_isCurve p1 h0 _ hw) zy_X4_isCurve zm_X4_150 (by decide) rfl rfl (Nat.le_of_ble_eq_true rfl) dX4_keeps_2 (fun r1 hw => ?_)
  refine zr_if_ne 15 dX4_keeps_5 (by decide) (fun q => ?_) (fun q => ?_)
  · have hw := hw.1 q
    refine zr_aload_n dX4_keeps_15 rfl rfl ?_
    refine zr_iload_n dX4_keeps_16 rfl rfl ?_
    refine zr_callVi zz_cX4 zz_C0 (ctX4_firstBreak p1 h0 _ hw) zy_X4_firstBreak zm_X4_172 (by decide) rfl rfl (Nat.le_of_ble_eq_true rfl) dX4_keeps_17 (fun r3 h2 hw => ?_)
    refine zr_if_ge 27 dX4_keeps_20 (by decide) (fun q => ?_) (fun q => ?_)
    · have hw := hw.1 q
      refine zr_iconst dX4_keeps_27 zqk_0 ?_
      exact zr_ret rfl rfl dX4_keeps_28 hw
    · have hw := hw.2 q
      refine zr_iconst dX4_keeps_23 zqk_1 ?_
      refine zr_goto 28 dX4_keeps_24 (by decide) ?_
      exact zr_ret rfl rfl dX4_keeps_28 hw
  · have hw := hw.2 q
    refine zr_aload_n dX4_keeps_8 rfl rfl ?_
    refine zr_ldc zk_X4_65 dX4_keeps_9 ?_
    refine zr_callVi zz_cX4 zz_C0 (ctX4_tell ((-1000001) : Int32) h0 _ hw) zy_X4_tell zm_X4_66 (by decide) rfl rfl (Nat.le_of_ble_eq_true rfl) dX4_keeps_11 (fun r5 h4 hw => ?_)
    exact zr_ret rfl rfl dX4_keeps_14 hw
def wX4_breaks (p1 : Int32) (h0 : zz_H) (post : Int32 → zz_H → Prop) : Prop :=
  wX4_isCurve p1 h0 (fun r1 => ((¬ r1 = 0) → (wX4_firstBreak p1 h0 (fun r3 h2 => ((0 ≤ r3) → (post r3 h2)) ∧ ((¬ 0 ≤ r3) → (wX4_tell ((-1000004) : Int32) h2 (fun r5 h4 => post r5 h4)))))) ∧ ((r1 = 0) → (wX4_tell ((-1000001) : Int32) h0 (fun r7 h6 => post r7 h6))))
set_option maxRecDepth 20000 in
set_option maxHeartbeats 4000000 in
theorem ctX4_breaks (p1 : Int32) (h0 : zz_H) (post : Int32 → zz_H → Prop) (hw : wX4_breaks p1 h0 post) : zz_Ct zz_C 7 yX4_breaks cX4_breaks 3 (some .int) [.ref 0, .int p1] h0 post := by
  refine zz_ct (L := [.ref 0, .int p1, .null]) (by decide +kernel) (Nat.le_of_ble_eq_true rfl) (fun ad q hq => hq) ?_
  show zz_Go zz_C 7 cX4_breaks RX4 3 (some .int) post 0 [] [.ref 0, .int p1, .null] h0
  unfold wX4_breaks at hw
  refine zr_aload_n dX4_breaks_0 rfl rfl ?_
  refine zr_iload_n dX4_breaks_1 rfl rfl ?_
  refine zr_pVi zz_cX4 zz_C0 (ctX4_isCurve p1 h0 _ hw) zy_X4_isCurve zm_X4_150 (by decide) rfl rfl (Nat.le_of_ble_eq_true rfl) dX4_breaks_2 (fun r1 hw => ?_)
  refine zr_if_ne 15 dX4_breaks_5 (by decide) (fun q => ?_) (fun q => ?_)
  · have hw := hw.1 q
    refine zr_aload_n dX4_breaks_15 rfl rfl ?_
    refine zr_iload_n dX4_breaks_16 rfl rfl ?_
    refine zr_callVi zz_cX4 zz_C0 (ctX4_firstBreak p1 h0 _ hw) zy_X4_firstBreak zm_X4_172 (by decide) rfl rfl (Nat.le_of_ble_eq_true rfl) dX4_breaks_17 (fun r3 h2 hw => ?_)
    refine zr_istore_n [.ref 0, .int p1, .int r3] dX4_breaks_20 rfl (by decide) rfl rfl ?_
    refine zr_iload_n dX4_breaks_21 rfl rfl ?_
    refine zr_if_ge 34 dX4_breaks_22 (by decide) (fun q => ?_) (fun q => ?_)
    · have hw := hw.1 q
      refine zr_iload_n dX4_breaks_34 rfl rfl ?_
      exact zr_ret rfl rfl dX4_breaks_35 hw
    · have hw := hw.2 q
      refine zr_aload_n dX4_breaks_25 rfl rfl ?_
      refine zr_ldc zk_X4_111 dX4_breaks_26 ?_
      refine zr_callVi zz_cX4 zz_C0 (ctX4_tell ((-1000004) : Int32) h2 _ hw) zy_X4_tell zm_X4_66 (by decide) rfl rfl (Nat.le_of_ble_eq_true rfl) dX4_breaks_28 (fun r5 h4 hw => ?_)
      refine zr_goto 35 dX4_breaks_31 (by decide) ?_
      exact zr_ret rfl rfl dX4_breaks_35 hw
  · have hw := hw.2 q
    refine zr_aload_n dX4_breaks_8 rfl rfl ?_
    refine zr_ldc zk_X4_65 dX4_breaks_9 ?_
    refine zr_callVi zz_cX4 zz_C0 (ctX4_tell ((-1000001) : Int32) h0 _ hw) zy_X4_tell zm_X4_66 (by decide) rfl rfl (Nat.le_of_ble_eq_true rfl) dX4_breaks_11 (fun r7 h6 hw => ?_)
    exact zr_ret rfl rfl dX4_breaks_14 hw
def wX4_heaped_b40 (h2 : zz_H) (x4 : Int32) (K5 : Int32 × Int32 → Prop) (K8 : Int32 × Int32 → Prop) (x6 : Int32) (x7 : Int32) : Prop :=
  (((h2 1 7) ≤ x7) → (K5 (x6, (x4 + 1)))) ∧ ((¬ (h2 1 7) ≤ x7) → (vp_in x4 12 ∧ (vp_in x7 12 ∧ ((((h2 28 x4.toNatClampNeg) = (h2 28 x7.toNatClampNeg)) → (K8 (x6, (x7 + 1)))) ∧ ((¬ (h2 28 x4.toNatClampNeg) = (h2 28 x7.toNatClampNeg)) → (vp_in x4 12 ∧ (vp_in x7 12 ∧ (((¬ (h2 32 x4.toNatClampNeg) = (h2 32 x7.toNatClampNeg)) → (K8 (x6, (x7 + 1)))) ∧ (((h2 32 x4.toNatClampNeg) = (h2 32 x7.toNatClampNeg)) → (K8 ((x6 + 1), (x7 + 1))))))))))))
def wX4_heaped_b24 (post : Int32 → zz_H → Prop) (h2 : zz_H) (K5 : Int32 × Int32 → Prop) (x3 : Int32) (x4 : Int32) : Prop :=
  (((h2 1 7) ≤ x4) → (post x3 h2)) ∧ ((¬ (h2 1 7) ≤ x4) → (∃ t9, zz_lp (fun K (s : Int32 × Int32) => wX4_heaped_b40 h2 x4 K5 K s.1 s.2) t9 (x3, (x4 + (1 : Int32)))))
def wX4_heaped (p1 : Int32) (h0 : zz_H) (post : Int32 → zz_H → Prop) : Prop :=
  wX4_isCurve p1 h0 (fun r1 => ((¬ r1 = 0) → (wX4_workOut p1 h0 (fun _ h2 => ∃ t9, zz_lp (fun K (s : Int32 × Int32) => wX4_heaped_b24 post h2 K s.1 s.2) t9 ((0 : Int32), (0 : Int32))))) ∧ ((r1 = 0) → (wX4_tell ((-1000001) : Int32) h0 (fun r10 h9 => post r10 h9))))
set_option maxRecDepth 20000 in
set_option maxHeartbeats 4000000 in
theorem ctX4_heaped (p1 : Int32) (h0 : zz_H) (post : Int32 → zz_H → Prop) (hw : wX4_heaped p1 h0 post) : zz_Ct zz_C 6 yX4_heaped cX4_heaped 5 (some .int) [.ref 0, .int p1] h0 post := by
  refine zz_ct (L := [.ref 0, .int p1, .null, .null, .null]) (by decide +kernel) (Nat.le_of_ble_eq_true rfl) (fun ad q hq => hq) ?_
  show zz_Go zz_C 6 cX4_heaped RX4 5 (some .int) post 0 [] [.ref 0, .int p1, .null, .null, .null] h0
  unfold wX4_heaped at hw
  refine zr_aload_n dX4_heaped_0 rfl rfl ?_
  refine zr_iload_n dX4_heaped_1 rfl rfl ?_
  refine zr_pVi zz_cX4 zz_C0 (ctX4_isCurve p1 h0 _ hw) zy_X4_isCurve zm_X4_150 (by decide) rfl rfl (Nat.le_of_ble_eq_true rfl) dX4_heaped_2 (fun r1 hw => ?_)
  refine zr_if_ne 15 dX4_heaped_5 (by decide) (fun q => ?_) (fun q => ?_)
  · have hw := hw.1 q
    refine zr_aload_n dX4_heaped_15 rfl rfl ?_
    refine zr_iload_n dX4_heaped_16 rfl rfl ?_
    refine zr_callVv zz_cX4 zz_C0 (ctX4_workOut p1 h0 _ hw) zy_X4_workOut zm_X4_162 (by decide) rfl rfl (Nat.le_of_ble_eq_true rfl) dX4_heaped_17 (fun h2 hw => ?_)
    refine zr_iconst dX4_heaped_20 zqk_0 ?_
    refine zr_istore_n [.ref 0, .int p1, .int (0 : Int32), .null, .null] dX4_heaped_21 rfl (by decide) rfl rfl ?_
    refine zr_iconst dX4_heaped_22 zqk_0 ?_
    refine zr_istore_n [.ref 0, .int p1, .int (0 : Int32), .int (0 : Int32), .null] dX4_heaped_23 rfl (by decide) rfl rfl ?_
    refine zr_sub [.ref 0, .null, .int (0 : Int32), .int (0 : Int32), .null] ⟨Or.inr rfl, ⟨Or.inl rfl, ⟨Or.inr rfl, ⟨Or.inr rfl, ⟨Or.inl rfl, trivial⟩⟩⟩⟩⟩ ?_
    obtain ⟨t9, hw⟩ := hw
    have step24 : ∀ (K5 : Int32 × Int32 → Prop), (∀ (x3 : Int32) (x4 : Int32), K5 (x3, x4) → zz_Go zz_C 6 cX4_heaped RX4 5 (some .int) post 24 [] [.ref 0, .null, .int x3, .int x4, .null] h2) → ∀ (x3 : Int32) (x4 : Int32), wX4_heaped_b24 post h2 K5 x3 x4 → zz_Go zz_C 6 cX4_heaped RX4 5 (some .int) post 24 [] [.ref 0, .null, .int x3, .int x4, .null] h2 := by
      intro K5 ih24 x3 x4 hw
      unfold wX4_heaped_b24 at hw
      refine zr_iload_n dX4_heaped_24 rfl rfl ?_
      refine zr_aload_n dX4_heaped_25 rfl rfl ?_
      refine zr_getR zz_cX4 zz_C0 0 (by decide) rfl zf_X4_12 dX4_heaped_26 ?_
      refine zr_getI zz_cX0 zz_C1 7 (by decide) rfl zf_X4_80 dX4_heaped_29 ?_
      refine zr_icmp_ge 105 dX4_heaped_32 (by decide) (fun q => ?_) (fun q => ?_)
      · have hw := hw.1 q
        refine zr_iload_n dX4_heaped_105 rfl rfl ?_
        exact zr_ret rfl rfl dX4_heaped_106 hw
      · have hw := hw.2 q
        refine zr_iload_n dX4_heaped_35 rfl rfl ?_
        refine zr_iconst dX4_heaped_36 zqk_1 ?_
        refine zr_iadd dX4_heaped_37 ?_
        refine zr_istore [.ref 0, .null, .int x3, .int x4, .int (x4 + (1 : Int32))] dX4_heaped_38 (by decide) rfl rfl ?_
        obtain ⟨t9, hw⟩ := hw
        have step40 : ∀ (K8 : Int32 × Int32 → Prop), (∀ (x6 : Int32) (x7 : Int32), K8 (x6, x7) → zz_Go zz_C 6 cX4_heaped RX4 5 (some .int) post 40 [] [.ref 0, .null, .int x6, .int x4, .int x7] h2) → ∀ (x6 : Int32) (x7 : Int32), wX4_heaped_b40 h2 x4 K5 K8 x6 x7 → zz_Go zz_C 6 cX4_heaped RX4 5 (some .int) post 40 [] [.ref 0, .null, .int x6, .int x4, .int x7] h2 := by
          intro K8 ih40 x6 x7 hw
          unfold wX4_heaped_b40 at hw
          refine zr_iload dX4_heaped_40 rfl ?_
          refine zr_aload_n dX4_heaped_42 rfl rfl ?_
          refine zr_getR zz_cX4 zz_C0 0 (by decide) rfl zf_X4_12 dX4_heaped_43 ?_
          refine zr_getI zz_cX0 zz_C1 7 (by decide) rfl zf_X4_80 dX4_heaped_46 ?_
          refine zr_icmp_ge 99 dX4_heaped_49 (by decide) (fun q => ?_) (fun q => ?_)
          · have hw := hw.1 q
            refine zr_iinc (x4 + 1) [.ref 0, .null, .int x6, .int (x4 + 1), .int x7] dX4_heaped_99 rfl (zok_1 _) (by decide) rfl rfl ?_
            refine zr_goto 24 dX4_heaped_102 (by decide) ?_
            refine zr_sub [.ref 0, .null, .int x6, .int (x4 + 1), .null] ⟨Or.inr rfl, ⟨Or.inl rfl, ⟨Or.inr rfl, ⟨Or.inr rfl, ⟨Or.inl rfl, trivial⟩⟩⟩⟩⟩ ?_
            exact ih24 _ _ hw
          · have hw := hw.2 q
            refine zr_aload_n dX4_heaped_52 rfl rfl ?_
            refine zr_getR zz_cX4 zz_C0 3 (by decide) rfl zf_X4_25 dX4_heaped_53 ?_
            refine zr_getR zz_cX1 zz_C25 2 (by decide) rfl zf_X4_175 dX4_heaped_56 ?_
            refine zr_iload_n dX4_heaped_59 rfl rfl ?_
            obtain ⟨hi, hw⟩ := hw
            refine zr_iald zz_C28 hi rfl dX4_heaped_60 ?_
            refine zr_aload_n dX4_heaped_61 rfl rfl ?_
            refine zr_getR zz_cX4 zz_C0 3 (by decide) rfl zf_X4_25 dX4_heaped_62 ?_
            refine zr_getR zz_cX1 zz_C25 2 (by decide) rfl zf_X4_175 dX4_heaped_65 ?_
            refine zr_iload dX4_heaped_68 rfl ?_
            obtain ⟨hi, hw⟩ := hw
            refine zr_iald zz_C28 hi rfl dX4_heaped_70 ?_
            refine zr_icmp_eq 93 dX4_heaped_71 (by decide) (fun q => ?_) (fun q => ?_)
            · have hw := hw.1 q
              refine zr_iinc (x7 + 1) [.ref 0, .null, .int x6, .int x4, .int (x7 + 1)] dX4_heaped_93 rfl (zok_1 _) (by decide) rfl rfl ?_
              refine zr_goto 40 dX4_heaped_96 (by decide) ?_
              exact ih40 _ _ hw
            · have hw := hw.2 q
              refine zr_aload_n dX4_heaped_74 rfl rfl ?_
              refine zr_getR zz_cX4 zz_C0 6 (by decide) rfl zf_X4_42 dX4_heaped_75 ?_
              refine zr_iload_n dX4_heaped_78 rfl rfl ?_
              obtain ⟨hi, hw⟩ := hw
              refine zr_iald zz_C32 hi rfl dX4_heaped_79 ?_
              refine zr_aload_n dX4_heaped_80 rfl rfl ?_
              refine zr_getR zz_cX4 zz_C0 6 (by decide) rfl zf_X4_42 dX4_heaped_81 ?_
              refine zr_iload dX4_heaped_84 rfl ?_
              obtain ⟨hi, hw⟩ := hw
              refine zr_iald zz_C32 hi rfl dX4_heaped_86 ?_
              refine zr_icmp_ne 93 dX4_heaped_87 (by decide) (fun q => ?_) (fun q => ?_)
              · have hw := hw.1 q
                refine zr_iinc (x7 + 1) [.ref 0, .null, .int x6, .int x4, .int (x7 + 1)] dX4_heaped_93 rfl (zok_1 _) (by decide) rfl rfl ?_
                refine zr_goto 40 dX4_heaped_96 (by decide) ?_
                exact ih40 _ _ hw
              · have hw := hw.2 q
                refine zr_iinc (x6 + 1) [.ref 0, .null, .int (x6 + 1), .int x4, .int x7] dX4_heaped_90 rfl (zok_1 _) (by decide) rfl rfl ?_
                refine zr_iinc (x7 + 1) [.ref 0, .null, .int (x6 + 1), .int x4, .int (x7 + 1)] dX4_heaped_93 rfl (zok_1 _) (by decide) rfl rfl ?_
                refine zr_goto 40 dX4_heaped_96 (by decide) ?_
                exact ih40 _ _ hw
        have key40 : ∀ (t9 : Nat) (x6 : Int32) (x7 : Int32), zz_lp (fun K (s : Int32 × Int32) => wX4_heaped_b40 h2 x4 K5 K s.1 s.2) t9 (x6, x7) → zz_Go zz_C 6 cX4_heaped RX4 5 (some .int) post 40 [] [.ref 0, .null, .int x6, .int x4, .int x7] h2 := by
          intro t9
          induction t9 with
          | zero => intro x6 x7 hw; exact hw.elim
          | succ t9 ih => intro x6 x7 hw; exact step40 _ ih _ _ hw
        exact key40 t9 _ _ hw
    have key24 : ∀ (t9 : Nat) (x3 : Int32) (x4 : Int32), zz_lp (fun K (s : Int32 × Int32) => wX4_heaped_b24 post h2 K s.1 s.2) t9 (x3, x4) → zz_Go zz_C 6 cX4_heaped RX4 5 (some .int) post 24 [] [.ref 0, .null, .int x3, .int x4, .null] h2 := by
      intro t9
      induction t9 with
      | zero => intro x3 x4 hw; exact hw.elim
      | succ t9 ih => intro x3 x4 hw; exact step24 _ ih _ _ hw
    exact key24 t9 _ _ hw
  · have hw := hw.2 q
    refine zr_aload_n dX4_heaped_8 rfl rfl ?_
    refine zr_ldc zk_X4_65 dX4_heaped_9 ?_
    refine zr_callVi zz_cX4 zz_C0 (ctX4_tell ((-1000001) : Int32) h0 _ hw) zy_X4_tell zm_X4_66 (by decide) rfl rfl (Nat.le_of_ble_eq_true rfl) dX4_heaped_11 (fun r10 h9 hw => ?_)
    exact zr_ret rfl rfl dX4_heaped_14 hw
def wX4_leastGainfulLoss_j132 (p2 : Int32) (p3 : Int32) (h0 : zz_H) (post : Int32 → zz_H → Prop) (r2 : Int32) (r3 : Int32) (x4 : Int32) (K6 : Int32 × zz_H → Prop) (h7 : zz_H) (y9 : Int32) : Prop :=
  wX1_setScore p2 p3 (((h0 5 r2.toNatClampNeg) + (h0 5 r3.toNatClampNeg)) / (2 : Int32)) h7 (fun _ h10 => ((y9 = 0) → (K6 ((x4 + 1), h10))) ∧ ((¬ y9 = 0) → (post x4 h10)))
def wX4_leastGainfulLoss_b80 (p1 : Int32) (p2 : Int32) (p3 : Int32) (p4 : Int32) (h0 : zz_H) (post : Int32 → zz_H → Prop) (r1 : Int32) (r2 : Int32) (r3 : Int32) (K6 : Int32 × zz_H → Prop) (x4 : Int32) (h5 : zz_H) : Prop :=
  ((p4 < x4) → (post (0 : Int32) h5)) ∧ ((¬ p4 < x4) → ((((h0 5 r2.toNatClampNeg) < x4) → (post (0 : Int32) h5)) ∧ ((¬ (h0 5 r2.toNatClampNeg) < x4) → (wX1_setScore p2 p3 ((((h0 5 r2.toNatClampNeg) + (h0 5 r3.toNatClampNeg)) - x4) / (2 : Int32)) h5 (fun _ h7 => wX1_markOf (h0 6 p1.toNatClampNeg) (h0 7 p1.toNatClampNeg) p2 h7 (fun r8 => ((r8 ≤ r1) → (wX4_leastGainfulLoss_j132 p2 p3 h0 post r2 r3 x4 K6 h7 (0 : Int32))) ∧ ((¬ r8 ≤ r1) → (wX4_leastGainfulLoss_j132 p2 p3 h0 post r2 r3 x4 K6 h7 (1 : Int32)))))))))
def wX4_leastGainfulLoss (p1 : Int32) (p2 : Int32) (p3 : Int32) (p4 : Int32) (h0 : zz_H) (post : Int32 → zz_H → Prop) : Prop :=
  vp_in p1 6 ∧ (vp_in p1 6 ∧ (wX1_markOf (h0 6 p1.toNatClampNeg) (h0 7 p1.toNatClampNeg) p2 h0 (fun r1 => wX4_spotOfPoint p2 p3 (0 : Int32) h0 (fun r2 => vp_in r2 192 ∧ (wX4_spotOfPoint p2 p3 (1 : Int32) h0 (fun r3 => vp_in r3 192 ∧ (∃ t9, zz_lp (fun K (s : Int32 × zz_H) => wX4_leastGainfulLoss_b80 p1 p2 p3 p4 h0 post r1 r2 r3 K s.1 s.2) t9 ((1 : Int32), h0))))))))
set_option maxRecDepth 20000 in
set_option maxHeartbeats 4000000 in
theorem ctX4_leastGainfulLoss (p1 : Int32) (p2 : Int32) (p3 : Int32) (p4 : Int32) (h0 : zz_H) (post : Int32 → zz_H → Prop) (hw : wX4_leastGainfulLoss p1 p2 p3 p4 h0 post) : zz_Ct zz_C 4 yX4_leastGainfulLoss cX4_leastGainfulLoss 13 (some .int) [.ref 0, .int p1, .int p2, .int p3, .int p4] h0 post := by
  refine zz_ct (L := [.ref 0, .int p1, .int p2, .int p3, .int p4, .null, .null, .null, .null, .null, .null, .null, .null]) (by decide +kernel) (Nat.le_of_ble_eq_true rfl) (fun ad q hq => hq) ?_
  show zz_Go zz_C 4 cX4_leastGainfulLoss RX4 13 (some .int) post 0 [] [.ref 0, .int p1, .int p2, .int p3, .int p4, .null, .null, .null, .null, .null, .null, .null, .null] h0
  unfold wX4_leastGainfulLoss at hw
  refine zr_aload_n dX4_leastGainfulLoss_0 rfl rfl ?_
  refine zr_getR zz_cX4 zz_C0 0 (by decide) rfl zf_X4_12 dX4_leastGainfulLoss_1 ?_
  refine zr_getR zz_cX0 zz_C1 4 (by decide) rfl zf_X4_153 dX4_leastGainfulLoss_4 ?_
  refine zr_iload_n dX4_leastGainfulLoss_7 rfl rfl ?_
  obtain ⟨hi, hw⟩ := hw
  refine zr_iald zz_C6 hi rfl dX4_leastGainfulLoss_8 ?_
  refine zr_istore [.ref 0, .int p1, .int p2, .int p3, .int p4, .int (h0 6 p1.toNatClampNeg), .null, .null, .null, .null, .null, .null, .null] dX4_leastGainfulLoss_9 (by decide) rfl rfl ?_
  refine zr_aload_n dX4_leastGainfulLoss_11 rfl rfl ?_
  refine zr_getR zz_cX4 zz_C0 0 (by decide) rfl zf_X4_12 dX4_leastGainfulLoss_12 ?_
  refine zr_getR zz_cX0 zz_C1 5 (by decide) rfl zf_X4_156 dX4_leastGainfulLoss_15 ?_
  refine zr_iload_n dX4_leastGainfulLoss_18 rfl rfl ?_
  obtain ⟨hi, hw⟩ := hw
  refine zr_iald zz_C7 hi rfl dX4_leastGainfulLoss_19 ?_
  refine zr_istore [.ref 0, .int p1, .int p2, .int p3, .int p4, .int (h0 6 p1.toNatClampNeg), .int (h0 7 p1.toNatClampNeg), .null, .null, .null, .null, .null, .null] dX4_leastGainfulLoss_20 (by decide) rfl rfl ?_
  refine zr_aload_n dX4_leastGainfulLoss_22 rfl rfl ?_
  refine zr_getR zz_cX4 zz_C0 3 (by decide) rfl zf_X4_25 dX4_leastGainfulLoss_23 ?_
  refine zr_iload dX4_leastGainfulLoss_26 rfl ?_
  refine zr_iload dX4_leastGainfulLoss_28 rfl ?_
  refine zr_iload_n dX4_leastGainfulLoss_30 rfl rfl ?_
  refine zr_pVi zz_cX1 zz_C25 (ctX1_markOf (h0 6 p1.toNatClampNeg) (h0 7 p1.toNatClampNeg) p2 h0 _ hw) zy_X1_markOf zm_X4_159 (by decide) rfl rfl (Nat.le_of_ble_eq_true rfl) dX4_leastGainfulLoss_31 (fun r1 hw => ?_)
  refine zr_istore [.ref 0, .int p1, .int p2, .int p3, .int p4, .int (h0 6 p1.toNatClampNeg), .int (h0 7 p1.toNatClampNeg), .int r1, .null, .null, .null, .null, .null] dX4_leastGainfulLoss_34 (by decide) rfl rfl ?_
  refine zr_aload_n dX4_leastGainfulLoss_36 rfl rfl ?_
  refine zr_getR zz_cX4 zz_C0 0 (by decide) rfl zf_X4_12 dX4_leastGainfulLoss_37 ?_
  refine zr_getR zz_cX0 zz_C1 3 (by decide) rfl zf_X4_98 dX4_leastGainfulLoss_40 ?_
  refine zr_iload_n dX4_leastGainfulLoss_43 rfl rfl ?_
  refine zr_iload_n dX4_leastGainfulLoss_44 rfl rfl ?_
  refine zr_iconst dX4_leastGainfulLoss_45 zqk_0 ?_
  refine zr_pSi (ctX4_spotOfPoint p2 p3 (0 : Int32) h0 _ hw) zy_X4_spotOfPoint zm_X4_94 (by decide) rfl rfl (Nat.le_of_ble_eq_true rfl) dX4_leastGainfulLoss_46 (fun r2 hw => ?_)
  obtain ⟨hi, hw⟩ := hw
  refine zr_iald zz_C5 hi rfl dX4_leastGainfulLoss_49 ?_
  refine zr_istore [.ref 0, .int p1, .int p2, .int p3, .int p4, .int (h0 6 p1.toNatClampNeg), .int (h0 7 p1.toNatClampNeg), .int r1, .int (h0 5 r2.toNatClampNeg), .null, .null, .null, .null] dX4_leastGainfulLoss_50 (by decide) rfl rfl ?_
  refine zr_iload dX4_leastGainfulLoss_52 rfl ?_
  refine zr_aload_n dX4_leastGainfulLoss_54 rfl rfl ?_
  refine zr_getR zz_cX4 zz_C0 0 (by decide) rfl zf_X4_12 dX4_leastGainfulLoss_55 ?_
  refine zr_getR zz_cX0 zz_C1 3 (by decide) rfl zf_X4_98 dX4_leastGainfulLoss_58 ?_
  refine zr_iload_n dX4_leastGainfulLoss_61 rfl rfl ?_
  refine zr_iload_n dX4_leastGainfulLoss_62 rfl rfl ?_
  refine zr_iconst dX4_leastGainfulLoss_63 zqk_1 ?_
  refine zr_pSi (ctX4_spotOfPoint p2 p3 (1 : Int32) h0 _ hw) zy_X4_spotOfPoint zm_X4_94 (by decide) rfl rfl (Nat.le_of_ble_eq_true rfl) dX4_leastGainfulLoss_64 (fun r3 hw => ?_)
  obtain ⟨hi, hw⟩ := hw
  refine zr_iald zz_C5 hi rfl dX4_leastGainfulLoss_67 ?_
  refine zr_iadd dX4_leastGainfulLoss_68 ?_
  refine zr_istore [.ref 0, .int p1, .int p2, .int p3, .int p4, .int (h0 6 p1.toNatClampNeg), .int (h0 7 p1.toNatClampNeg), .int r1, .int (h0 5 r2.toNatClampNeg), .int ((h0 5 r2.toNatClampNeg) + (h0 5 r3.toNatClampNeg)), .null, .null, .null] dX4_leastGainfulLoss_69 (by decide) rfl rfl ?_
  refine zr_iload dX4_leastGainfulLoss_71 rfl ?_
  refine zr_iconst dX4_leastGainfulLoss_73 zqk_2 ?_
  refine zr_idiv dX4_leastGainfulLoss_74 (by decide) ?_
  refine zr_istore [.ref 0, .int p1, .int p2, .int p3, .int p4, .int (h0 6 p1.toNatClampNeg), .int (h0 7 p1.toNatClampNeg), .int r1, .int (h0 5 r2.toNatClampNeg), .int ((h0 5 r2.toNatClampNeg) + (h0 5 r3.toNatClampNeg)), .int (((h0 5 r2.toNatClampNeg) + (h0 5 r3.toNatClampNeg)) / (2 : Int32)), .null, .null] dX4_leastGainfulLoss_75 (by decide) rfl rfl ?_
  refine zr_iconst dX4_leastGainfulLoss_77 zqk_1 ?_
  refine zr_istore [.ref 0, .int p1, .int p2, .int p3, .int p4, .int (h0 6 p1.toNatClampNeg), .int (h0 7 p1.toNatClampNeg), .int r1, .int (h0 5 r2.toNatClampNeg), .int ((h0 5 r2.toNatClampNeg) + (h0 5 r3.toNatClampNeg)), .int (((h0 5 r2.toNatClampNeg) + (h0 5 r3.toNatClampNeg)) / (2 : Int32)), .int (1 : Int32), .null] dX4_leastGainfulLoss_78 (by decide) rfl rfl ?_
  refine zr_sub [.ref 0, .null, .int p2, .int p3, .int p4, .int (h0 6 p1.toNatClampNeg), .int (h0 7 p1.toNatClampNeg), .int r1, .int (h0 5 r2.toNatClampNeg), .int ((h0 5 r2.toNatClampNeg) + (h0 5 r3.toNatClampNeg)), .int (((h0 5 r2.toNatClampNeg) + (h0 5 r3.toNatClampNeg)) / (2 : Int32)), .int (1 : Int32), .null] ⟨Or.inr rfl, ⟨Or.inl rfl, ⟨Or.inr rfl, ⟨Or.inr rfl, ⟨Or.inr rfl, ⟨Or.inr rfl, ⟨Or.inr rfl, ⟨Or.inr rfl, ⟨Or.inr rfl, ⟨Or.inr rfl, ⟨Or.inr rfl, ⟨Or.inr rfl, ⟨Or.inl rfl, trivial⟩⟩⟩⟩⟩⟩⟩⟩⟩⟩⟩⟩⟩ ?_
  obtain ⟨t9, hw⟩ := hw
  have step80 : ∀ (K6 : Int32 × zz_H → Prop), (∀ (x4 : Int32) (h5 : zz_H), K6 (x4, h5) → zz_Go zz_C 4 cX4_leastGainfulLoss RX4 13 (some .int) post 80 [] [.ref 0, .null, .int p2, .int p3, .int p4, .int (h0 6 p1.toNatClampNeg), .int (h0 7 p1.toNatClampNeg), .int r1, .int (h0 5 r2.toNatClampNeg), .int ((h0 5 r2.toNatClampNeg) + (h0 5 r3.toNatClampNeg)), .int (((h0 5 r2.toNatClampNeg) + (h0 5 r3.toNatClampNeg)) / (2 : Int32)), .int x4, .null] h5) → ∀ (x4 : Int32) (h5 : zz_H), wX4_leastGainfulLoss_b80 p1 p2 p3 p4 h0 post r1 r2 r3 K6 x4 h5 → zz_Go zz_C 4 cX4_leastGainfulLoss RX4 13 (some .int) post 80 [] [.ref 0, .null, .int p2, .int p3, .int p4, .int (h0 6 p1.toNatClampNeg), .int (h0 7 p1.toNatClampNeg), .int r1, .int (h0 5 r2.toNatClampNeg), .int ((h0 5 r2.toNatClampNeg) + (h0 5 r3.toNatClampNeg)), .int (((h0 5 r2.toNatClampNeg) + (h0 5 r3.toNatClampNeg)) / (2 : Int32)), .int x4, .null] h5 := by
    intro K6 ih80 x4 h5 hw
    unfold wX4_leastGainfulLoss_b80 at hw
    refine zr_iload dX4_leastGainfulLoss_80 rfl ?_
    refine zr_iload dX4_leastGainfulLoss_82 rfl ?_
    refine zr_icmp_gt 159 dX4_leastGainfulLoss_84 (by decide) (fun q => ?_) (fun q => ?_)
    · have hw := hw.1 q
      refine zr_iconst dX4_leastGainfulLoss_159 zqk_0 ?_
      exact zr_ret rfl rfl dX4_leastGainfulLoss_160 hw
    · have hw := hw.2 q
      refine zr_iload dX4_leastGainfulLoss_87 rfl ?_
      refine zr_iload dX4_leastGainfulLoss_89 rfl ?_
      refine zr_icmp_gt 159 dX4_leastGainfulLoss_91 (by decide) (fun q => ?_) (fun q => ?_)
      · have hw := hw.1 q
        refine zr_iconst dX4_leastGainfulLoss_159 zqk_0 ?_
        exact zr_ret rfl rfl dX4_leastGainfulLoss_160 hw
      · have hw := hw.2 q
        refine zr_aload_n dX4_leastGainfulLoss_94 rfl rfl ?_
        refine zr_getR zz_cX4 zz_C0 3 (by decide) rfl zf_X4_25 dX4_leastGainfulLoss_95 ?_
        refine zr_iload_n dX4_leastGainfulLoss_98 rfl rfl ?_
        refine zr_iload_n dX4_leastGainfulLoss_99 rfl rfl ?_
        refine zr_iload dX4_leastGainfulLoss_100 rfl ?_
        refine zr_iload dX4_leastGainfulLoss_102 rfl ?_
        refine zr_isub dX4_leastGainfulLoss_104 ?_
        refine zr_iconst dX4_leastGainfulLoss_105 zqk_2 ?_
        refine zr_idiv dX4_leastGainfulLoss_106 (by decide) ?_
        refine zr_callVv zz_cX1 zz_C25 (ctX1_setScore p2 p3 ((((h0 5 r2.toNatClampNeg) + (h0 5 r3.toNatClampNeg)) - x4) / (2 : Int32)) h5 _ hw) zy_X1_setScore zm_X4_290 (by decide) rfl rfl (Nat.le_of_ble_eq_true rfl) dX4_leastGainfulLoss_107 (fun h7 hw => ?_)
        refine zr_aload_n dX4_leastGainfulLoss_110 rfl rfl ?_
        refine zr_getR zz_cX4 zz_C0 3 (by decide) rfl zf_X4_25 dX4_leastGainfulLoss_111 ?_
        refine zr_iload dX4_leastGainfulLoss_114 rfl ?_
        refine zr_iload dX4_leastGainfulLoss_116 rfl ?_
        refine zr_iload_n dX4_leastGainfulLoss_118 rfl rfl ?_
        refine zr_pVi zz_cX1 zz_C25 (ctX1_markOf (h0 6 p1.toNatClampNeg) (h0 7 p1.toNatClampNeg) p2 h7 _ hw) zy_X1_markOf zm_X4_159 (by decide) rfl rfl (Nat.le_of_ble_eq_true rfl) dX4_leastGainfulLoss_119 (fun r8 hw => ?_)
        refine zr_iload dX4_leastGainfulLoss_122 rfl ?_
        have j132 : ∀ (y9 : Int32), wX4_leastGainfulLoss_j132 p2 p3 h0 post r2 r3 x4 K6 h7 y9 → zz_Go zz_C 4 cX4_leastGainfulLoss RX4 13 (some .int) post 132 [.int y9] [.ref 0, .null, .int p2, .int p3, .int p4, .int (h0 6 p1.toNatClampNeg), .int (h0 7 p1.toNatClampNeg), .int r1, .int (h0 5 r2.toNatClampNeg), .int ((h0 5 r2.toNatClampNeg) + (h0 5 r3.toNatClampNeg)), .int (((h0 5 r2.toNatClampNeg) + (h0 5 r3.toNatClampNeg)) / (2 : Int32)), .int x4, .null] h7 := by
          intro y9 hw
          unfold wX4_leastGainfulLoss_j132 at hw
          refine zr_istore [.ref 0, .null, .int p2, .int p3, .int p4, .int (h0 6 p1.toNatClampNeg), .int (h0 7 p1.toNatClampNeg), .int r1, .int (h0 5 r2.toNatClampNeg), .int ((h0 5 r2.toNatClampNeg) + (h0 5 r3.toNatClampNeg)), .int (((h0 5 r2.toNatClampNeg) + (h0 5 r3.toNatClampNeg)) / (2 : Int32)), .int x4, .int y9] dX4_leastGainfulLoss_132 (by decide) rfl rfl ?_
          refine zr_aload_n dX4_leastGainfulLoss_134 rfl rfl ?_
          refine zr_getR zz_cX4 zz_C0 3 (by decide) rfl zf_X4_25 dX4_leastGainfulLoss_135 ?_
          refine zr_iload_n dX4_leastGainfulLoss_138 rfl rfl ?_
          refine zr_iload_n dX4_leastGainfulLoss_139 rfl rfl ?_
          refine zr_iload dX4_leastGainfulLoss_140 rfl ?_
          refine zr_callVv zz_cX1 zz_C25 (ctX1_setScore p2 p3 (((h0 5 r2.toNatClampNeg) + (h0 5 r3.toNatClampNeg)) / (2 : Int32)) h7 _ hw) zy_X1_setScore zm_X4_290 (by decide) rfl rfl (Nat.le_of_ble_eq_true rfl) dX4_leastGainfulLoss_142 (fun h10 hw => ?_)
          refine zr_iload dX4_leastGainfulLoss_145 rfl ?_
          refine zr_if_eq 153 dX4_leastGainfulLoss_147 (by decide) (fun q => ?_) (fun q => ?_)
          · have hw := hw.1 q
            refine zr_iinc (x4 + 1) [.ref 0, .null, .int p2, .int p3, .int p4, .int (h0 6 p1.toNatClampNeg), .int (h0 7 p1.toNatClampNeg), .int r1, .int (h0 5 r2.toNatClampNeg), .int ((h0 5 r2.toNatClampNeg) + (h0 5 r3.toNatClampNeg)), .int (((h0 5 r2.toNatClampNeg) + (h0 5 r3.toNatClampNeg)) / (2 : Int32)), .int (x4 + 1), .int y9] dX4_leastGainfulLoss_153 rfl (zok_1 _) (by decide) rfl rfl ?_
            refine zr_goto 80 dX4_leastGainfulLoss_156 (by decide) ?_
            refine zr_sub [.ref 0, .null, .int p2, .int p3, .int p4, .int (h0 6 p1.toNatClampNeg), .int (h0 7 p1.toNatClampNeg), .int r1, .int (h0 5 r2.toNatClampNeg), .int ((h0 5 r2.toNatClampNeg) + (h0 5 r3.toNatClampNeg)), .int (((h0 5 r2.toNatClampNeg) + (h0 5 r3.toNatClampNeg)) / (2 : Int32)), .int (x4 + 1), .null] ⟨Or.inr rfl, ⟨Or.inl rfl, ⟨Or.inr rfl, ⟨Or.inr rfl, ⟨Or.inr rfl, ⟨Or.inr rfl, ⟨Or.inr rfl, ⟨Or.inr rfl, ⟨Or.inr rfl, ⟨Or.inr rfl, ⟨Or.inr rfl, ⟨Or.inr rfl, ⟨Or.inl rfl, trivial⟩⟩⟩⟩⟩⟩⟩⟩⟩⟩⟩⟩⟩ ?_
            exact ih80 _ _ hw
          · have hw := hw.2 q
            refine zr_iload dX4_leastGainfulLoss_150 rfl ?_
            exact zr_ret rfl rfl dX4_leastGainfulLoss_152 hw
        refine zr_icmp_le 131 dX4_leastGainfulLoss_124 (by decide) (fun q => ?_) (fun q => ?_)
        · have hw := hw.1 q
          refine zr_iconst dX4_leastGainfulLoss_131 zqk_0 ?_
          exact j132 _ hw
        · have hw := hw.2 q
          refine zr_iconst dX4_leastGainfulLoss_127 zqk_1 ?_
          refine zr_goto 132 dX4_leastGainfulLoss_128 (by decide) ?_
          exact j132 _ hw
  have key80 : ∀ (t9 : Nat) (x4 : Int32) (h5 : zz_H), zz_lp (fun K (s : Int32 × zz_H) => wX4_leastGainfulLoss_b80 p1 p2 p3 p4 h0 post r1 r2 r3 K s.1 s.2) t9 (x4, h5) → zz_Go zz_C 4 cX4_leastGainfulLoss RX4 13 (some .int) post 80 [] [.ref 0, .null, .int p2, .int p3, .int p4, .int (h0 6 p1.toNatClampNeg), .int (h0 7 p1.toNatClampNeg), .int r1, .int (h0 5 r2.toNatClampNeg), .int ((h0 5 r2.toNatClampNeg) + (h0 5 r3.toNatClampNeg)), .int (((h0 5 r2.toNatClampNeg) + (h0 5 r3.toNatClampNeg)) / (2 : Int32)), .int x4, .null] h5 := by
    intro t9
    induction t9 with
    | zero => intro x4 h5 hw; exact hw.elim
    | succ t9 ih => intro x4 h5 hw; exact step80 _ ih _ _ hw
  exact key80 t9 _ _ hw
