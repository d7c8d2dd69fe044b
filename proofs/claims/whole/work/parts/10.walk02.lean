def wX4_gainOf_j48 (post : Int32 → zz_H → Prop) (x1 : Int32) (x2 : Int32) (h4 : zz_H) : Prop :=
  ((0 ≤ x1) → (post (((100 : Int32) * x1) + x2) h4)) ∧ ((¬ 0 ≤ x1) → (post ((-1) : Int32) h4))
def wX4_gainOf_b9 (p1 : Int32) (p2 : Int32) (post : Int32 → zz_H → Prop) (K5 : Int32 × Int32 × Int32 × zz_H → Prop) (x1 : Int32) (x2 : Int32) (x3 : Int32) (h4 : zz_H) : Prop :=
  (((8 : Int32) ≤ x3) → (wX4_gainOf_j48 post x1 x2 h4)) ∧ ((¬ (8 : Int32) ≤ x3) → (wX4_leastGainfulLoss p1 p2 x3 (x2 - (1 : Int32)) h4 (fun r7 h6 => ((r7 ≤ 0) → (K5 (x1, x2, (x3 + 1), h6))) ∧ ((¬ r7 ≤ 0) → (K5 (x3, r7, (x3 + 1), h6))))))
def wX4_gainOf (p1 : Int32) (p2 : Int32) (h0 : zz_H) (post : Int32 → zz_H → Prop) : Prop :=
  ∃ t9, zz_lp (fun K (s : Int32 × Int32 × Int32 × zz_H) => wX4_gainOf_b9 p1 p2 post K s.1 s.2.1 s.2.2.1 s.2.2.2) t9 (((-1) : Int32), (41 : Int32), (0 : Int32), h0)
set_option maxRecDepth 20000 in
set_option maxHeartbeats 4000000 in
theorem ctX4_gainOf (p1 : Int32) (p2 : Int32) (h0 : zz_H) (post : Int32 → zz_H → Prop) (hw : wX4_gainOf p1 p2 h0 post) : zz_Ct zz_C 5 yX4_gainOf cX4_gainOf 7 (some .int) [.ref 0, .int p1, .int p2] h0 post := by
  refine zz_ct (L := [.ref 0, .int p1, .int p2, .null, .null, .null, .null]) (by decide +kernel) (Nat.le_of_ble_eq_true rfl) (fun ad q hq => hq) ?_
  show zz_Go zz_C 5 cX4_gainOf RX4 7 (some .int) post 0 [] [.ref 0, .int p1, .int p2, .null, .null, .null, .null] h0
  unfold wX4_gainOf at hw
  refine zr_iconst dX4_gainOf_0 zqk_m1 ?_
  refine zr_istore_n [.ref 0, .int p1, .int p2, .int ((-1) : Int32), .null, .null, .null] dX4_gainOf_1 rfl (by decide) rfl rfl ?_
  refine zr_bipush dX4_gainOf_2 zbk_41 ?_
  refine zr_istore [.ref 0, .int p1, .int p2, .int ((-1) : Int32), .int (41 : Int32), .null, .null] dX4_gainOf_4 (by decide) rfl rfl ?_
  refine zr_iconst dX4_gainOf_6 zqk_0 ?_
  refine zr_istore [.ref 0, .int p1, .int p2, .int ((-1) : Int32), .int (41 : Int32), .int (0 : Int32), .null] dX4_gainOf_7 (by decide) rfl rfl ?_
  obtain ⟨t9, hw⟩ := hw
  have step9 : ∀ (K5 : Int32 × Int32 × Int32 × zz_H → Prop), (∀ (x1 : Int32) (x2 : Int32) (x3 : Int32) (h4 : zz_H), K5 (x1, x2, x3, h4) → zz_Go zz_C 5 cX4_gainOf RX4 7 (some .int) post 9 [] [.ref 0, .int p1, .int p2, .int x1, .int x2, .int x3, .null] h4) → ∀ (x1 : Int32) (x2 : Int32) (x3 : Int32) (h4 : zz_H), wX4_gainOf_b9 p1 p2 post K5 x1 x2 x3 h4 → zz_Go zz_C 5 cX4_gainOf RX4 7 (some .int) post 9 [] [.ref 0, .int p1, .int p2, .int x1, .int x2, .int x3, .null] h4 := by
    intro K5 ih9 x1 x2 x3 h4 hw
    unfold wX4_gainOf_b9 at hw
    refine zr_iload dX4_gainOf_9 rfl ?_
    refine zr_bipush dX4_gainOf_11 zbk_8 ?_
    have j48 : wX4_gainOf_j48 post x1 x2 h4 → zz_Go zz_C 5 cX4_gainOf RX4 7 (some .int) post 48 [] [.null, .null, .null, .int x1, .int x2, .null, .null] h4 := by
      intro hw
      unfold wX4_gainOf_j48 at hw
      refine zr_iload_n dX4_gainOf_48 rfl rfl ?_
      refine zr_if_ge 56 dX4_gainOf_49 (by decide) (fun q => ?_) (fun q => ?_)
      · have hw := hw.1 q
        refine zr_bipush dX4_gainOf_56 zbk_100 ?_
        refine zr_iload_n dX4_gainOf_58 rfl rfl ?_
        refine zr_imul dX4_gainOf_59 ?_
        refine zr_iload dX4_gainOf_60 rfl ?_
        refine zr_iadd dX4_gainOf_62 ?_
        exact zr_ret rfl rfl dX4_gainOf_63 hw
      · have hw := hw.2 q
        refine zr_iconst dX4_gainOf_52 zqk_m1 ?_
        refine zr_goto 63 dX4_gainOf_53 (by decide) ?_
        exact zr_ret rfl rfl dX4_gainOf_63 hw
    refine zr_icmp_ge 48 dX4_gainOf_13 (by decide) (fun q => ?_) (fun q => ?_)
    · have hw := hw.1 q
      refine zr_sub [.null, .null, .null, .int x1, .int x2, .null, .null] ⟨Or.inl rfl, ⟨Or.inl rfl, ⟨Or.inl rfl, ⟨Or.inr rfl, ⟨Or.inr rfl, ⟨Or.inl rfl, ⟨Or.inl rfl, trivial⟩⟩⟩⟩⟩⟩⟩ ?_
      exact j48 hw
    · have hw := hw.2 q
      refine zr_aload_n dX4_gainOf_16 rfl rfl ?_
      refine zr_iload_n dX4_gainOf_17 rfl rfl ?_
      refine zr_iload_n dX4_gainOf_18 rfl rfl ?_
      refine zr_iload dX4_gainOf_19 rfl ?_
      refine zr_iload dX4_gainOf_21 rfl ?_
      refine zr_iconst dX4_gainOf_23 zqk_1 ?_
      refine zr_isub dX4_gainOf_24 ?_
      refine zr_callVi zz_cX4 zz_C0 (ctX4_leastGainfulLoss p1 p2 x3 (x2 - (1 : Int32)) h4 _ hw) zy_X4_leastGainfulLoss zm_X4_286 (by decide) rfl rfl (Nat.le_of_ble_eq_true rfl) dX4_gainOf_25 (fun r7 h6 hw => ?_)
      refine zr_istore [.ref 0, .int p1, .int p2, .int x1, .int x2, .int x3, .int r7] dX4_gainOf_28 (by decide) rfl rfl ?_
      refine zr_iload dX4_gainOf_30 rfl ?_
      refine zr_if_le 42 dX4_gainOf_32 (by decide) (fun q => ?_) (fun q => ?_)
      · have hw := hw.1 q
        refine zr_iinc (x3 + 1) [.ref 0, .int p1, .int p2, .int x1, .int x2, .int (x3 + 1), .int r7] dX4_gainOf_42 rfl (zok_1 _) (by decide) rfl rfl ?_
        refine zr_goto 9 dX4_gainOf_45 (by decide) ?_
        refine zr_sub [.ref 0, .int p1, .int p2, .int x1, .int x2, .int (x3 + 1), .null] ⟨Or.inr rfl, ⟨Or.inr rfl, ⟨Or.inr rfl, ⟨Or.inr rfl, ⟨Or.inr rfl, ⟨Or.inr rfl, ⟨Or.inl rfl, trivial⟩⟩⟩⟩⟩⟩⟩ ?_
        exact ih9 _ _ _ _ hw
      · have hw := hw.2 q
        refine zr_iload dX4_gainOf_35 rfl ?_
        refine zr_istore [.ref 0, .int p1, .int p2, .int x1, .int r7, .int x3, .int r7] dX4_gainOf_37 (by decide) rfl rfl ?_
        refine zr_iload dX4_gainOf_39 rfl ?_
        refine zr_istore_n [.ref 0, .int p1, .int p2, .int x3, .int r7, .int x3, .int r7] dX4_gainOf_41 rfl (by decide) rfl rfl ?_
        refine zr_iinc (x3 + 1) [.ref 0, .int p1, .int p2, .int x3, .int r7, .int (x3 + 1), .int r7] dX4_gainOf_42 rfl (zok_1 _) (by decide) rfl rfl ?_
        refine zr_goto 9 dX4_gainOf_45 (by decide) ?_
        refine zr_sub [.ref 0, .int p1, .int p2, .int x3, .int r7, .int (x3 + 1), .null] ⟨Or.inr rfl, ⟨Or.inr rfl, ⟨Or.inr rfl, ⟨Or.inr rfl, ⟨Or.inr rfl, ⟨Or.inr rfl, ⟨Or.inl rfl, trivial⟩⟩⟩⟩⟩⟩⟩ ?_
        exact ih9 _ _ _ _ hw
  have key9 : ∀ (t9 : Nat) (x1 : Int32) (x2 : Int32) (x3 : Int32) (h4 : zz_H), zz_lp (fun K (s : Int32 × Int32 × Int32 × zz_H) => wX4_gainOf_b9 p1 p2 post K s.1 s.2.1 s.2.2.1 s.2.2.2) t9 (x1, x2, x3, h4) → zz_Go zz_C 5 cX4_gainOf RX4 7 (some .int) post 9 [] [.ref 0, .int p1, .int p2, .int x1, .int x2, .int x3, .null] h4 := by
    intro t9
    induction t9 with
    | zero => intro x1 x2 x3 h4 hw; exact hw.elim
    | succ t9 ih => intro x1 x2 x3 h4 hw; exact step9 _ ih _ _ _ _ hw
  exact key9 t9 _ _ _ _ hw
def wX4_gains_b30 (p1 : Int32) (post : Int32 → zz_H → Prop) (K6 : Int32 × Int32 × zz_H → Prop) (x3 : Int32) (x4 : Int32) (h5 : zz_H) : Prop :=
  (((h5 1 7) ≤ x4) → (post x3 h5)) ∧ ((¬ (h5 1 7) ≤ x4) → (wX4_gainOf p1 x4 h5 (fun r8 h7 => ((r8 < 0) → (K6 (x3, (x4 + 1), h7))) ∧ ((¬ r8 < 0) → (K6 ((x3 ||| ((1 : Int32) <<< (x4 &&& 31))), (x4 + 1), h7))))))
def wX4_gains (p1 : Int32) (h0 : zz_H) (post : Int32 → zz_H → Prop) : Prop :=
  wX4_isCurve p1 h0 (fun r1 => ((¬ r1 = 0) → (wX1_read 1 h0 (fun _ h2 => ∃ t9, zz_lp (fun K (s : Int32 × Int32 × zz_H) => wX4_gains_b30 p1 post K s.1 s.2.1 s.2.2) t9 ((0 : Int32), (0 : Int32), h2)))) ∧ ((r1 = 0) → (wX4_tell ((-1000001) : Int32) h0 (fun r10 h9 => post r10 h9))))
set_option maxRecDepth 20000 in
set_option maxHeartbeats 4000000 in
theorem ctX4_gains (p1 : Int32) (h0 : zz_H) (post : Int32 → zz_H → Prop) (hw : wX4_gains p1 h0 post) : zz_Ct zz_C 6 yX4_gains cX4_gains 4 (some .int) [.ref 0, .int p1] h0 post := by
  refine zz_ct (L := [.ref 0, .int p1, .null, .null]) (by decide +kernel) (Nat.le_of_ble_eq_true rfl) (fun ad q hq => hq) ?_
  show zz_Go zz_C 6 cX4_gains RX4 4 (some .int) post 0 [] [.ref 0, .int p1, .null, .null] h0
  unfold wX4_gains at hw
  refine zr_aload_n dX4_gains_0 rfl rfl ?_
  refine zr_iload_n dX4_gains_1 rfl rfl ?_
  refine zr_pVi zz_cX4 zz_C0 (ctX4_isCurve p1 h0 _ hw) zy_X4_isCurve zm_X4_150 (by decide) rfl rfl (Nat.le_of_ble_eq_true rfl) dX4_gains_2 (fun r1 hw => ?_)
  refine zr_if_ne 15 dX4_gains_5 (by decide) (fun q => ?_) (fun q => ?_)
  · have hw := hw.1 q
    refine zr_aload_n dX4_gains_15 rfl rfl ?_
    refine zr_getR zz_cX4 zz_C0 3 (by decide) rfl zf_X4_25 dX4_gains_16 ?_
    refine zr_aload_n dX4_gains_19 rfl rfl ?_
    refine zr_getR zz_cX4 zz_C0 0 (by decide) rfl zf_X4_12 dX4_gains_20 ?_
    refine zr_callVv zz_cX1 zz_C25 (ctX1_read 1 (Or.inl rfl) h0 _ hw) zy_X1_read zm_X4_112 (by decide) rfl rfl (Nat.le_of_ble_eq_true rfl) dX4_gains_23 (fun h2 hw => ?_)
    refine zr_iconst dX4_gains_26 zqk_0 ?_
    refine zr_istore_n [.ref 0, .int p1, .int (0 : Int32), .null] dX4_gains_27 rfl (by decide) rfl rfl ?_
    refine zr_iconst dX4_gains_28 zqk_0 ?_
    refine zr_istore_n [.ref 0, .int p1, .int (0 : Int32), .int (0 : Int32)] dX4_gains_29 rfl (by decide) rfl rfl ?_
    obtain ⟨t9, hw⟩ := hw
    have step30 : ∀ (K6 : Int32 × Int32 × zz_H → Prop), (∀ (x3 : Int32) (x4 : Int32) (h5 : zz_H), K6 (x3, x4, h5) → zz_Go zz_C 6 cX4_gains RX4 4 (some .int) post 30 [] [.ref 0, .int p1, .int x3, .int x4] h5) → ∀ (x3 : Int32) (x4 : Int32) (h5 : zz_H), wX4_gains_b30 p1 post K6 x3 x4 h5 → zz_Go zz_C 6 cX4_gains RX4 4 (some .int) post 30 [] [.ref 0, .int p1, .int x3, .int x4] h5 := by
      intro K6 ih30 x3 x4 h5 hw
      unfold wX4_gains_b30 at hw
      refine zr_iload_n dX4_gains_30 rfl rfl ?_
      refine zr_aload_n dX4_gains_31 rfl rfl ?_
      refine zr_getR zz_cX4 zz_C0 0 (by decide) rfl zf_X4_12 dX4_gains_32 ?_
      refine zr_getI zz_cX0 zz_C1 7 (by decide) rfl zf_X4_80 dX4_gains_35 ?_
      refine zr_icmp_ge 62 dX4_gains_38 (by decide) (fun q => ?_) (fun q => ?_)
      · have hw := hw.1 q
        refine zr_iload_n dX4_gains_62 rfl rfl ?_
        exact zr_ret rfl rfl dX4_gains_63 hw
      · have hw := hw.2 q
        refine zr_aload_n dX4_gains_41 rfl rfl ?_
        refine zr_iload_n dX4_gains_42 rfl rfl ?_
        refine zr_iload_n dX4_gains_43 rfl rfl ?_
        refine zr_callVi zz_cX4 zz_C0 (ctX4_gainOf p1 x4 h5 _ hw) zy_X4_gainOf zm_X4_178 (by decide) rfl rfl (Nat.le_of_ble_eq_true rfl) dX4_gains_44 (fun r8 h7 hw => ?_)
        refine zr_if_lt 56 dX4_gains_47 (by decide) (fun q => ?_) (fun q => ?_)
        · have hw := hw.1 q
          refine zr_iinc (x4 + 1) [.ref 0, .int p1, .int x3, .int (x4 + 1)] dX4_gains_56 rfl (zok_1 _) (by decide) rfl rfl ?_
          refine zr_goto 30 dX4_gains_59 (by decide) ?_
          exact ih30 _ _ _ hw
        · have hw := hw.2 q
          refine zr_iload_n dX4_gains_50 rfl rfl ?_
          refine zr_iconst dX4_gains_51 zqk_1 ?_
          refine zr_iload_n dX4_gains_52 rfl rfl ?_
          refine zr_ishl dX4_gains_53 ?_
          refine zr_ior dX4_gains_54 ?_
          refine zr_istore_n [.ref 0, .int p1, .int (x3 ||| ((1 : Int32) <<< (x4 &&& 31))), .int x4] dX4_gains_55 rfl (by decide) rfl rfl ?_
          refine zr_iinc (x4 + 1) [.ref 0, .int p1, .int (x3 ||| ((1 : Int32) <<< (x4 &&& 31))), .int (x4 + 1)] dX4_gains_56 rfl (zok_1 _) (by decide) rfl rfl ?_
          refine zr_goto 30 dX4_gains_59 (by decide) ?_
          exact ih30 _ _ _ hw
    have key30 : ∀ (t9 : Nat) (x3 : Int32) (x4 : Int32) (h5 : zz_H), zz_lp (fun K (s : Int32 × Int32 × zz_H) => wX4_gains_b30 p1 post K s.1 s.2.1 s.2.2) t9 (x3, x4, h5) → zz_Go zz_C 6 cX4_gains RX4 4 (some .int) post 30 [] [.ref 0, .int p1, .int x3, .int x4] h5 := by
      intro t9
      induction t9 with
      | zero => intro x3 x4 h5 hw; exact hw.elim
      | succ t9 ih => intro x3 x4 h5 hw; exact step30 _ ih _ _ _ hw
    exact key30 t9 _ _ _ hw
  · have hw := hw.2 q
    refine zr_aload_n dX4_gains_8 rfl rfl ?_
    refine zr_ldc zk_X4_65 dX4_gains_9 ?_
    refine zr_callVi zz_cX4 zz_C0 (ctX4_tell ((-1000001) : Int32) h0 _ hw) zy_X4_tell zm_X4_66 (by decide) rfl rfl (Nat.le_of_ble_eq_true rfl) dX4_gains_11 (fun r10 h9 hw => ?_)
    exact zr_ret rfl rfl dX4_gains_14 hw
def wX4_gainsBy (p1 : Int32) (p2 : Int32) (h0 : zz_H) (post : Int32 → zz_H → Prop) : Prop :=
  wX4_isCurve p1 h0 (fun r1 => ((r1 = 0) → (wX4_tell ((-1000001) : Int32) h0 (fun r3 h2 => post r3 h2))) ∧ ((¬ r1 = 0) → (wX4_isPupil p2 h0 (fun r4 => ((¬ r4 = 0) → (wX1_read 1 h0 (fun _ h5 => wX4_gainOf p1 p2 h5 (fun r7 h6 => ((0 ≤ r7) → (post r7 h6)) ∧ ((¬ 0 ≤ r7) → (wX4_tell ((-1000004) : Int32) h6 (fun r9 h8 => post r9 h8))))))) ∧ ((r4 = 0) → (wX4_tell ((-1000001) : Int32) h0 (fun r11 h10 => post r11 h10)))))))
set_option maxRecDepth 20000 in
set_option maxHeartbeats 4000000 in
theorem ctX4_gainsBy (p1 : Int32) (p2 : Int32) (h0 : zz_H) (post : Int32 → zz_H → Prop) (hw : wX4_gainsBy p1 p2 h0 post) : zz_Ct zz_C 6 yX4_gainsBy cX4_gainsBy 4 (some .int) [.ref 0, .int p1, .int p2] h0 post := by
  refine zz_ct (L := [.ref 0, .int p1, .int p2, .null]) (by decide +kernel) (Nat.le_of_ble_eq_true rfl) (fun ad q hq => hq) ?_
  show zz_Go zz_C 6 cX4_gainsBy RX4 4 (some .int) post 0 [] [.ref 0, .int p1, .int p2, .null] h0
  unfold wX4_gainsBy at hw
  refine zr_aload_n dX4_gainsBy_0 rfl rfl ?_
  refine zr_iload_n dX4_gainsBy_1 rfl rfl ?_
  refine zr_pVi zz_cX4 zz_C0 (ctX4_isCurve p1 h0 _ hw) zy_X4_isCurve zm_X4_150 (by decide) rfl rfl (Nat.le_of_ble_eq_true rfl) dX4_gainsBy_2 (fun r1 hw => ?_)
  refine zr_if_eq 16 dX4_gainsBy_5 (by decide) (fun q => ?_) (fun q => ?_)
  · have hw := hw.1 q
    refine zr_aload_n dX4_gainsBy_16 rfl rfl ?_
    refine zr_ldc zk_X4_65 dX4_gainsBy_17 ?_
    refine zr_callVi zz_cX4 zz_C0 (ctX4_tell ((-1000001) : Int32) h0 _ hw) zy_X4_tell zm_X4_66 (by decide) rfl rfl (Nat.le_of_ble_eq_true rfl) dX4_gainsBy_19 (fun r3 h2 hw => ?_)
    exact zr_ret rfl rfl dX4_gainsBy_22 hw
  · have hw := hw.2 q
    refine zr_aload_n dX4_gainsBy_8 rfl rfl ?_
    refine zr_iload_n dX4_gainsBy_9 rfl rfl ?_
    refine zr_pVi zz_cX4 zz_C0 (ctX4_isPupil p2 h0 _ hw) zy_X4_isPupil zm_X4_88 (by decide) rfl rfl (Nat.le_of_ble_eq_true rfl) dX4_gainsBy_10 (fun r4 hw => ?_)
    refine zr_if_ne 23 dX4_gainsBy_13 (by decide) (fun q => ?_) (fun q => ?_)
    · have hw := hw.1 q
      refine zr_aload_n dX4_gainsBy_23 rfl rfl ?_
      refine zr_getR zz_cX4 zz_C0 3 (by decide) rfl zf_X4_25 dX4_gainsBy_24 ?_
      refine zr_aload_n dX4_gainsBy_27 rfl rfl ?_
      refine zr_getR zz_cX4 zz_C0 0 (by decide) rfl zf_X4_12 dX4_gainsBy_28 ?_
      refine zr_callVv zz_cX1 zz_C25 (ctX1_read 1 (Or.inl rfl) h0 _ hw) zy_X1_read zm_X4_112 (by decide) rfl rfl (Nat.le_of_ble_eq_true rfl) dX4_gainsBy_31 (fun h5 hw => ?_)
      refine zr_aload_n dX4_gainsBy_34 rfl rfl ?_
      refine zr_iload_n dX4_gainsBy_35 rfl rfl ?_
      refine zr_iload_n dX4_gainsBy_36 rfl rfl ?_
      refine zr_callVi zz_cX4 zz_C0 (ctX4_gainOf p1 p2 h5 _ hw) zy_X4_gainOf zm_X4_178 (by decide) rfl rfl (Nat.le_of_ble_eq_true rfl) dX4_gainsBy_37 (fun r7 h6 hw => ?_)
      refine zr_istore_n [.ref 0, .int p1, .int p2, .int r7] dX4_gainsBy_40 rfl (by decide) rfl rfl ?_
      refine zr_iload_n dX4_gainsBy_41 rfl rfl ?_
      refine zr_if_ge 54 dX4_gainsBy_42 (by decide) (fun q => ?_) (fun q => ?_)
      · have hw := hw.1 q
        refine zr_iload_n dX4_gainsBy_54 rfl rfl ?_
        exact zr_ret rfl rfl dX4_gainsBy_55 hw
      · have hw := hw.2 q
        refine zr_aload_n dX4_gainsBy_45 rfl rfl ?_
        refine zr_ldc zk_X4_111 dX4_gainsBy_46 ?_
        refine zr_callVi zz_cX4 zz_C0 (ctX4_tell ((-1000004) : Int32) h6 _ hw) zy_X4_tell zm_X4_66 (by decide) rfl rfl (Nat.le_of_ble_eq_true rfl) dX4_gainsBy_48 (fun r9 h8 hw => ?_)
        refine zr_goto 55 dX4_gainsBy_51 (by decide) ?_
        exact zr_ret rfl rfl dX4_gainsBy_55 hw
    · have hw := hw.2 q
      refine zr_aload_n dX4_gainsBy_16 rfl rfl ?_
      refine zr_ldc zk_X4_65 dX4_gainsBy_17 ?_
      refine zr_callVi zz_cX4 zz_C0 (ctX4_tell ((-1000001) : Int32) h0 _ hw) zy_X4_tell zm_X4_66 (by decide) rfl rfl (Nat.le_of_ble_eq_true rfl) dX4_gainsBy_19 (fun r11 h10 hw => ?_)
      exact zr_ret rfl rfl dX4_gainsBy_22 hw
def wX4_moves_b91 (post : Int32 → zz_H → Prop) (h7 : zz_H) (K10 : Int32 × Int32 → Prop) (x8 : Int32) (x9 : Int32) : Prop :=
  (((h7 1 7) ≤ x9) → (post x8 h7)) ∧ ((¬ (h7 1 7) ≤ x9) → (vp_in x9 12 ∧ (vp_in x9 12 ∧ ((((h7 33 x9.toNatClampNeg) = (h7 32 x9.toNatClampNeg)) → (K10 (x8, (x9 + 1)))) ∧ ((¬ (h7 33 x9.toNatClampNeg) = (h7 32 x9.toNatClampNeg)) → (K10 ((x8 ||| ((1 : Int32) <<< (x9 &&& 31))), (x9 + 1))))))))
def wX4_moves (p1 : Int32) (p2 : Int32) (h0 : zz_H) (post : Int32 → zz_H → Prop) : Prop :=
  wX4_isCurve p1 h0 (fun r1 => ((r1 = 0) → (wX4_tell ((-1000001) : Int32) h0 (fun r3 h2 => post r3 h2))) ∧ ((¬ r1 = 0) → (wX4_within p2 (0 : Int32) (40 : Int32) h0 (fun r4 => ((¬ r4 = 0) → ((((h0 1 7) < (12 : Int32)) → (wX4_workOut p1 h0 (fun _ h5 => wX1_join p2 h5 (fun _ h6 => vp_in p1 6 ∧ (vp_in p1 6 ∧ (wX1_markAll (h6 6 p1.toNatClampNeg) (h6 7 p1.toNatClampNeg) 33 h6 (fun _ h7 => ∃ t9, zz_lp (fun K (s : Int32 × Int32) => wX4_moves_b91 post h7 K s.1 s.2) t9 ((0 : Int32), (0 : Int32))))))))) ∧ ((¬ (h0 1 7) < (12 : Int32)) → (wX4_tell ((-1000005) : Int32) h0 (fun r12 h11 => post r12 h11))))) ∧ ((r4 = 0) → (wX4_tell ((-1000001) : Int32) h0 (fun r14 h13 => post r14 h13)))))))
set_option maxRecDepth 20000 in
set_option maxHeartbeats 4000000 in
theorem ctX4_moves (p1 : Int32) (p2 : Int32) (h0 : zz_H) (post : Int32 → zz_H → Prop) (hw : wX4_moves p1 p2 h0 post) : zz_Ct zz_C 6 yX4_moves cX4_moves 5 (some .int) [.ref 0, .int p1, .int p2] h0 post := by
  refine zz_ct (L := [.ref 0, .int p1, .int p2, .null, .null]) (by decide +kernel) (Nat.le_of_ble_eq_true rfl) (fun ad q hq => hq) ?_
  show zz_Go zz_C 6 cX4_moves RX4 5 (some .int) post 0 [] [.ref 0, .int p1, .int p2, .null, .null] h0
  unfold wX4_moves at hw
  refine zr_aload_n dX4_moves_0 rfl rfl ?_
  refine zr_iload_n dX4_moves_1 rfl rfl ?_
  refine zr_pVi zz_cX4 zz_C0 (ctX4_isCurve p1 h0 _ hw) zy_X4_isCurve zm_X4_150 (by decide) rfl rfl (Nat.le_of_ble_eq_true rfl) dX4_moves_2 (fun r1 hw => ?_)
  refine zr_if_eq 18 dX4_moves_5 (by decide) (fun q => ?_) (fun q => ?_)
  · have hw := hw.1 q
    refine zr_aload_n dX4_moves_18 rfl rfl ?_
    refine zr_ldc zk_X4_65 dX4_moves_19 ?_
    refine zr_callVi zz_cX4 zz_C0 (ctX4_tell ((-1000001) : Int32) h0 _ hw) zy_X4_tell zm_X4_66 (by decide) rfl rfl (Nat.le_of_ble_eq_true rfl) dX4_moves_21 (fun r3 h2 hw => ?_)
    exact zr_ret rfl rfl dX4_moves_24 hw
  · have hw := hw.2 q
    refine zr_iload_n dX4_moves_8 rfl rfl ?_
    refine zr_iconst dX4_moves_9 zqk_0 ?_
    refine zr_bipush dX4_moves_10 zbk_40 ?_
    refine zr_pSi (ctX4_within p2 (0 : Int32) (40 : Int32) h0 _ hw) zy_X4_within zm_X4_61 (by decide) rfl rfl (Nat.le_of_ble_eq_true rfl) dX4_moves_12 (fun r4 hw => ?_)
    refine zr_if_ne 25 dX4_moves_15 (by decide) (fun q => ?_) (fun q => ?_)
    · have hw := hw.1 q
      refine zr_aload_n dX4_moves_25 rfl rfl ?_
      refine zr_getR zz_cX4 zz_C0 0 (by decide) rfl zf_X4_12 dX4_moves_26 ?_
      refine zr_getI zz_cX0 zz_C1 7 (by decide) rfl zf_X4_80 dX4_moves_29 ?_
      refine zr_bipush dX4_moves_32 zbk_12 ?_
      refine zr_icmp_lt 44 dX4_moves_34 (by decide) (fun q => ?_) (fun q => ?_)
      · have hw := hw.1 q
        refine zr_aload_n dX4_moves_44 rfl rfl ?_
        refine zr_iload_n dX4_moves_45 rfl rfl ?_
        refine zr_callVv zz_cX4 zz_C0 (ctX4_workOut p1 h0 _ hw) zy_X4_workOut zm_X4_162 (by decide) rfl rfl (Nat.le_of_ble_eq_true rfl) dX4_moves_46 (fun h5 hw => ?_)
        refine zr_aload_n dX4_moves_49 rfl rfl ?_
        refine zr_getR zz_cX4 zz_C0 3 (by decide) rfl zf_X4_25 dX4_moves_50 ?_
        refine zr_iload_n dX4_moves_53 rfl rfl ?_
        refine zr_callVv zz_cX1 zz_C25 (ctX1_join p2 h5 _ hw) zy_X1_join zm_X4_182 (by decide) rfl rfl (Nat.le_of_ble_eq_true rfl) dX4_moves_54 (fun h6 hw => ?_)
        refine zr_aload_n dX4_moves_57 rfl rfl ?_
        refine zr_getR zz_cX4 zz_C0 3 (by decide) rfl zf_X4_25 dX4_moves_58 ?_
        refine zr_aload_n dX4_moves_61 rfl rfl ?_
        refine zr_getR zz_cX4 zz_C0 0 (by decide) rfl zf_X4_12 dX4_moves_62 ?_
        refine zr_getR zz_cX0 zz_C1 4 (by decide) rfl zf_X4_153 dX4_moves_65 ?_
        refine zr_iload_n dX4_moves_68 rfl rfl ?_
        obtain ⟨hi, hw⟩ := hw
        refine zr_iald zz_C6 hi rfl dX4_moves_69 ?_
        refine zr_aload_n dX4_moves_70 rfl rfl ?_
        refine zr_getR zz_cX4 zz_C0 0 (by decide) rfl zf_X4_12 dX4_moves_71 ?_
        refine zr_getR zz_cX0 zz_C1 5 (by decide) rfl zf_X4_156 dX4_moves_74 ?_
        refine zr_iload_n dX4_moves_77 rfl rfl ?_
        obtain ⟨hi, hw⟩ := hw
        refine zr_iald zz_C7 hi rfl dX4_moves_78 ?_
        refine zr_aload_n dX4_moves_79 rfl rfl ?_
        refine zr_getR zz_cX4 zz_C0 7 (by decide) rfl zf_X4_46 dX4_moves_80 ?_
        refine zr_callVv zz_cX1 zz_C25 (ctX1_markAll (h6 6 p1.toNatClampNeg) (h6 7 p1.toNatClampNeg) 33 zz_C33 h6 _ hw) zy_X1_markAll zm_X4_185 (by decide) rfl rfl (Nat.le_of_ble_eq_true rfl) dX4_moves_83 (fun h7 hw => ?_)
        refine zr_iconst dX4_moves_86 zqk_0 ?_
        refine zr_istore_n [.ref 0, .int p1, .int p2, .int (0 : Int32), .null] dX4_moves_87 rfl (by decide) rfl rfl ?_
        refine zr_iconst dX4_moves_88 zqk_0 ?_
        refine zr_istore [.ref 0, .int p1, .int p2, .int (0 : Int32), .int (0 : Int32)] dX4_moves_89 (by decide) rfl rfl ?_
        refine zr_sub [.ref 0, .null, .null, .int (0 : Int32), .int (0 : Int32)] ⟨Or.inr rfl, ⟨Or.inl rfl, ⟨Or.inl rfl, ⟨Or.inr rfl, ⟨Or.inr rfl, trivial⟩⟩⟩⟩⟩ ?_
        obtain ⟨t9, hw⟩ := hw
        have step91 : ∀ (K10 : Int32 × Int32 → Prop), (∀ (x8 : Int32) (x9 : Int32), K10 (x8, x9) → zz_Go zz_C 6 cX4_moves RX4 5 (some .int) post 91 [] [.ref 0, .null, .null, .int x8, .int x9] h7) → ∀ (x8 : Int32) (x9 : Int32), wX4_moves_b91 post h7 K10 x8 x9 → zz_Go zz_C 6 cX4_moves RX4 5 (some .int) post 91 [] [.ref 0, .null, .null, .int x8, .int x9] h7 := by
          intro K10 ih91 x8 x9 hw
          unfold wX4_moves_b91 at hw
          refine zr_iload dX4_moves_91 rfl ?_
          refine zr_aload_n dX4_moves_93 rfl rfl ?_
          refine zr_getR zz_cX4 zz_C0 0 (by decide) rfl zf_X4_12 dX4_moves_94 ?_
          refine zr_getI zz_cX0 zz_C1 7 (by decide) rfl zf_X4_80 dX4_moves_97 ?_
          refine zr_icmp_ge 133 dX4_moves_100 (by decide) (fun q => ?_) (fun q => ?_)
          · have hw := hw.1 q
            refine zr_iload_n dX4_moves_133 rfl rfl ?_
            exact zr_ret rfl rfl dX4_moves_134 hw
          · have hw := hw.2 q
            refine zr_aload_n dX4_moves_103 rfl rfl ?_
            refine zr_getR zz_cX4 zz_C0 7 (by decide) rfl zf_X4_46 dX4_moves_104 ?_
            refine zr_iload dX4_moves_107 rfl ?_
            obtain ⟨hi, hw⟩ := hw
            refine zr_iald zz_C33 hi rfl dX4_moves_109 ?_
            refine zr_aload_n dX4_moves_110 rfl rfl ?_
            refine zr_getR zz_cX4 zz_C0 6 (by decide) rfl zf_X4_42 dX4_moves_111 ?_
            refine zr_iload dX4_moves_114 rfl ?_
            obtain ⟨hi, hw⟩ := hw
            refine zr_iald zz_C32 hi rfl dX4_moves_116 ?_
            refine zr_icmp_eq 127 dX4_moves_117 (by decide) (fun q => ?_) (fun q => ?_)
            · have hw := hw.1 q
              refine zr_iinc (x9 + 1) [.ref 0, .null, .null, .int x8, .int (x9 + 1)] dX4_moves_127 rfl (zok_1 _) (by decide) rfl rfl ?_
              refine zr_goto 91 dX4_moves_130 (by decide) ?_
              exact ih91 _ _ hw
            · have hw := hw.2 q
              refine zr_iload_n dX4_moves_120 rfl rfl ?_
              refine zr_iconst dX4_moves_121 zqk_1 ?_
              refine zr_iload dX4_moves_122 rfl ?_
              refine zr_ishl dX4_moves_124 ?_
              refine zr_ior dX4_moves_125 ?_
              refine zr_istore_n [.ref 0, .null, .null, .int (x8 ||| ((1 : Int32) <<< (x9 &&& 31))), .int x9] dX4_moves_126 rfl (by decide) rfl rfl ?_
              refine zr_iinc (x9 + 1) [.ref 0, .null, .null, .int (x8 ||| ((1 : Int32) <<< (x9 &&& 31))), .int (x9 + 1)] dX4_moves_127 rfl (zok_1 _) (by decide) rfl rfl ?_
              refine zr_goto 91 dX4_moves_130 (by decide) ?_
              exact ih91 _ _ hw
        have key91 : ∀ (t9 : Nat) (x8 : Int32) (x9 : Int32), zz_lp (fun K (s : Int32 × Int32) => wX4_moves_b91 post h7 K s.1 s.2) t9 (x8, x9) → zz_Go zz_C 6 cX4_moves RX4 5 (some .int) post 91 [] [.ref 0, .null, .null, .int x8, .int x9] h7 := by
          intro t9
          induction t9 with
          | zero => intro x8 x9 hw; exact hw.elim
          | succ t9 ih => intro x8 x9 hw; exact step91 _ ih _ _ hw
        exact key91 t9 _ _ hw
      · have hw := hw.2 q
        refine zr_aload_n dX4_moves_37 rfl rfl ?_
        refine zr_ldc zk_X4_181 dX4_moves_38 ?_
        refine zr_callVi zz_cX4 zz_C0 (ctX4_tell ((-1000005) : Int32) h0 _ hw) zy_X4_tell zm_X4_66 (by decide) rfl rfl (Nat.le_of_ble_eq_true rfl) dX4_moves_40 (fun r12 h11 hw => ?_)
        exact zr_ret rfl rfl dX4_moves_43 hw
    · have hw := hw.2 q
      refine zr_aload_n dX4_moves_18 rfl rfl ?_
      refine zr_ldc zk_X4_65 dX4_moves_19 ?_
      refine zr_callVi zz_cX4 zz_C0 (ctX4_tell ((-1000001) : Int32) h0 _ hw) zy_X4_tell zm_X4_66 (by decide) rfl rfl (Nat.le_of_ble_eq_true rfl) dX4_moves_21 (fun r14 h13 hw => ?_)
      exact zr_ret rfl rfl dX4_moves_24 hw
def wX4_without_j130 (post : Int32 → zz_H → Prop) (h7 : zz_H) (x8 : Int32) : Prop :=
  ((0 ≤ x8) → (post x8 h7)) ∧ ((¬ 0 ≤ x8) → (wX4_tell ((-1000004) : Int32) h7 (fun r13 h12 => post r13 h12)))
def wX4_without_b72 (post : Int32 → zz_H → Prop) (h7 : zz_H) (K11 : Int32 × Int32 × Int32 → Prop) (x8 : Int32) (x9 : Int32) (x10 : Int32) : Prop :=
  (((h7 1 7) ≤ x10) → (wX4_without_j130 post h7 x8)) ∧ ((¬ (h7 1 7) ≤ x10) → (vp_in x10 12 ∧ (vp_in x10 12 ∧ (((((h7 33 x10.toNatClampNeg) - (h7 32 x10.toNatClampNeg)) ≤ x9) → (K11 (x8, x9, (x10 + 1)))) ∧ ((¬ ((h7 33 x10.toNatClampNeg) - (h7 32 x10.toNatClampNeg)) ≤ x9) → (vp_in x10 12 ∧ (vp_in x10 12 ∧ (K11 (x10, ((h7 33 x10.toNatClampNeg) - (h7 32 x10.toNatClampNeg)), (x10 + 1))))))))))
def wX4_without (p1 : Int32) (p2 : Int32) (h0 : zz_H) (post : Int32 → zz_H → Prop) : Prop :=
  wX4_isCurve p1 h0 (fun r1 => ((r1 = 0) → (wX4_tell ((-1000001) : Int32) h0 (fun r3 h2 => post r3 h2))) ∧ ((¬ r1 = 0) → (wX4_isQuestion p2 h0 (fun r4 => ((¬ r4 = 0) → (wX4_workOut p1 h0 (fun _ h5 => wX1_strike p2 h5 (fun _ h6 => vp_in p1 6 ∧ (vp_in p1 6 ∧ (wX1_markAll (h6 6 p1.toNatClampNeg) (h6 7 p1.toNatClampNeg) 33 h6 (fun _ h7 => ∃ t9, zz_lp (fun K (s : Int32 × Int32 × Int32) => wX4_without_b72 post h7 K s.1 s.2.1 s.2.2) t9 (((-1) : Int32), (0 : Int32), (0 : Int32))))))))) ∧ ((r4 = 0) → (wX4_tell ((-1000001) : Int32) h0 (fun r15 h14 => post r15 h14)))))))
set_option maxRecDepth 20000 in
set_option maxHeartbeats 4000000 in
theorem ctX4_without (p1 : Int32) (p2 : Int32) (h0 : zz_H) (post : Int32 → zz_H → Prop) (hw : wX4_without p1 p2 h0 post) : zz_Ct zz_C 6 yX4_without cX4_without 6 (some .int) [.ref 0, .int p1, .int p2] h0 post := by
  refine zz_ct (L := [.ref 0, .int p1, .int p2, .null, .null, .null]) (by decide +kernel) (Nat.le_of_ble_eq_true rfl) (fun ad q hq => hq) ?_
  show zz_Go zz_C 6 cX4_without RX4 6 (some .int) post 0 [] [.ref 0, .int p1, .int p2, .null, .null, .null] h0
  unfold wX4_without at hw
  refine zr_aload_n dX4_without_0 rfl rfl ?_
  refine zr_iload_n dX4_without_1 rfl rfl ?_
  refine zr_pVi zz_cX4 zz_C0 (ctX4_isCurve p1 h0 _ hw) zy_X4_isCurve zm_X4_150 (by decide) rfl rfl (Nat.le_of_ble_eq_true rfl) dX4_without_2 (fun r1 hw => ?_)
  refine zr_if_eq 15 dX4_without_5 (by decide) (fun q => ?_) (fun q => ?_)
  · have hw := hw.1 q
    refine zr_aload_n dX4_without_15 rfl rfl ?_
    refine zr_ldc zk_X4_65 dX4_without_16 ?_
    refine zr_callVi zz_cX4 zz_C0 (ctX4_tell ((-1000001) : Int32) h0 _ hw) zy_X4_tell zm_X4_66 (by decide) rfl rfl (Nat.le_of_ble_eq_true rfl) dX4_without_18 (fun r3 h2 hw => ?_)
    exact zr_ret rfl rfl dX4_without_21 hw
  · have hw := hw.2 q
    refine zr_iload_n dX4_without_8 rfl rfl ?_
    refine zr_pSi (ctX4_isQuestion p2 h0 _ hw) zy_X4_isQuestion zm_X4_57 (by decide) rfl rfl (Nat.le_of_ble_eq_true rfl) dX4_without_9 (fun r4 hw => ?_)
    refine zr_if_ne 22 dX4_without_12 (by decide) (fun q => ?_) (fun q => ?_)
    · have hw := hw.1 q
      refine zr_aload_n dX4_without_22 rfl rfl ?_
      refine zr_iload_n dX4_without_23 rfl rfl ?_
      refine zr_callVv zz_cX4 zz_C0 (ctX4_workOut p1 h0 _ hw) zy_X4_workOut zm_X4_162 (by decide) rfl rfl (Nat.le_of_ble_eq_true rfl) dX4_without_24 (fun h5 hw => ?_)
      refine zr_aload_n dX4_without_27 rfl rfl ?_
      refine zr_getR zz_cX4 zz_C0 3 (by decide) rfl zf_X4_25 dX4_without_28 ?_
      refine zr_iload_n dX4_without_31 rfl rfl ?_
      refine zr_callVv zz_cX1 zz_C25 (ctX1_strike p2 h5 _ hw) zy_X1_strike zm_X4_189 (by decide) rfl rfl (Nat.le_of_ble_eq_true rfl) dX4_without_32 (fun h6 hw => ?_)
      refine zr_aload_n dX4_without_35 rfl rfl ?_
      refine zr_getR zz_cX4 zz_C0 3 (by decide) rfl zf_X4_25 dX4_without_36 ?_
      refine zr_aload_n dX4_without_39 rfl rfl ?_
      refine zr_getR zz_cX4 zz_C0 0 (by decide) rfl zf_X4_12 dX4_without_40 ?_
      refine zr_getR zz_cX0 zz_C1 4 (by decide) rfl zf_X4_153 dX4_without_43 ?_
      refine zr_iload_n dX4_without_46 rfl rfl ?_
      obtain ⟨hi, hw⟩ := hw
      refine zr_iald zz_C6 hi rfl dX4_without_47 ?_
      refine zr_aload_n dX4_without_48 rfl rfl ?_
      refine zr_getR zz_cX4 zz_C0 0 (by decide) rfl zf_X4_12 dX4_without_49 ?_
      refine zr_getR zz_cX0 zz_C1 5 (by decide) rfl zf_X4_156 dX4_without_52 ?_
      refine zr_iload_n dX4_without_55 rfl rfl ?_
      obtain ⟨hi, hw⟩ := hw
      refine zr_iald zz_C7 hi rfl dX4_without_56 ?_
      refine zr_aload_n dX4_without_57 rfl rfl ?_
      refine zr_getR zz_cX4 zz_C0 7 (by decide) rfl zf_X4_46 dX4_without_58 ?_
      refine zr_callVv zz_cX1 zz_C25 (ctX1_markAll (h6 6 p1.toNatClampNeg) (h6 7 p1.toNatClampNeg) 33 zz_C33 h6 _ hw) zy_X1_markAll zm_X4_185 (by decide) rfl rfl (Nat.le_of_ble_eq_true rfl) dX4_without_61 (fun h7 hw => ?_)
      refine zr_iconst dX4_without_64 zqk_m1 ?_
      refine zr_istore_n [.ref 0, .int p1, .int p2, .int ((-1) : Int32), .null, .null] dX4_without_65 rfl (by decide) rfl rfl ?_
      refine zr_iconst dX4_without_66 zqk_0 ?_
      refine zr_istore [.ref 0, .int p1, .int p2, .int ((-1) : Int32), .int (0 : Int32), .null] dX4_without_67 (by decide) rfl rfl ?_
      refine zr_iconst dX4_without_69 zqk_0 ?_
      refine zr_istore [.ref 0, .int p1, .int p2, .int ((-1) : Int32), .int (0 : Int32), .int (0 : Int32)] dX4_without_70 (by decide) rfl rfl ?_
      refine zr_sub [.ref 0, .null, .null, .int ((-1) : Int32), .int (0 : Int32), .int (0 : Int32)] ⟨Or.inr rfl, ⟨Or.inl rfl, ⟨Or.inl rfl, ⟨Or.inr rfl, ⟨Or.inr rfl, ⟨Or.inr rfl, trivial⟩⟩⟩⟩⟩⟩ ?_
      obtain ⟨t9, hw⟩ := hw
      have step72 : ∀ (K11 : Int32 × Int32 × Int32 → Prop), (∀ (x8 : Int32) (x9 : Int32) (x10 : Int32), K11 (x8, x9, x10) → zz_Go zz_C 6 cX4_without RX4 6 (some .int) post 72 [] [.ref 0, .null, .null, .int x8, .int x9, .int x10] h7) → ∀ (x8 : Int32) (x9 : Int32) (x10 : Int32), wX4_without_b72 post h7 K11 x8 x9 x10 → zz_Go zz_C 6 cX4_without RX4 6 (some .int) post 72 [] [.ref 0, .null, .null, .int x8, .int x9, .int x10] h7 := by
        intro K11 ih72 x8 x9 x10 hw
        unfold wX4_without_b72 at hw
        refine zr_iload dX4_without_72 rfl ?_
        refine zr_aload_n dX4_without_74 rfl rfl ?_
        refine zr_getR zz_cX4 zz_C0 0 (by decide) rfl zf_X4_12 dX4_without_75 ?_
        refine zr_getI zz_cX0 zz_C1 7 (by decide) rfl zf_X4_80 dX4_without_78 ?_
        have j130 : wX4_without_j130 post h7 x8 → zz_Go zz_C 6 cX4_without RX4 6 (some .int) post 130 [] [.ref 0, .null, .null, .int x8, .null, .null] h7 := by
          intro hw
          unfold wX4_without_j130 at hw
          refine zr_iload_n dX4_without_130 rfl rfl ?_
          refine zr_if_ge 143 dX4_without_131 (by decide) (fun q => ?_) (fun q => ?_)
          · have hw := hw.1 q
            refine zr_iload_n dX4_without_143 rfl rfl ?_
            exact zr_ret rfl rfl dX4_without_144 hw
          · have hw := hw.2 q
            refine zr_aload_n dX4_without_134 rfl rfl ?_
            refine zr_ldc zk_X4_111 dX4_without_135 ?_
            refine zr_callVi zz_cX4 zz_C0 (ctX4_tell ((-1000004) : Int32) h7 _ hw) zy_X4_tell zm_X4_66 (by decide) rfl rfl (Nat.le_of_ble_eq_true rfl) dX4_without_137 (fun r13 h12 hw => ?_)
            refine zr_goto 144 dX4_without_140 (by decide) ?_
            exact zr_ret rfl rfl dX4_without_144 hw
        refine zr_icmp_ge 130 dX4_without_81 (by decide) (fun q => ?_) (fun q => ?_)
        · have hw := hw.1 q
          refine zr_sub [.ref 0, .null, .null, .int x8, .null, .null] ⟨Or.inr rfl, ⟨Or.inl rfl, ⟨Or.inl rfl, ⟨Or.inr rfl, ⟨Or.inl rfl, ⟨Or.inl rfl, trivial⟩⟩⟩⟩⟩⟩ ?_
          exact j130 hw
        · have hw := hw.2 q
          refine zr_aload_n dX4_without_84 rfl rfl ?_
          refine zr_getR zz_cX4 zz_C0 7 (by decide) rfl zf_X4_46 dX4_without_85 ?_
          refine zr_iload dX4_without_88 rfl ?_
          obtain ⟨hi, hw⟩ := hw
          refine zr_iald zz_C33 hi rfl dX4_without_90 ?_
          refine zr_aload_n dX4_without_91 rfl rfl ?_
          refine zr_getR zz_cX4 zz_C0 6 (by decide) rfl zf_X4_42 dX4_without_92 ?_
          refine zr_iload dX4_without_95 rfl ?_
          obtain ⟨hi, hw⟩ := hw
          refine zr_iald zz_C32 hi rfl dX4_without_97 ?_
          refine zr_isub dX4_without_98 ?_
          refine zr_iload dX4_without_99 rfl ?_
          refine zr_icmp_le 124 dX4_without_101 (by decide) (fun q => ?_) (fun q => ?_)
          · have hw := hw.1 q
            refine zr_iinc (x10 + 1) [.ref 0, .null, .null, .int x8, .int x9, .int (x10 + 1)] dX4_without_124 rfl (zok_1 _) (by decide) rfl rfl ?_
            refine zr_goto 72 dX4_without_127 (by decide) ?_
            exact ih72 _ _ _ hw
          · have hw := hw.2 q
            refine zr_aload_n dX4_without_104 rfl rfl ?_
            refine zr_getR zz_cX4 zz_C0 7 (by decide) rfl zf_X4_46 dX4_without_105 ?_
            refine zr_iload dX4_without_108 rfl ?_
            obtain ⟨hi, hw⟩ := hw
            refine zr_iald zz_C33 hi rfl dX4_without_110 ?_
            refine zr_aload_n dX4_without_111 rfl rfl ?_
            refine zr_getR zz_cX4 zz_C0 6 (by decide) rfl zf_X4_42 dX4_without_112 ?_
            refine zr_iload dX4_without_115 rfl ?_
            obtain ⟨hi, hw⟩ := hw
            refine zr_iald zz_C32 hi rfl dX4_without_117 ?_
            refine zr_isub dX4_without_118 ?_
            refine zr_istore [.ref 0, .null, .null, .int x8, .int ((h7 33 x10.toNatClampNeg) - (h7 32 x10.toNatClampNeg)), .int x10] dX4_without_119 (by decide) rfl rfl ?_
            refine zr_iload dX4_without_121 rfl ?_
            refine zr_istore_n [.ref 0, .null, .null, .int x10, .int ((h7 33 x10.toNatClampNeg) - (h7 32 x10.toNatClampNeg)), .int x10] dX4_without_123 rfl (by decide) rfl rfl ?_
            refine zr_iinc (x10 + 1) [.ref 0, .null, .null, .int x10, .int ((h7 33 x10.toNatClampNeg) - (h7 32 x10.toNatClampNeg)), .int (x10 + 1)] dX4_without_124 rfl (zok_1 _) (by decide) rfl rfl ?_
            refine zr_goto 72 dX4_without_127 (by decide) ?_
            exact ih72 _ _ _ hw
      have key72 : ∀ (t9 : Nat) (x8 : Int32) (x9 : Int32) (x10 : Int32), zz_lp (fun K (s : Int32 × Int32 × Int32) => wX4_without_b72 post h7 K s.1 s.2.1 s.2.2) t9 (x8, x9, x10) → zz_Go zz_C 6 cX4_without RX4 6 (some .int) post 72 [] [.ref 0, .null, .null, .int x8, .int x9, .int x10] h7 := by
        intro t9
        induction t9 with
        | zero => intro x8 x9 x10 hw; exact hw.elim
        | succ t9 ih => intro x8 x9 x10 hw; exact step72 _ ih _ _ _ hw
      exact key72 t9 _ _ _ hw
    · have hw := hw.2 q
      refine zr_aload_n dX4_without_15 rfl rfl ?_
      refine zr_ldc zk_X4_65 dX4_without_16 ?_
      refine zr_callVi zz_cX4 zz_C0 (ctX4_tell ((-1000001) : Int32) h0 _ hw) zy_X4_tell zm_X4_66 (by decide) rfl rfl (Nat.le_of_ble_eq_true rfl) dX4_without_18 (fun r15 h14 hw => ?_)
      exact zr_ret rfl rfl dX4_without_21 hw
def wX4_isLine (p1 : Int32) (h0 : zz_H) (post : Int32 → Prop) : Prop :=
  wX4_within p1 (0 : Int32) (400 : Int32) h0 (fun r1 => zz_z r1 ∧ post r1)
set_option maxRecDepth 20000 in
set_option maxHeartbeats 4000000 in
theorem ctX4_isLine (p1 : Int32) (h0 : zz_H) (post : Int32 → Prop) (hw : wX4_isLine p1 h0 post) : zz_Ct zz_C 1 yX4_isLine cX4_isLine 1 (some .boolean) [.int p1] h0 (zz_pu h0 post) := by
  refine zz_ct (L := [.int p1]) (by decide +kernel) (Nat.le_of_ble_eq_true rfl) (fun ad q hq => hq) ?_
  show zz_Go zz_C 1 cX4_isLine RX4 1 (some .boolean) (zz_pu h0 post) 0 [] [.int p1] h0
  unfold wX4_isLine at hw
  refine zr_iload_n dX4_isLine_0 rfl rfl ?_
  refine zr_iconst dX4_isLine_1 zqk_0 ?_
  refine zr_sipush dX4_isLine_2 zhk_400 ?_
  refine zr_pSi (ctX4_within p1 (0 : Int32) (400 : Int32) h0 _ hw) zy_X4_within zm_X4_61 (by decide) rfl rfl (Nat.le_of_ble_eq_true rfl) dX4_isLine_5 (fun r1 hw => ?_)
  exact zr_ret rfl hw.1 dX4_isLine_8 ⟨rfl, hw.2⟩
def wX4_pass_b32 (p2 : Int32) (post : Int32 → zz_H → Prop) (h5 : zz_H) (K8 : Int32 × Int32 → Prop) (x6 : Int32) (x7 : Int32) : Prop :=
  (((h5 1 7) ≤ x7) → (post x6 h5)) ∧ ((¬ (h5 1 7) ≤ x7) → (vp_in x7 12 ∧ ((((h5 32 x7.toNatClampNeg) < p2) → (K8 (x6, (x7 + 1)))) ∧ ((¬ (h5 32 x7.toNatClampNeg) < p2) → (K8 ((x6 ||| ((1 : Int32) <<< (x7 &&& 31))), (x7 + 1)))))))
def wX4_pass (p1 : Int32) (p2 : Int32) (h0 : zz_H) (post : Int32 → zz_H → Prop) : Prop :=
  wX4_isCurve p1 h0 (fun r1 => ((r1 = 0) → (wX4_tell ((-1000001) : Int32) h0 (fun r3 h2 => post r3 h2))) ∧ ((¬ r1 = 0) → (wX4_isLine p2 h0 (fun r4 => ((¬ r4 = 0) → (wX4_workOut p1 h0 (fun _ h5 => ∃ t9, zz_lp (fun K (s : Int32 × Int32) => wX4_pass_b32 p2 post h5 K s.1 s.2) t9 ((0 : Int32), (0 : Int32))))) ∧ ((r4 = 0) → (wX4_tell ((-1000001) : Int32) h0 (fun r10 h9 => post r10 h9)))))))
set_option maxRecDepth 20000 in
set_option maxHeartbeats 4000000 in
theorem ctX4_pass (p1 : Int32) (p2 : Int32) (h0 : zz_H) (post : Int32 → zz_H → Prop) (hw : wX4_pass p1 p2 h0 post) : zz_Ct zz_C 6 yX4_pass cX4_pass 5 (some .int) [.ref 0, .int p1, .int p2] h0 post := by
  refine zz_ct (L := [.ref 0, .int p1, .int p2, .null, .null]) (by decide +kernel) (Nat.le_of_ble_eq_true rfl) (fun ad q hq => hq) ?_
  show zz_Go zz_C 6 cX4_pass RX4 5 (some .int) post 0 [] [.ref 0, .int p1, .int p2, .null, .null] h0
  unfold wX4_pass at hw
  refine zr_aload_n dX4_pass_0 rfl rfl ?_
  refine zr_iload_n dX4_pass_1 rfl rfl ?_
  refine zr_pVi zz_cX4 zz_C0 (ctX4_isCurve p1 h0 _ hw) zy_X4_isCurve zm_X4_150 (by decide) rfl rfl (Nat.le_of_ble_eq_true rfl) dX4_pass_2 (fun r1 hw => ?_)
  refine zr_if_eq 15 dX4_pass_5 (by decide) (fun q => ?_) (fun q => ?_)
  · have hw := hw.1 q
    refine zr_aload_n dX4_pass_15 rfl rfl ?_
    refine zr_ldc zk_X4_65 dX4_pass_16 ?_
    refine zr_callVi zz_cX4 zz_C0 (ctX4_tell ((-1000001) : Int32) h0 _ hw) zy_X4_tell zm_X4_66 (by decide) rfl rfl (Nat.le_of_ble_eq_true rfl) dX4_pass_18 (fun r3 h2 hw => ?_)
    exact zr_ret rfl rfl dX4_pass_21 hw
  · have hw := hw.2 q
    refine zr_iload_n dX4_pass_8 rfl rfl ?_
    refine zr_pSi (ctX4_isLine p2 h0 _ hw) zy_X4_isLine zm_X4_192 (by decide) rfl rfl (Nat.le_of_ble_eq_true rfl) dX4_pass_9 (fun r4 hw => ?_)
    refine zr_if_ne 22 dX4_pass_12 (by decide) (fun q => ?_) (fun q => ?_)
    · have hw := hw.1 q
      refine zr_aload_n dX4_pass_22 rfl rfl ?_
      refine zr_iload_n dX4_pass_23 rfl rfl ?_
      refine zr_callVv zz_cX4 zz_C0 (ctX4_workOut p1 h0 _ hw) zy_X4_workOut zm_X4_162 (by decide) rfl rfl (Nat.le_of_ble_eq_true rfl) dX4_pass_24 (fun h5 hw => ?_)
      refine zr_iconst dX4_pass_27 zqk_0 ?_
      refine zr_istore_n [.ref 0, .int p1, .int p2, .int (0 : Int32), .null] dX4_pass_28 rfl (by decide) rfl rfl ?_
      refine zr_iconst dX4_pass_29 zqk_0 ?_
      refine zr_istore [.ref 0, .int p1, .int p2, .int (0 : Int32), .int (0 : Int32)] dX4_pass_30 (by decide) rfl rfl ?_
      refine zr_sub [.ref 0, .null, .int p2, .int (0 : Int32), .int (0 : Int32)] ⟨Or.inr rfl, ⟨Or.inl rfl, ⟨Or.inr rfl, ⟨Or.inr rfl, ⟨Or.inr rfl, trivial⟩⟩⟩⟩⟩ ?_
      obtain ⟨t9, hw⟩ := hw
      have step32 : ∀ (K8 : Int32 × Int32 → Prop), (∀ (x6 : Int32) (x7 : Int32), K8 (x6, x7) → zz_Go zz_C 6 cX4_pass RX4 5 (some .int) post 32 [] [.ref 0, .null, .int p2, .int x6, .int x7] h5) → ∀ (x6 : Int32) (x7 : Int32), wX4_pass_b32 p2 post h5 K8 x6 x7 → zz_Go zz_C 6 cX4_pass RX4 5 (some .int) post 32 [] [.ref 0, .null, .int p2, .int x6, .int x7] h5 := by
        intro K8 ih32 x6 x7 hw
        unfold wX4_pass_b32 at hw
        refine zr_iload dX4_pass_32 rfl ?_
        refine zr_aload_n dX4_pass_34 rfl rfl ?_
        refine zr_getR zz_cX4 zz_C0 0 (by decide) rfl zf_X4_12 dX4_pass_35 ?_
        refine zr_getI zz_cX0 zz_C1 7 (by decide) rfl zf_X4_80 dX4_pass_38 ?_
        refine zr_icmp_ge 68 dX4_pass_41 (by decide) (fun q => ?_) (fun q => ?_)
        · have hw := hw.1 q
          refine zr_iload_n dX4_pass_68 rfl rfl ?_
          exact zr_ret rfl rfl dX4_pass_69 hw
        · have hw := hw.2 q
          refine zr_aload_n dX4_pass_44 rfl rfl ?_
          refine zr_getR zz_cX4 zz_C0 6 (by decide) rfl zf_X4_42 dX4_pass_45 ?_
          refine zr_iload dX4_pass_48 rfl ?_
          obtain ⟨hi, hw⟩ := hw
          refine zr_iald zz_C32 hi rfl dX4_pass_50 ?_
          refine zr_iload_n dX4_pass_51 rfl rfl ?_
          refine zr_icmp_lt 62 dX4_pass_52 (by decide) (fun q => ?_) (fun q => ?_)
          · have hw := hw.1 q
            refine zr_iinc (x7 + 1) [.ref 0, .null, .int p2, .int x6, .int (x7 + 1)] dX4_pass_62 rfl (zok_1 _) (by decide) rfl rfl ?_
            refine zr_goto 32 dX4_pass_65 (by decide) ?_
            exact ih32 _ _ hw
          · have hw := hw.2 q
            refine zr_iload_n dX4_pass_55 rfl rfl ?_
            refine zr_iconst dX4_pass_56 zqk_1 ?_
            refine zr_iload dX4_pass_57 rfl ?_
            refine zr_ishl dX4_pass_59 ?_
            refine zr_ior dX4_pass_60 ?_
            refine zr_istore_n [.ref 0, .null, .int p2, .int (x6 ||| ((1 : Int32) <<< (x7 &&& 31))), .int x7] dX4_pass_61 rfl (by decide) rfl rfl ?_
            refine zr_iinc (x7 + 1) [.ref 0, .null, .int p2, .int (x6 ||| ((1 : Int32) <<< (x7 &&& 31))), .int (x7 + 1)] dX4_pass_62 rfl (zok_1 _) (by decide) rfl rfl ?_
            refine zr_goto 32 dX4_pass_65 (by decide) ?_
            exact ih32 _ _ hw
      have key32 : ∀ (t9 : Nat) (x6 : Int32) (x7 : Int32), zz_lp (fun K (s : Int32 × Int32) => wX4_pass_b32 p2 post h5 K s.1 s.2) t9 (x6, x7) → zz_Go zz_C 6 cX4_pass RX4 5 (some .int) post 32 [] [.ref 0, .null, .int p2, .int x6, .int x7] h5 := by
        intro t9
        induction t9 with
        | zero => intro x6 x7 hw; exact hw.elim
        | succ t9 ih => intro x6 x7 hw; exact step32 _ ih _ _ hw
      exact key32 t9 _ _ hw
    · have hw := hw.2 q
      refine zr_aload_n dX4_pass_15 rfl rfl ?_
      refine zr_ldc zk_X4_65 dX4_pass_16 ?_
      refine zr_callVi zz_cX4 zz_C0 (ctX4_tell ((-1000001) : Int32) h0 _ hw) zy_X4_tell zm_X4_66 (by decide) rfl rfl (Nat.le_of_ble_eq_true rfl) dX4_pass_18 (fun r10 h9 hw => ?_)
      exact zr_ret rfl rfl dX4_pass_21 hw
def wX4_line (p1 : Int32) (p2 : Int32) (h0 : zz_H) (post : Int32 → zz_H → Prop) : Prop :=
  wX4_isCurve p1 h0 (fun r1 => ((r1 = 0) → (wX4_tell ((-1000001) : Int32) h0 (fun r3 h2 => post r3 h2))) ∧ ((¬ r1 = 0) → (wX4_within p2 (0 : Int32) (12 : Int32) h0 (fun r4 => ((¬ r4 = 0) → (((p2 ≤ (h0 1 7)) → (((¬ p2 = 0) → (wX4_workOut p1 h0 (fun _ h5 => wX4_greatestReachedBy p2 h5 (fun r6 => post (zz_min (400 : Int32) r6) h5)))) ∧ ((p2 = 0) → (post (400 : Int32) h0)))) ∧ ((¬ p2 ≤ (h0 1 7)) → (wX4_tell ((-1000004) : Int32) h0 (fun r8 h7 => post r8 h7))))) ∧ ((r4 = 0) → (wX4_tell ((-1000001) : Int32) h0 (fun r10 h9 => post r10 h9)))))))
set_option maxRecDepth 20000 in
set_option maxHeartbeats 4000000 in
theorem ctX4_line (p1 : Int32) (p2 : Int32) (h0 : zz_H) (post : Int32 → zz_H → Prop) (hw : wX4_line p1 p2 h0 post) : zz_Ct zz_C 6 yX4_line cX4_line 3 (some .int) [.ref 0, .int p1, .int p2] h0 post := by
  refine zz_ct (L := [.ref 0, .int p1, .int p2]) (by decide +kernel) (Nat.le_of_ble_eq_true rfl) (fun ad q hq => hq) ?_
  show zz_Go zz_C 6 cX4_line RX4 3 (some .int) post 0 [] [.ref 0, .int p1, .int p2] h0
  unfold wX4_line at hw
  refine zr_aload_n dX4_line_0 rfl rfl ?_
  refine zr_iload_n dX4_line_1 rfl rfl ?_
  refine zr_pVi zz_cX4 zz_C0 (ctX4_isCurve p1 h0 _ hw) zy_X4_isCurve zm_X4_150 (by decide) rfl rfl (Nat.le_of_ble_eq_true rfl) dX4_line_2 (fun r1 hw => ?_)
  refine zr_if_eq 18 dX4_line_5 (by decide) (fun q => ?_) (fun q => ?_)
  · have hw := hw.1 q
    refine zr_aload_n dX4_line_18 rfl rfl ?_
    refine zr_ldc zk_X4_65 dX4_line_19 ?_
    refine zr_callVi zz_cX4 zz_C0 (ctX4_tell ((-1000001) : Int32) h0 _ hw) zy_X4_tell zm_X4_66 (by decide) rfl rfl (Nat.le_of_ble_eq_true rfl) dX4_line_21 (fun r3 h2 hw => ?_)
    exact zr_ret rfl rfl dX4_line_24 hw
  · have hw := hw.2 q
    refine zr_iload_n dX4_line_8 rfl rfl ?_
    refine zr_iconst dX4_line_9 zqk_0 ?_
    refine zr_bipush dX4_line_10 zbk_12 ?_
    refine zr_pSi (ctX4_within p2 (0 : Int32) (12 : Int32) h0 _ hw) zy_X4_within zm_X4_61 (by decide) rfl rfl (Nat.le_of_ble_eq_true rfl) dX4_line_12 (fun r4 hw => ?_)
    refine zr_if_ne 25 dX4_line_15 (by decide) (fun q => ?_) (fun q => ?_)
    · have hw := hw.1 q
      refine zr_iload_n dX4_line_25 rfl rfl ?_
      refine zr_aload_n dX4_line_26 rfl rfl ?_
      refine zr_getR zz_cX4 zz_C0 0 (by decide) rfl zf_X4_12 dX4_line_27 ?_
      refine zr_getI zz_cX0 zz_C1 7 (by decide) rfl zf_X4_80 dX4_line_30 ?_
      refine zr_icmp_le 43 dX4_line_33 (by decide) (fun q => ?_) (fun q => ?_)
      · have hw := hw.1 q
        refine zr_iload_n dX4_line_43 rfl rfl ?_
        refine zr_if_ne 51 dX4_line_44 (by decide) (fun q => ?_) (fun q => ?_)
        · have hw := hw.1 q
          refine zr_aload_n dX4_line_51 rfl rfl ?_
          refine zr_iload_n dX4_line_52 rfl rfl ?_
          refine zr_callVv zz_cX4 zz_C0 (ctX4_workOut p1 h0 _ hw) zy_X4_workOut zm_X4_162 (by decide) rfl rfl (Nat.le_of_ble_eq_true rfl) dX4_line_53 (fun h5 hw => ?_)
          refine zr_sipush dX4_line_56 zhk_400 ?_
          refine zr_aload_n dX4_line_59 rfl rfl ?_
          refine zr_iload_n dX4_line_60 rfl rfl ?_
          refine zr_pVi zz_cX4 zz_C0 (ctX4_greatestReachedBy p2 h5 _ hw) zy_X4_greatestReachedBy zm_X4_169 (by decide) rfl rfl (Nat.le_of_ble_eq_true rfl) dX4_line_61 (fun r6 hw => ?_)
          refine zr_min zm_X4_195 zt_Math_min_name zn_J9 zc_Math_min_name (by decide) (Nat.le_of_ble_eq_true rfl) dX4_line_64 ?_
          exact zr_ret rfl rfl dX4_line_67 hw
        · have hw := hw.2 q
          refine zr_sipush dX4_line_47 zhk_400 ?_
          exact zr_ret rfl rfl dX4_line_50 hw
      · have hw := hw.2 q
        refine zr_aload_n dX4_line_36 rfl rfl ?_
        refine zr_ldc zk_X4_111 dX4_line_37 ?_
        refine zr_callVi zz_cX4 zz_C0 (ctX4_tell ((-1000004) : Int32) h0 _ hw) zy_X4_tell zm_X4_66 (by decide) rfl rfl (Nat.le_of_ble_eq_true rfl) dX4_line_39 (fun r8 h7 hw => ?_)
        exact zr_ret rfl rfl dX4_line_42 hw
    · have hw := hw.2 q
      refine zr_aload_n dX4_line_18 rfl rfl ?_
      refine zr_ldc zk_X4_65 dX4_line_19 ?_
      refine zr_callVi zz_cX4 zz_C0 (ctX4_tell ((-1000001) : Int32) h0 _ hw) zy_X4_tell zm_X4_66 (by decide) rfl rfl (Nat.le_of_ble_eq_true rfl) dX4_line_21 (fun r10 h9 hw => ?_)
      exact zr_ret rfl rfl dX4_line_24 hw
def wX4_heap (p1 : Int32) (p2 : Int32) (h0 : zz_H) (post : Int32 → zz_H → Prop) : Prop :=
  wX4_isCurve p1 h0 (fun r1 => ((r1 = 0) → (wX4_tell ((-1000001) : Int32) h0 (fun r3 h2 => post r3 h2))) ∧ ((¬ r1 = 0) → (wX4_isLine p2 h0 (fun r4 => ((¬ r4 = 0) → (wX4_workOut p1 h0 (fun _ h5 => wX4_marksFrom p2 h5 (fun r6 => wX4_marksFrom (p2 + (3 : Int32)) h5 (fun r7 => wX4_marksFrom (p2 - (3 : Int32)) h5 (fun r8 => wX4_marksFrom p2 h5 (fun r9 => post ((r6 - r7) - (r8 - r9)) h5))))))) ∧ ((r4 = 0) → (wX4_tell ((-1000001) : Int32) h0 (fun r11 h10 => post r11 h10)))))))
set_option maxRecDepth 20000 in
set_option maxHeartbeats 4000000 in
theorem ctX4_heap (p1 : Int32) (p2 : Int32) (h0 : zz_H) (post : Int32 → zz_H → Prop) (hw : wX4_heap p1 p2 h0 post) : zz_Ct zz_C 6 yX4_heap cX4_heap 5 (some .int) [.ref 0, .int p1, .int p2] h0 post := by
  refine zz_ct (L := [.ref 0, .int p1, .int p2, .null, .null]) (by decide +kernel) (Nat.le_of_ble_eq_true rfl) (fun ad q hq => hq) ?_
  show zz_Go zz_C 6 cX4_heap RX4 5 (some .int) post 0 [] [.ref 0, .int p1, .int p2, .null, .null] h0
  unfold wX4_heap at hw
  refine zr_aload_n dX4_heap_0 rfl rfl ?_
  refine zr_iload_n dX4_heap_1 rfl rfl ?_
  refine zr_pVi zz_cX4 zz_C0 (ctX4_isCurve p1 h0 _ hw) zy_X4_isCurve zm_X4_150 (by decide) rfl rfl (Nat.le_of_ble_eq_true rfl) dX4_heap_2 (fun r1 hw => ?_)
  refine zr_if_eq 15 dX4_heap_5 (by decide) (fun q => ?_) (fun q => ?_)
  · have hw := hw.1 q
    refine zr_aload_n dX4_heap_15 rfl rfl ?_
    refine zr_ldc zk_X4_65 dX4_heap_16 ?_
    refine zr_callVi zz_cX4 zz_C0 (ctX4_tell ((-1000001) : Int32) h0 _ hw) zy_X4_tell zm_X4_66 (by decide) rfl rfl (Nat.le_of_ble_eq_true rfl) dX4_heap_18 (fun r3 h2 hw => ?_)
    exact zr_ret rfl rfl dX4_heap_21 hw
  · have hw := hw.2 q
    refine zr_iload_n dX4_heap_8 rfl rfl ?_
    refine zr_pSi (ctX4_isLine p2 h0 _ hw) zy_X4_isLine zm_X4_192 (by decide) rfl rfl (Nat.le_of_ble_eq_true rfl) dX4_heap_9 (fun r4 hw => ?_)
    refine zr_if_ne 22 dX4_heap_12 (by decide) (fun q => ?_) (fun q => ?_)
    · have hw := hw.1 q
      refine zr_aload_n dX4_heap_22 rfl rfl ?_
      refine zr_iload_n dX4_heap_23 rfl rfl ?_
      refine zr_callVv zz_cX4 zz_C0 (ctX4_workOut p1 h0 _ hw) zy_X4_workOut zm_X4_162 (by decide) rfl rfl (Nat.le_of_ble_eq_true rfl) dX4_heap_24 (fun h5 hw => ?_)
      refine zr_aload_n dX4_heap_27 rfl rfl ?_
      refine zr_iload_n dX4_heap_28 rfl rfl ?_
      refine zr_pVi zz_cX4 zz_C0 (ctX4_marksFrom p2 h5 _ hw) zy_X4_marksFrom zm_X4_166 (by decide) rfl rfl (Nat.le_of_ble_eq_true rfl) dX4_heap_29 (fun r6 hw => ?_)
      refine zr_aload_n dX4_heap_32 rfl rfl ?_
      refine zr_iload_n dX4_heap_33 rfl rfl ?_
      refine zr_iconst dX4_heap_34 zqk_3 ?_
      refine zr_iadd dX4_heap_35 ?_
      refine zr_pVi zz_cX4 zz_C0 (ctX4_marksFrom (p2 + (3 : Int32)) h5 _ hw) zy_X4_marksFrom zm_X4_166 (by decide) rfl rfl (Nat.le_of_ble_eq_true rfl) dX4_heap_36 (fun r7 hw => ?_)
      refine zr_isub dX4_heap_39 ?_
      refine zr_istore_n [.ref 0, .int p1, .int p2, .int (r6 - r7), .null] dX4_heap_40 rfl (by decide) rfl rfl ?_
      refine zr_aload_n dX4_heap_41 rfl rfl ?_
      refine zr_iload_n dX4_heap_42 rfl rfl ?_
      refine zr_iconst dX4_heap_43 zqk_3 ?_
      refine zr_isub dX4_heap_44 ?_
      refine zr_pVi zz_cX4 zz_C0 (ctX4_marksFrom (p2 - (3 : Int32)) h5 _ hw) zy_X4_marksFrom zm_X4_166 (by decide) rfl rfl (Nat.le_of_ble_eq_true rfl) dX4_heap_45 (fun r8 hw => ?_)
      refine zr_aload_n dX4_heap_48 rfl rfl ?_
      refine zr_iload_n dX4_heap_49 rfl rfl ?_
      refine zr_pVi zz_cX4 zz_C0 (ctX4_marksFrom p2 h5 _ hw) zy_X4_marksFrom zm_X4_166 (by decide) rfl rfl (Nat.le_of_ble_eq_true rfl) dX4_heap_50 (fun r9 hw => ?_)
      refine zr_isub dX4_heap_53 ?_
      refine zr_istore [.ref 0, .int p1, .int p2, .int (r6 - r7), .int (r8 - r9)] dX4_heap_54 (by decide) rfl rfl ?_
      refine zr_iload_n dX4_heap_56 rfl rfl ?_
      refine zr_iload dX4_heap_57 rfl ?_
      refine zr_isub dX4_heap_59 ?_
      exact zr_ret rfl rfl dX4_heap_60 hw
    · have hw := hw.2 q
      refine zr_aload_n dX4_heap_15 rfl rfl ?_
      refine zr_ldc zk_X4_65 dX4_heap_16 ?_
      refine zr_callVi zz_cX4 zz_C0 (ctX4_tell ((-1000001) : Int32) h0 _ hw) zy_X4_tell zm_X4_66 (by decide) rfl rfl (Nat.le_of_ble_eq_true rfl) dX4_heap_18 (fun r11 h10 hw => ?_)
      exact zr_ret rfl rfl dX4_heap_21 hw
def wX4_kindest_b38 (p1 : Int32) (post : Int32 → zz_H → Prop) (K6 : Int32 × Int32 × Int32 × zz_H → Prop) (x2 : Int32) (x3 : Int32) (x4 : Int32) (h5 : zz_H) : Prop :=
  (((h5 1 8) ≤ x4) → (post x2 h5)) ∧ ((¬ (h5 1 8) ≤ x4) → (wX4_workOut x4 h5 (fun _ h7 => wX4_marksFrom p1 h7 (fun r8 => ((r8 ≤ x3) → (K6 (x2, x3, (x4 + 1), h7))) ∧ ((¬ r8 ≤ x3) → (K6 (x4, r8, (x4 + 1), h7)))))))
def wX4_kindest (p1 : Int32) (h0 : zz_H) (post : Int32 → zz_H → Prop) : Prop :=
  wX4_isLine p1 h0 (fun r1 => ((¬ r1 = 0) → (((¬ (h0 1 8) = 0) → (∃ t9, zz_lp (fun K (s : Int32 × Int32 × Int32 × zz_H) => wX4_kindest_b38 p1 post K s.1 s.2.1 s.2.2.1 s.2.2.2) t9 ((0 : Int32), ((-1) : Int32), (0 : Int32), h0))) ∧ (((h0 1 8) = 0) → (wX4_tell ((-1000004) : Int32) h0 (fun r10 h9 => post r10 h9))))) ∧ ((r1 = 0) → (wX4_tell ((-1000001) : Int32) h0 (fun r12 h11 => post r12 h11))))
set_option maxRecDepth 20000 in
set_option maxHeartbeats 4000000 in
theorem ctX4_kindest (p1 : Int32) (h0 : zz_H) (post : Int32 → zz_H → Prop) (hw : wX4_kindest p1 h0 post) : zz_Ct zz_C 6 yX4_kindest cX4_kindest 6 (some .int) [.ref 0, .int p1] h0 post := by
  refine zz_ct (L := [.ref 0, .int p1, .null, .null, .null, .null]) (by decide +kernel) (Nat.le_of_ble_eq_true rfl) (fun ad q hq => hq) ?_
  show zz_Go zz_C 6 cX4_kindest RX4 6 (some .int) post 0 [] [.ref 0, .int p1, .null, .null, .null, .null] h0
  unfold wX4_kindest at hw
  refine zr_iload_n dX4_kindest_0 rfl rfl ?_
  refine zr_pSi (ctX4_isLine p1 h0 _ hw) zy_X4_isLine zm_X4_192 (by decide) rfl rfl (Nat.le_of_ble_eq_true rfl) dX4_kindest_1 (fun r1 hw => ?_)
  refine zr_if_ne 14 dX4_kindest_4 (by decide) (fun q => ?_) (fun q => ?_)
  · have hw := hw.1 q
    refine zr_aload_n dX4_kindest_14 rfl rfl ?_
    refine zr_getR zz_cX4 zz_C0 0 (by decide) rfl zf_X4_12 dX4_kindest_15 ?_
    refine zr_getI zz_cX0 zz_C1 8 (by decide) rfl zf_X4_144 dX4_kindest_18 ?_
    refine zr_if_ne 31 dX4_kindest_21 (by decide) (fun q => ?_) (fun q => ?_)
    · have hw := hw.1 q
      refine zr_iconst dX4_kindest_31 zqk_0 ?_
      refine zr_istore_n [.ref 0, .int p1, .int (0 : Int32), .null, .null, .null] dX4_kindest_32 rfl (by decide) rfl rfl ?_
      refine zr_iconst dX4_kindest_33 zqk_m1 ?_
      refine zr_istore_n [.ref 0, .int p1, .int (0 : Int32), .int ((-1) : Int32), .null, .null] dX4_kindest_34 rfl (by decide) rfl rfl ?_
      refine zr_iconst dX4_kindest_35 zqk_0 ?_
      refine zr_istore [.ref 0, .int p1, .int (0 : Int32), .int ((-1) : Int32), .int (0 : Int32), .null] dX4_kindest_36 (by decide) rfl rfl ?_
      obtain ⟨t9, hw⟩ := hw
      have step38 : ∀ (K6 : Int32 × Int32 × Int32 × zz_H → Prop), (∀ (x2 : Int32) (x3 : Int32) (x4 : Int32) (h5 : zz_H), K6 (x2, x3, x4, h5) → zz_Go zz_C 6 cX4_kindest RX4 6 (some .int) post 38 [] [.ref 0, .int p1, .int x2, .int x3, .int x4, .null] h5) → ∀ (x2 : Int32) (x3 : Int32) (x4 : Int32) (h5 : zz_H), wX4_kindest_b38 p1 post K6 x2 x3 x4 h5 → zz_Go zz_C 6 cX4_kindest RX4 6 (some .int) post 38 [] [.ref 0, .int p1, .int x2, .int x3, .int x4, .null] h5 := by
        intro K6 ih38 x2 x3 x4 h5 hw
        unfold wX4_kindest_b38 at hw
        refine zr_iload dX4_kindest_38 rfl ?_
        refine zr_aload_n dX4_kindest_40 rfl rfl ?_
        refine zr_getR zz_cX4 zz_C0 0 (by decide) rfl zf_X4_12 dX4_kindest_41 ?_
        refine zr_getI zz_cX0 zz_C1 8 (by decide) rfl zf_X4_144 dX4_kindest_44 ?_
        refine zr_icmp_ge 81 dX4_kindest_47 (by decide) (fun q => ?_) (fun q => ?_)
        · have hw := hw.1 q
          refine zr_iload_n dX4_kindest_81 rfl rfl ?_
          exact zr_ret rfl rfl dX4_kindest_82 hw
        · have hw := hw.2 q
          refine zr_aload_n dX4_kindest_50 rfl rfl ?_
          refine zr_iload dX4_kindest_51 rfl ?_
          refine zr_callVv zz_cX4 zz_C0 (ctX4_workOut x4 h5 _ hw) zy_X4_workOut zm_X4_162 (by decide) rfl rfl (Nat.le_of_ble_eq_true rfl) dX4_kindest_53 (fun h7 hw => ?_)
          refine zr_aload_n dX4_kindest_56 rfl rfl ?_
          refine zr_iload_n dX4_kindest_57 rfl rfl ?_
          refine zr_pVi zz_cX4 zz_C0 (ctX4_marksFrom p1 h7 _ hw) zy_X4_marksFrom zm_X4_166 (by decide) rfl rfl (Nat.le_of_ble_eq_true rfl) dX4_kindest_58 (fun r8 hw => ?_)
          refine zr_istore [.ref 0, .int p1, .int x2, .int x3, .int x4, .int r8] dX4_kindest_61 (by decide) rfl rfl ?_
          refine zr_iload dX4_kindest_63 rfl ?_
          refine zr_iload_n dX4_kindest_65 rfl rfl ?_
          refine zr_icmp_le 75 dX4_kindest_66 (by decide) (fun q => ?_) (fun q => ?_)
          · have hw := hw.1 q
            refine zr_iinc (x4 + 1) [.ref 0, .int p1, .int x2, .int x3, .int (x4 + 1), .int r8] dX4_kindest_75 rfl (zok_1 _) (by decide) rfl rfl ?_
            refine zr_goto 38 dX4_kindest_78 (by decide) ?_
            refine zr_sub [.ref 0, .int p1, .int x2, .int x3, .int (x4 + 1), .null] ⟨Or.inr rfl, ⟨Or.inr rfl, ⟨Or.inr rfl, ⟨Or.inr rfl, ⟨Or.inr rfl, ⟨Or.inl rfl, trivial⟩⟩⟩⟩⟩⟩ ?_
            exact ih38 _ _ _ _ hw
          · have hw := hw.2 q
            refine zr_iload dX4_kindest_69 rfl ?_
            refine zr_istore_n [.ref 0, .int p1, .int x2, .int r8, .int x4, .int r8] dX4_kindest_71 rfl (by decide) rfl rfl ?_
            refine zr_iload dX4_kindest_72 rfl ?_
            refine zr_istore_n [.ref 0, .int p1, .int x4, .int r8, .int x4, .int r8] dX4_kindest_74 rfl (by decide) rfl rfl ?_
            refine zr_iinc (x4 + 1) [.ref 0, .int p1, .int x4, .int r8, .int (x4 + 1), .int r8] dX4_kindest_75 rfl (zok_1 _) (by decide) rfl rfl ?_
            refine zr_goto 38 dX4_kindest_78 (by decide) ?_
            refine zr_sub [.ref 0, .int p1, .int x4, .int r8, .int (x4 + 1), .null] ⟨Or.inr rfl, ⟨Or.inr rfl, ⟨Or.inr rfl, ⟨Or.inr rfl, ⟨Or.inr rfl, ⟨Or.inl rfl, trivial⟩⟩⟩⟩⟩⟩ ?_
            exact ih38 _ _ _ _ hw
      have key38 : ∀ (t9 : Nat) (x2 : Int32) (x3 : Int32) (x4 : Int32) (h5 : zz_H), zz_lp (fun K (s : Int32 × Int32 × Int32 × zz_H) => wX4_kindest_b38 p1 post K s.1 s.2.1 s.2.2.1 s.2.2.2) t9 (x2, x3, x4, h5) → zz_Go zz_C 6 cX4_kindest RX4 6 (some .int) post 38 [] [.ref 0, .int p1, .int x2, .int x3, .int x4, .null] h5 := by
        intro t9
        induction t9 with
        | zero => intro x2 x3 x4 h5 hw; exact hw.elim
        | succ t9 ih => intro x2 x3 x4 h5 hw; exact step38 _ ih _ _ _ _ hw
      exact key38 t9 _ _ _ _ hw
    · have hw := hw.2 q
      refine zr_aload_n dX4_kindest_24 rfl rfl ?_
      refine zr_ldc zk_X4_111 dX4_kindest_25 ?_
      refine zr_callVi zz_cX4 zz_C0 (ctX4_tell ((-1000004) : Int32) h0 _ hw) zy_X4_tell zm_X4_66 (by decide) rfl rfl (Nat.le_of_ble_eq_true rfl) dX4_kindest_27 (fun r10 h9 hw => ?_)
      exact zr_ret rfl rfl dX4_kindest_30 hw
  · have hw := hw.2 q
    refine zr_aload_n dX4_kindest_7 rfl rfl ?_
    refine zr_ldc zk_X4_65 dX4_kindest_8 ?_
    refine zr_callVi zz_cX4 zz_C0 (ctX4_tell ((-1000001) : Int32) h0 _ hw) zy_X4_tell zm_X4_66 (by decide) rfl rfl (Nat.le_of_ble_eq_true rfl) dX4_kindest_10 (fun r12 h11 hw => ?_)
    exact zr_ret rfl rfl dX4_kindest_13 hw
def wX4_byFor_b35 (p1 : Int32) (p2 : Int32) (post : Int32 → zz_H → Prop) (K8 : Int32 × zz_H → Prop) (x6 : Int32) (h7 : zz_H) : Prop :=
  (((100 : Int32) < x6) → (wX4_tell ((-1000004) : Int32) h7 (fun r10 h9 => post r10 h9))) ∧ ((¬ (100 : Int32) < x6) → (vp_in p1 6 ∧ (wX1_markAll (h7 6 p1.toNatClampNeg) x6 32 h7 (fun _ h11 => wX4_marksFrom p2 h11 (fun r12 => ((¬ r12 = (h11 1 7)) → (K8 ((x6 + 1), h11))) ∧ ((r12 = (h11 1 7)) → (post x6 h11)))))))
def wX4_byFor (p1 : Int32) (p2 : Int32) (h0 : zz_H) (post : Int32 → zz_H → Prop) : Prop :=
  wX4_isCurve p1 h0 (fun r1 => ((r1 = 0) → (wX4_tell ((-1000001) : Int32) h0 (fun r3 h2 => post r3 h2))) ∧ ((¬ r1 = 0) → (wX4_isLine p2 h0 (fun r4 => ((¬ r4 = 0) → (wX1_read 1 h0 (fun _ h5 => ∃ t9, zz_lp (fun K (s : Int32 × zz_H) => wX4_byFor_b35 p1 p2 post K s.1 s.2) t9 ((0 : Int32), h5)))) ∧ ((r4 = 0) → (wX4_tell ((-1000001) : Int32) h0 (fun r14 h13 => post r14 h13)))))))
set_option maxRecDepth 20000 in
set_option maxHeartbeats 4000000 in
theorem ctX4_byFor (p1 : Int32) (p2 : Int32) (h0 : zz_H) (post : Int32 → zz_H → Prop) (hw : wX4_byFor p1 p2 h0 post) : zz_Ct zz_C 5 yX4_byFor cX4_byFor 4 (some .int) [.ref 0, .int p1, .int p2] h0 post := by
  refine zz_ct (L := [.ref 0, .int p1, .int p2, .null]) (by decide +kernel) (Nat.le_of_ble_eq_true rfl) (fun ad q hq => hq) ?_
  show zz_Go zz_C 5 cX4_byFor RX4 4 (some .int) post 0 [] [.ref 0, .int p1, .int p2, .null] h0
  unfold wX4_byFor at hw
  refine zr_aload_n dX4_byFor_0 rfl rfl ?_
  refine zr_iload_n dX4_byFor_1 rfl rfl ?_
  refine zr_pVi zz_cX4 zz_C0 (ctX4_isCurve p1 h0 _ hw) zy_X4_isCurve zm_X4_150 (by decide) rfl rfl (Nat.le_of_ble_eq_true rfl) dX4_byFor_2 (fun r1 hw => ?_)
  refine zr_if_eq 15 dX4_byFor_5 (by decide) (fun q => ?_) (fun q => ?_)
  · have hw := hw.1 q
    refine zr_aload_n dX4_byFor_15 rfl rfl ?_
    refine zr_ldc zk_X4_65 dX4_byFor_16 ?_
    refine zr_callVi zz_cX4 zz_C0 (ctX4_tell ((-1000001) : Int32) h0 _ hw) zy_X4_tell zm_X4_66 (by decide) rfl rfl (Nat.le_of_ble_eq_true rfl) dX4_byFor_18 (fun r3 h2 hw => ?_)
    exact zr_ret rfl rfl dX4_byFor_21 hw
  · have hw := hw.2 q
    refine zr_iload_n dX4_byFor_8 rfl rfl ?_
    refine zr_pSi (ctX4_isLine p2 h0 _ hw) zy_X4_isLine zm_X4_192 (by decide) rfl rfl (Nat.le_of_ble_eq_true rfl) dX4_byFor_9 (fun r4 hw => ?_)
    refine zr_if_ne 22 dX4_byFor_12 (by decide) (fun q => ?_) (fun q => ?_)
    · have hw := hw.1 q
      refine zr_aload_n dX4_byFor_22 rfl rfl ?_
      refine zr_getR zz_cX4 zz_C0 3 (by decide) rfl zf_X4_25 dX4_byFor_23 ?_
      refine zr_aload_n dX4_byFor_26 rfl rfl ?_
      refine zr_getR zz_cX4 zz_C0 0 (by decide) rfl zf_X4_12 dX4_byFor_27 ?_
      refine zr_callVv zz_cX1 zz_C25 (ctX1_read 1 (Or.inl rfl) h0 _ hw) zy_X1_read zm_X4_112 (by decide) rfl rfl (Nat.le_of_ble_eq_true rfl) dX4_byFor_30 (fun h5 hw => ?_)
      refine zr_iconst dX4_byFor_33 zqk_0 ?_
      refine zr_istore_n [.ref 0, .int p1, .int p2, .int (0 : Int32)] dX4_byFor_34 rfl (by decide) rfl rfl ?_
      obtain ⟨t9, hw⟩ := hw
      have step35 : ∀ (K8 : Int32 × zz_H → Prop), (∀ (x6 : Int32) (h7 : zz_H), K8 (x6, h7) → zz_Go zz_C 5 cX4_byFor RX4 4 (some .int) post 35 [] [.ref 0, .int p1, .int p2, .int x6] h7) → ∀ (x6 : Int32) (h7 : zz_H), wX4_byFor_b35 p1 p2 post K8 x6 h7 → zz_Go zz_C 5 cX4_byFor RX4 4 (some .int) post 35 [] [.ref 0, .int p1, .int p2, .int x6] h7 := by
        intro K8 ih35 x6 h7 hw
        unfold wX4_byFor_b35 at hw
        refine zr_iload_n dX4_byFor_35 rfl rfl ?_
        refine zr_bipush dX4_byFor_36 zbk_100 ?_
        refine zr_icmp_gt 85 dX4_byFor_38 (by decide) (fun q => ?_) (fun q => ?_)
        · have hw := hw.1 q
          refine zr_aload_n dX4_byFor_85 rfl rfl ?_
          refine zr_ldc zk_X4_111 dX4_byFor_86 ?_
          refine zr_callVi zz_cX4 zz_C0 (ctX4_tell ((-1000004) : Int32) h7 _ hw) zy_X4_tell zm_X4_66 (by decide) rfl rfl (Nat.le_of_ble_eq_true rfl) dX4_byFor_88 (fun r10 h9 hw => ?_)
          exact zr_ret rfl rfl dX4_byFor_91 hw
        · have hw := hw.2 q
          refine zr_aload_n dX4_byFor_41 rfl rfl ?_
          refine zr_getR zz_cX4 zz_C0 3 (by decide) rfl zf_X4_25 dX4_byFor_42 ?_
          refine zr_aload_n dX4_byFor_45 rfl rfl ?_
          refine zr_getR zz_cX4 zz_C0 0 (by decide) rfl zf_X4_12 dX4_byFor_46 ?_
          refine zr_getR zz_cX0 zz_C1 4 (by decide) rfl zf_X4_153 dX4_byFor_49 ?_
          refine zr_iload_n dX4_byFor_52 rfl rfl ?_
          obtain ⟨hi, hw⟩ := hw
          refine zr_iald zz_C6 hi rfl dX4_byFor_53 ?_
          refine zr_iload_n dX4_byFor_54 rfl rfl ?_
          refine zr_aload_n dX4_byFor_55 rfl rfl ?_
          refine zr_getR zz_cX4 zz_C0 6 (by decide) rfl zf_X4_42 dX4_byFor_56 ?_
          refine zr_callVv zz_cX1 zz_C25 (ctX1_markAll (h7 6 p1.toNatClampNeg) x6 32 zz_C32 h7 _ hw) zy_X1_markAll zm_X4_185 (by decide) rfl rfl (Nat.le_of_ble_eq_true rfl) dX4_byFor_59 (fun h11 hw => ?_)
          refine zr_aload_n dX4_byFor_62 rfl rfl ?_
          refine zr_iload_n dX4_byFor_63 rfl rfl ?_
          refine zr_pVi zz_cX4 zz_C0 (ctX4_marksFrom p2 h11 _ hw) zy_X4_marksFrom zm_X4_166 (by decide) rfl rfl (Nat.le_of_ble_eq_true rfl) dX4_byFor_64 (fun r12 hw => ?_)
          refine zr_aload_n dX4_byFor_67 rfl rfl ?_
          refine zr_getR zz_cX4 zz_C0 0 (by decide) rfl zf_X4_12 dX4_byFor_68 ?_
          refine zr_getI zz_cX0 zz_C1 7 (by decide) rfl zf_X4_80 dX4_byFor_71 ?_
          refine zr_icmp_ne 79 dX4_byFor_74 (by decide) (fun q => ?_) (fun q => ?_)
          · have hw := hw.1 q
            refine zr_iinc (x6 + 1) [.ref 0, .int p1, .int p2, .int (x6 + 1)] dX4_byFor_79 rfl (zok_1 _) (by decide) rfl rfl ?_
            refine zr_goto 35 dX4_byFor_82 (by decide) ?_
            exact ih35 _ _ hw
          · have hw := hw.2 q
            refine zr_iload_n dX4_byFor_77 rfl rfl ?_
            exact zr_ret rfl rfl dX4_byFor_78 hw
      have key35 : ∀ (t9 : Nat) (x6 : Int32) (h7 : zz_H), zz_lp (fun K (s : Int32 × zz_H) => wX4_byFor_b35 p1 p2 post K s.1 s.2) t9 (x6, h7) → zz_Go zz_C 5 cX4_byFor RX4 4 (some .int) post 35 [] [.ref 0, .int p1, .int p2, .int x6] h7 := by
        intro t9
        induction t9 with
        | zero => intro x6 h7 hw; exact hw.elim
        | succ t9 ih => intro x6 h7 hw; exact step35 _ ih _ _ hw
      exact key35 t9 _ _ hw
    · have hw := hw.2 q
      refine zr_aload_n dX4_byFor_15 rfl rfl ?_
      refine zr_ldc zk_X4_65 dX4_byFor_16 ?_
      refine zr_callVi zz_cX4 zz_C0 (ctX4_tell ((-1000001) : Int32) h0 _ hw) zy_X4_tell zm_X4_66 (by decide) rfl rfl (Nat.le_of_ble_eq_true rfl) dX4_byFor_18 (fun r14 h13 hw => ?_)
      exact zr_ret rfl rfl dX4_byFor_21 hw
def wX4_letters (p1 : Int32) (p2 : Int32) (p3 : Int32) (h0 : zz_H) (post : Int32 → zz_H → Prop) : Prop :=
  wX4_isCurve p1 h0 (fun r1 => ((r1 = 0) → (wX4_tell ((-1000001) : Int32) h0 (fun r3 h2 => post r3 h2))) ∧ ((¬ r1 = 0) → (wX4_isLine p2 h0 (fun r4 => ((r4 = 0) → (wX4_tell ((-1000001) : Int32) h0 (fun r6 h5 => post r6 h5))) ∧ ((¬ r4 = 0) → (wX4_isLine p3 h0 (fun r7 => ((r7 = 0) → (wX4_tell ((-1000001) : Int32) h0 (fun r9 h8 => post r9 h8))) ∧ ((¬ r7 = 0) → (((p2 ≤ p3) → (wX4_workOut p1 h0 (fun _ h10 => wX4_marksFrom p2 h10 (fun r11 => wX4_marksFrom (p3 + (1 : Int32)) h10 (fun r12 => post (r11 - r12) h10))))) ∧ ((¬ p2 ≤ p3) → (wX4_tell ((-1000001) : Int32) h0 (fun r14 h13 => post r14 h13))))))))))))
set_option maxRecDepth 20000 in
set_option maxHeartbeats 4000000 in
theorem ctX4_letters (p1 : Int32) (p2 : Int32) (p3 : Int32) (h0 : zz_H) (post : Int32 → zz_H → Prop) (hw : wX4_letters p1 p2 p3 h0 post) : zz_Ct zz_C 6 yX4_letters cX4_letters 4 (some .int) [.ref 0, .int p1, .int p2, .int p3] h0 post := by
  refine zz_ct (L := [.ref 0, .int p1, .int p2, .int p3]) (by decide +kernel) (Nat.le_of_ble_eq_true rfl) (fun ad q hq => hq) ?_
  show zz_Go zz_C 6 cX4_letters RX4 4 (some .int) post 0 [] [.ref 0, .int p1, .int p2, .int p3] h0
  unfold wX4_letters at hw
  refine zr_aload_n dX4_letters_0 rfl rfl ?_
  refine zr_iload_n dX4_letters_1 rfl rfl ?_
  refine zr_pVi zz_cX4 zz_C0 (ctX4_isCurve p1 h0 _ hw) zy_X4_isCurve zm_X4_150 (by decide) rfl rfl (Nat.le_of_ble_eq_true rfl) dX4_letters_2 (fun r1 hw => ?_)
  refine zr_if_eq 27 dX4_letters_5 (by decide) (fun q => ?_) (fun q => ?_)
  · have hw := hw.1 q
    refine zr_aload_n dX4_letters_27 rfl rfl ?_
    refine zr_ldc zk_X4_65 dX4_letters_28 ?_
    refine zr_callVi zz_cX4 zz_C0 (ctX4_tell ((-1000001) : Int32) h0 _ hw) zy_X4_tell zm_X4_66 (by decide) rfl rfl (Nat.le_of_ble_eq_true rfl) dX4_letters_30 (fun r3 h2 hw => ?_)
    exact zr_ret rfl rfl dX4_letters_33 hw
  · have hw := hw.2 q
    refine zr_iload_n dX4_letters_8 rfl rfl ?_
    refine zr_pSi (ctX4_isLine p2 h0 _ hw) zy_X4_isLine zm_X4_192 (by decide) rfl rfl (Nat.le_of_ble_eq_true rfl) dX4_letters_9 (fun r4 hw => ?_)
    refine zr_if_eq 27 dX4_letters_12 (by decide) (fun q => ?_) (fun q => ?_)
    · have hw := hw.1 q
      refine zr_aload_n dX4_letters_27 rfl rfl ?_
      refine zr_ldc zk_X4_65 dX4_letters_28 ?_
      refine zr_callVi zz_cX4 zz_C0 (ctX4_tell ((-1000001) : Int32) h0 _ hw) zy_X4_tell zm_X4_66 (by decide) rfl rfl (Nat.le_of_ble_eq_true rfl) dX4_letters_30 (fun r6 h5 hw => ?_)
      exact zr_ret rfl rfl dX4_letters_33 hw
    · have hw := hw.2 q
      refine zr_iload_n dX4_letters_15 rfl rfl ?_
      refine zr_pSi (ctX4_isLine p3 h0 _ hw) zy_X4_isLine zm_X4_192 (by decide) rfl rfl (Nat.le_of_ble_eq_true rfl) dX4_letters_16 (fun r7 hw => ?_)
      refine zr_if_eq 27 dX4_letters_19 (by decide) (fun q => ?_) (fun q => ?_)
      · have hw := hw.1 q
        refine zr_aload_n dX4_letters_27 rfl rfl ?_
        refine zr_ldc zk_X4_65 dX4_letters_28 ?_
        refine zr_callVi zz_cX4 zz_C0 (ctX4_tell ((-1000001) : Int32) h0 _ hw) zy_X4_tell zm_X4_66 (by decide) rfl rfl (Nat.le_of_ble_eq_true rfl) dX4_letters_30 (fun r9 h8 hw => ?_)
        exact zr_ret rfl rfl dX4_letters_33 hw
      · have hw := hw.2 q
        refine zr_iload_n dX4_letters_22 rfl rfl ?_
        refine zr_iload_n dX4_letters_23 rfl rfl ?_
        refine zr_icmp_le 34 dX4_letters_24 (by decide) (fun q => ?_) (fun q => ?_)
        · have hw := hw.1 q
          refine zr_aload_n dX4_letters_34 rfl rfl ?_
          refine zr_iload_n dX4_letters_35 rfl rfl ?_
          refine zr_callVv zz_cX4 zz_C0 (ctX4_workOut p1 h0 _ hw) zy_X4_workOut zm_X4_162 (by decide) rfl rfl (Nat.le_of_ble_eq_true rfl) dX4_letters_36 (fun h10 hw => ?_)
          refine zr_aload_n dX4_letters_39 rfl rfl ?_
          refine zr_iload_n dX4_letters_40 rfl rfl ?_
          refine zr_pVi zz_cX4 zz_C0 (ctX4_marksFrom p2 h10 _ hw) zy_X4_marksFrom zm_X4_166 (by decide) rfl rfl (Nat.le_of_ble_eq_true rfl) dX4_letters_41 (fun r11 hw => ?_)
          refine zr_aload_n dX4_letters_44 rfl rfl ?_
          refine zr_iload_n dX4_letters_45 rfl rfl ?_
          refine zr_iconst dX4_letters_46 zqk_1 ?_
          refine zr_iadd dX4_letters_47 ?_
          refine zr_pVi zz_cX4 zz_C0 (ctX4_marksFrom (p3 + (1 : Int32)) h10 _ hw) zy_X4_marksFrom zm_X4_166 (by decide) rfl rfl (Nat.le_of_ble_eq_true rfl) dX4_letters_48 (fun r12 hw => ?_)
          refine zr_isub dX4_letters_51 ?_
          exact zr_ret rfl rfl dX4_letters_52 hw
        · have hw := hw.2 q
          refine zr_aload_n dX4_letters_27 rfl rfl ?_
          refine zr_ldc zk_X4_65 dX4_letters_28 ?_
          refine zr_callVi zz_cX4 zz_C0 (ctX4_tell ((-1000001) : Int32) h0 _ hw) zy_X4_tell zm_X4_66 (by decide) rfl rfl (Nat.le_of_ble_eq_true rfl) dX4_letters_30 (fun r14 h13 hw => ?_)
          exact zr_ret rfl rfl dX4_letters_33 hw
def wX4_lean_j47 (h0 : zz_H) (post : Int32 → Prop) (x1 : Int32) : Prop :=
  (((h0 1 7) ≤ 0) → (post (0 : Int32))) ∧ ((¬ (h0 1 7) ≤ 0) → (¬ (h0 1 7) = 0 ∧ (post (((100 : Int32) * x1) / (h0 1 7)))))
def wX4_lean_b17 (h0 : zz_H) (x2 : Int32) (K3 : Int32 × Int32 → Prop) (K6 : Int32 × Int32 → Prop) (x4 : Int32) (x5 : Int32) : Prop :=
  (((8 : Int32) ≤ x5) → (K3 (x4, (x2 + 1)))) ∧ ((¬ (8 : Int32) ≤ x5) → (wX0_leanIn 1 x2 x5 h0 (fun r7 => K6 ((x4 + r7), (x5 + 1)))))
def wX4_lean_b4 (h0 : zz_H) (post : Int32 → Prop) (K3 : Int32 × Int32 → Prop) (x1 : Int32) (x2 : Int32) : Prop :=
  (((h0 1 7) ≤ x2) → (wX4_lean_j47 h0 post x1)) ∧ ((¬ (h0 1 7) ≤ x2) → (∃ t9, zz_lp (fun K (s : Int32 × Int32) => wX4_lean_b17 h0 x2 K3 K s.1 s.2) t9 (x1, (0 : Int32))))
def wX4_lean (h0 : zz_H) (post : Int32 → Prop) : Prop :=
  ∃ t9, zz_lp (fun K (s : Int32 × Int32) => wX4_lean_b4 h0 post K s.1 s.2) t9 ((0 : Int32), (0 : Int32))
set_option maxRecDepth 20000 in
set_option maxHeartbeats 4000000 in
theorem ctX4_lean (h0 : zz_H) (post : Int32 → Prop) (hw : wX4_lean h0 post) : zz_Ct zz_C 2 yX4_lean cX4_lean 4 (some .int) [.ref 0] h0 (zz_pu h0 post) := by
  refine zz_ct (L := [.ref 0, .null, .null, .null]) (by decide +kernel) (Nat.le_of_ble_eq_true rfl) (fun ad q hq => hq) ?_
  show zz_Go zz_C 2 cX4_lean RX4 4 (some .int) (zz_pu h0 post) 0 [] [.ref 0, .null, .null, .null] h0
  unfold wX4_lean at hw
  refine zr_iconst dX4_lean_0 zqk_0 ?_
  refine zr_istore_n [.ref 0, .int (0 : Int32), .null, .null] dX4_lean_1 rfl (by decide) rfl rfl ?_
  refine zr_iconst dX4_lean_2 zqk_0 ?_
  refine zr_istore_n [.ref 0, .int (0 : Int32), .int (0 : Int32), .null] dX4_lean_3 rfl (by decide) rfl rfl ?_
  obtain ⟨t9, hw⟩ := hw
  have step4 : ∀ (K3 : Int32 × Int32 → Prop), (∀ (x1 : Int32) (x2 : Int32), K3 (x1, x2) → zz_Go zz_C 2 cX4_lean RX4 4 (some .int) (zz_pu h0 post) 4 [] [.ref 0, .int x1, .int x2, .null] h0) → ∀ (x1 : Int32) (x2 : Int32), wX4_lean_b4 h0 post K3 x1 x2 → zz_Go zz_C 2 cX4_lean RX4 4 (some .int) (zz_pu h0 post) 4 [] [.ref 0, .int x1, .int x2, .null] h0 := by
    intro K3 ih4 x1 x2 hw
    unfold wX4_lean_b4 at hw
    refine zr_iload_n dX4_lean_4 rfl rfl ?_
    refine zr_aload_n dX4_lean_5 rfl rfl ?_
    refine zr_getR zz_cX4 zz_C0 0 (by decide) rfl zf_X4_12 dX4_lean_6 ?_
    refine zr_getI zz_cX0 zz_C1 7 (by decide) rfl zf_X4_80 dX4_lean_9 ?_
    have j47 : wX4_lean_j47 h0 post x1 → zz_Go zz_C 2 cX4_lean RX4 4 (some .int) (zz_pu h0 post) 47 [] [.ref 0, .int x1, .null, .null] h0 := by
      intro hw
      unfold wX4_lean_j47 at hw
      refine zr_aload_n dX4_lean_47 rfl rfl ?_
      refine zr_getR zz_cX4 zz_C0 0 (by decide) rfl zf_X4_12 dX4_lean_48 ?_
      refine zr_getI zz_cX0 zz_C1 7 (by decide) rfl zf_X4_80 dX4_lean_51 ?_
      refine zr_if_le 72 dX4_lean_54 (by decide) (fun q => ?_) (fun q => ?_)
      · have hw := hw.1 q
        refine zr_iconst dX4_lean_72 zqk_0 ?_
        exact zr_ret rfl rfl dX4_lean_73 ⟨rfl, hw⟩
      · have hw := hw.2 q
        refine zr_bipush dX4_lean_57 zbk_100 ?_
        refine zr_iload_n dX4_lean_59 rfl rfl ?_
        refine zr_imul dX4_lean_60 ?_
        refine zr_aload_n dX4_lean_61 rfl rfl ?_
        refine zr_getR zz_cX4 zz_C0 0 (by decide) rfl zf_X4_12 dX4_lean_62 ?_
        refine zr_getI zz_cX0 zz_C1 7 (by decide) rfl zf_X4_80 dX4_lean_65 ?_
        obtain ⟨hne, hw⟩ := hw
        refine zr_idiv dX4_lean_68 hne ?_
        refine zr_goto 73 dX4_lean_69 (by decide) ?_
        exact zr_ret rfl rfl dX4_lean_73 ⟨rfl, hw⟩
    refine zr_icmp_ge 47 dX4_lean_12 (by decide) (fun q => ?_) (fun q => ?_)
    · have hw := hw.1 q
      refine zr_sub [.ref 0, .int x1, .null, .null] ⟨Or.inr rfl, ⟨Or.inr rfl, ⟨Or.inl rfl, ⟨Or.inl rfl, trivial⟩⟩⟩⟩ ?_
      exact j47 hw
    · have hw := hw.2 q
      refine zr_iconst dX4_lean_15 zqk_0 ?_
      refine zr_istore_n [.ref 0, .int x1, .int x2, .int (0 : Int32)] dX4_lean_16 rfl (by decide) rfl rfl ?_
      obtain ⟨t9, hw⟩ := hw
      have step17 : ∀ (K6 : Int32 × Int32 → Prop), (∀ (x4 : Int32) (x5 : Int32), K6 (x4, x5) → zz_Go zz_C 2 cX4_lean RX4 4 (some .int) (zz_pu h0 post) 17 [] [.ref 0, .int x4, .int x2, .int x5] h0) → ∀ (x4 : Int32) (x5 : Int32), wX4_lean_b17 h0 x2 K3 K6 x4 x5 → zz_Go zz_C 2 cX4_lean RX4 4 (some .int) (zz_pu h0 post) 17 [] [.ref 0, .int x4, .int x2, .int x5] h0 := by
        intro K6 ih17 x4 x5 hw
        unfold wX4_lean_b17 at hw
        refine zr_iload_n dX4_lean_17 rfl rfl ?_
        refine zr_bipush dX4_lean_18 zbk_8 ?_
        refine zr_icmp_ge 41 dX4_lean_20 (by decide) (fun q => ?_) (fun q => ?_)
        · have hw := hw.1 q
          refine zr_iinc (x2 + 1) [.ref 0, .int x4, .int (x2 + 1), .int x5] dX4_lean_41 rfl (zok_1 _) (by decide) rfl rfl ?_
          refine zr_goto 4 dX4_lean_44 (by decide) ?_
          refine zr_sub [.ref 0, .int x4, .int (x2 + 1), .null] ⟨Or.inr rfl, ⟨Or.inr rfl, ⟨Or.inr rfl, ⟨Or.inl rfl, trivial⟩⟩⟩⟩ ?_
          exact ih4 _ _ hw
        · have hw := hw.2 q
          refine zr_iload_n dX4_lean_23 rfl rfl ?_
          refine zr_aload_n dX4_lean_24 rfl rfl ?_
          refine zr_getR zz_cX4 zz_C0 0 (by decide) rfl zf_X4_12 dX4_lean_25 ?_
          refine zr_iload_n dX4_lean_28 rfl rfl ?_
          refine zr_iload_n dX4_lean_29 rfl rfl ?_
          refine zr_pVi zz_cX0 zz_C1 (ctX0_leanIn 1 x2 x5 (Or.inl rfl) h0 _ hw) zy_X0_leanIn zm_X4_200 (by decide) rfl rfl (Nat.le_of_ble_eq_true rfl) dX4_lean_30 (fun r7 hw => ?_)
          refine zr_iadd dX4_lean_33 ?_
          refine zr_istore_n [.ref 0, .int (x4 + r7), .int x2, .int x5] dX4_lean_34 rfl (by decide) rfl rfl ?_
          refine zr_iinc (x5 + 1) [.ref 0, .int (x4 + r7), .int x2, .int (x5 + 1)] dX4_lean_35 rfl (zok_1 _) (by decide) rfl rfl ?_
          refine zr_goto 17 dX4_lean_38 (by decide) ?_
          exact ih17 _ _ hw
      have key17 : ∀ (t9 : Nat) (x4 : Int32) (x5 : Int32), zz_lp (fun K (s : Int32 × Int32) => wX4_lean_b17 h0 x2 K3 K s.1 s.2) t9 (x4, x5) → zz_Go zz_C 2 cX4_lean RX4 4 (some .int) (zz_pu h0 post) 17 [] [.ref 0, .int x4, .int x2, .int x5] h0 := by
        intro t9
        induction t9 with
        | zero => intro x4 x5 hw; exact hw.elim
        | succ t9 ih => intro x4 x5 hw; exact step17 _ ih _ _ hw
      exact key17 t9 _ _ hw
  have key4 : ∀ (t9 : Nat) (x1 : Int32) (x2 : Int32), zz_lp (fun K (s : Int32 × Int32) => wX4_lean_b4 h0 post K s.1 s.2) t9 (x1, x2) → zz_Go zz_C 2 cX4_lean RX4 4 (some .int) (zz_pu h0 post) 4 [] [.ref 0, .int x1, .int x2, .null] h0 := by
    intro t9
    induction t9 with
    | zero => intro x1 x2 hw; exact hw.elim
    | succ t9 ih => intro x1 x2 hw; exact step4 _ ih _ _ hw
  exact key4 t9 _ _ hw
def wX4_right_b35 (p1 : Int32) (x3 : Int32) (K5 : Int32 × Int32 × zz_H → Prop) (K9 : Int32 × Int32 × zz_H → Prop) (x6 : Int32) (x7 : Int32) (h8 : zz_H) : Prop :=
  (((8 : Int32) ≤ x7) → (K5 (x6, (x3 + 1), h8))) ∧ ((¬ (8 : Int32) ≤ x7) → (wX0_leanIn 1 x3 x7 h8 (fun r10 => (((zz_abs r10) < p1) → (K9 (x6, (x7 + 1), h8))) ∧ ((¬ (zz_abs r10) < p1) → (wX4_spotOfPoint x3 x7 (1 : Int32) h8 (fun r11 => wX4_spotOfPoint x3 x7 (0 : Int32) h8 (fun r12 => vp_in r12 192 ∧ (vp_in r11 192 ∧ zz_sto h8 5 (upd (h8 5) r11.toNatClampNeg (h8 5 r12.toNatClampNeg)) (fun h13 => K9 ((x6 + 1), (x7 + 1), h13))))))))))
def wX4_right_b21 (p1 : Int32) (post : Int32 → zz_H → Prop) (K5 : Int32 × Int32 × zz_H → Prop) (x2 : Int32) (x3 : Int32) (h4 : zz_H) : Prop :=
  (((h4 1 7) ≤ x3) → (post x2 h4)) ∧ ((¬ (h4 1 7) ≤ x3) → (∃ t9, zz_lp (fun K (s : Int32 × Int32 × zz_H) => wX4_right_b35 p1 x3 K5 K s.1 s.2.1 s.2.2) t9 (x2, (0 : Int32), h4)))
def wX4_right (p1 : Int32) (h0 : zz_H) (post : Int32 → zz_H → Prop) : Prop :=
  wX4_within p1 (1 : Int32) (40 : Int32) h0 (fun r1 => ((¬ r1 = 0) → (∃ t9, zz_lp (fun K (s : Int32 × Int32 × zz_H) => wX4_right_b21 p1 post K s.1 s.2.1 s.2.2) t9 ((0 : Int32), (0 : Int32), h0))) ∧ ((r1 = 0) → (wX4_tell ((-1000001) : Int32) h0 (fun r15 h14 => post r15 h14))))
set_option maxRecDepth 20000 in
set_option maxHeartbeats 4000000 in
theorem ctX4_right (p1 : Int32) (h0 : zz_H) (post : Int32 → zz_H → Prop) (hw : wX4_right p1 h0 post) : zz_Ct zz_C 2 yX4_right cX4_right 5 (some .int) [.ref 0, .int p1] h0 post := by
  refine zz_ct (L := [.ref 0, .int p1, .null, .null, .null]) (by decide +kernel) (Nat.le_of_ble_eq_true rfl) (fun ad q hq => hq) ?_
  show zz_Go zz_C 2 cX4_right RX4 5 (some .int) post 0 [] [.ref 0, .int p1, .null, .null, .null] h0
  unfold wX4_right at hw
  refine zr_iload_n dX4_right_0 rfl rfl ?_
  refine zr_iconst dX4_right_1 zqk_1 ?_
  refine zr_bipush dX4_right_2 zbk_40 ?_
  refine zr_pSi (ctX4_within p1 (1 : Int32) (40 : Int32) h0 _ hw) zy_X4_within zm_X4_61 (by decide) rfl rfl (Nat.le_of_ble_eq_true rfl) dX4_right_4 (fun r1 hw => ?_)
  refine zr_if_ne 17 dX4_right_7 (by decide) (fun q => ?_) (fun q => ?_)
  · have hw := hw.1 q
    refine zr_iconst dX4_right_17 zqk_0 ?_
    refine zr_istore_n [.ref 0, .int p1, .int (0 : Int32), .null, .null] dX4_right_18 rfl (by decide) rfl rfl ?_
    refine zr_iconst dX4_right_19 zqk_0 ?_
    refine zr_istore_n [.ref 0, .int p1, .int (0 : Int32), .int (0 : Int32), .null] dX4_right_20 rfl (by decide) rfl rfl ?_
    obtain ⟨t9, hw⟩ := hw
    have step21 : ∀ (K5 : Int32 × Int32 × zz_H → Prop), (∀ (x2 : Int32) (x3 : Int32) (h4 : zz_H), K5 (x2, x3, h4) → zz_Go zz_C 2 cX4_right RX4 5 (some .int) post 21 [] [.ref 0, .int p1, .int x2, .int x3, .null] h4) → ∀ (x2 : Int32) (x3 : Int32) (h4 : zz_H), wX4_right_b21 p1 post K5 x2 x3 h4 → zz_Go zz_C 2 cX4_right RX4 5 (some .int) post 21 [] [.ref 0, .int p1, .int x2, .int x3, .null] h4 := by
      intro K5 ih21 x2 x3 h4 hw
      unfold wX4_right_b21 at hw
      refine zr_iload_n dX4_right_21 rfl rfl ?_
      refine zr_aload_n dX4_right_22 rfl rfl ?_
      refine zr_getR zz_cX4 zz_C0 0 (by decide) rfl zf_X4_12 dX4_right_23 ?_
      refine zr_getI zz_cX0 zz_C1 7 (by decide) rfl zf_X4_80 dX4_right_26 ?_
      refine zr_icmp_ge 104 dX4_right_29 (by decide) (fun q => ?_) (fun q => ?_)
      · have hw := hw.1 q
        refine zr_iload_n dX4_right_104 rfl rfl ?_
        exact zr_ret rfl rfl dX4_right_105 hw
      · have hw := hw.2 q
        refine zr_iconst dX4_right_32 zqk_0 ?_
        refine zr_istore [.ref 0, .int p1, .int x2, .int x3, .int (0 : Int32)] dX4_right_33 (by decide) rfl rfl ?_
        obtain ⟨t9, hw⟩ := hw
        have step35 : ∀ (K9 : Int32 × Int32 × zz_H → Prop), (∀ (x6 : Int32) (x7 : Int32) (h8 : zz_H), K9 (x6, x7, h8) → zz_Go zz_C 2 cX4_right RX4 5 (some .int) post 35 [] [.ref 0, .int p1, .int x6, .int x3, .int x7] h8) → ∀ (x6 : Int32) (x7 : Int32) (h8 : zz_H), wX4_right_b35 p1 x3 K5 K9 x6 x7 h8 → zz_Go zz_C 2 cX4_right RX4 5 (some .int) post 35 [] [.ref 0, .int p1, .int x6, .int x3, .int x7] h8 := by
          intro K9 ih35 x6 x7 h8 hw
          unfold wX4_right_b35 at hw
          refine zr_iload dX4_right_35 rfl ?_
          refine zr_bipush dX4_right_37 zbk_8 ?_
          refine zr_icmp_ge 98 dX4_right_39 (by decide) (fun q => ?_) (fun q => ?_)
          · have hw := hw.1 q
            refine zr_iinc (x3 + 1) [.ref 0, .int p1, .int x6, .int (x3 + 1), .int x7] dX4_right_98 rfl (zok_1 _) (by decide) rfl rfl ?_
            refine zr_goto 21 dX4_right_101 (by decide) ?_
            refine zr_sub [.ref 0, .int p1, .int x6, .int (x3 + 1), .null] ⟨Or.inr rfl, ⟨Or.inr rfl, ⟨Or.inr rfl, ⟨Or.inr rfl, ⟨Or.inl rfl, trivial⟩⟩⟩⟩⟩ ?_
            exact ih21 _ _ _ hw
          · have hw := hw.2 q
            refine zr_aload_n dX4_right_42 rfl rfl ?_
            refine zr_getR zz_cX4 zz_C0 0 (by decide) rfl zf_X4_12 dX4_right_43 ?_
            refine zr_iload_n dX4_right_46 rfl rfl ?_
            refine zr_iload dX4_right_47 rfl ?_
            refine zr_pVi zz_cX0 zz_C1 (ctX0_leanIn 1 x3 x7 (Or.inl rfl) h8 _ hw) zy_X0_leanIn zm_X4_200 (by decide) rfl rfl (Nat.le_of_ble_eq_true rfl) dX4_right_49 (fun r10 hw => ?_)
            refine zr_abs zm_X4_203 zt_Math_abs_name zn_J9 zc_Math_abs_name (by decide) (Nat.le_of_ble_eq_true rfl) dX4_right_52 ?_
            refine zr_iload_n dX4_right_55 rfl rfl ?_
            refine zr_icmp_lt 92 dX4_right_56 (by decide) (fun q => ?_) (fun q => ?_)
            · have hw := hw.1 q
              refine zr_iinc (x7 + 1) [.ref 0, .int p1, .int x6, .int x3, .int (x7 + 1)] dX4_right_92 rfl (zok_1 _) (by decide) rfl rfl ?_
              refine zr_goto 35 dX4_right_95 (by decide) ?_
              exact ih35 _ _ _ hw
            · have hw := hw.2 q
              refine zr_aload_n dX4_right_59 rfl rfl ?_
              refine zr_getR zz_cX4 zz_C0 0 (by decide) rfl zf_X4_12 dX4_right_60 ?_
              refine zr_getR zz_cX0 zz_C1 3 (by decide) rfl zf_X4_98 dX4_right_63 ?_
              refine zr_iload_n dX4_right_66 rfl rfl ?_
              refine zr_iload dX4_right_67 rfl ?_
              refine zr_iconst dX4_right_69 zqk_1 ?_
              refine zr_pSi (ctX4_spotOfPoint x3 x7 (1 : Int32) h8 _ hw) zy_X4_spotOfPoint zm_X4_94 (by decide) rfl rfl (Nat.le_of_ble_eq_true rfl) dX4_right_70 (fun r11 hw => ?_)
              refine zr_aload_n dX4_right_73 rfl rfl ?_
              refine zr_getR zz_cX4 zz_C0 0 (by decide) rfl zf_X4_12 dX4_right_74 ?_
              refine zr_getR zz_cX0 zz_C1 3 (by decide) rfl zf_X4_98 dX4_right_77 ?_
              refine zr_iload_n dX4_right_80 rfl rfl ?_
              refine zr_iload dX4_right_81 rfl ?_
              refine zr_iconst dX4_right_83 zqk_0 ?_
              refine zr_pSi (ctX4_spotOfPoint x3 x7 (0 : Int32) h8 _ hw) zy_X4_spotOfPoint zm_X4_94 (by decide) rfl rfl (Nat.le_of_ble_eq_true rfl) dX4_right_84 (fun r12 hw => ?_)
              obtain ⟨hi, hw⟩ := hw
              refine zr_iald zz_C5 hi rfl dX4_right_87 ?_
              obtain ⟨hi, hw⟩ := hw
              refine zr_iast zz_C5 hi rfl dX4_right_88 hw (fun h13 hw => ?_)
              refine zr_iinc (x6 + 1) [.ref 0, .int p1, .int (x6 + 1), .int x3, .int x7] dX4_right_89 rfl (zok_1 _) (by decide) rfl rfl ?_
              refine zr_iinc (x7 + 1) [.ref 0, .int p1, .int (x6 + 1), .int x3, .int (x7 + 1)] dX4_right_92 rfl (zok_1 _) (by decide) rfl rfl ?_
              refine zr_goto 35 dX4_right_95 (by decide) ?_
              exact ih35 _ _ _ hw
        have key35 : ∀ (t9 : Nat) (x6 : Int32) (x7 : Int32) (h8 : zz_H), zz_lp (fun K (s : Int32 × Int32 × zz_H) => wX4_right_b35 p1 x3 K5 K s.1 s.2.1 s.2.2) t9 (x6, x7, h8) → zz_Go zz_C 2 cX4_right RX4 5 (some .int) post 35 [] [.ref 0, .int p1, .int x6, .int x3, .int x7] h8 := by
          intro t9
          induction t9 with
          | zero => intro x6 x7 h8 hw; exact hw.elim
          | succ t9 ih => intro x6 x7 h8 hw; exact step35 _ ih _ _ _ hw
        exact key35 t9 _ _ _ hw
    have key21 : ∀ (t9 : Nat) (x2 : Int32) (x3 : Int32) (h4 : zz_H), zz_lp (fun K (s : Int32 × Int32 × zz_H) => wX4_right_b21 p1 post K s.1 s.2.1 s.2.2) t9 (x2, x3, h4) → zz_Go zz_C 2 cX4_right RX4 5 (some .int) post 21 [] [.ref 0, .int p1, .int x2, .int x3, .null] h4 := by
      intro t9
      induction t9 with
      | zero => intro x2 x3 h4 hw; exact hw.elim
      | succ t9 ih => intro x2 x3 h4 hw; exact step21 _ ih _ _ _ hw
    exact key21 t9 _ _ _ hw
  · have hw := hw.2 q
    refine zr_aload_n dX4_right_10 rfl rfl ?_
    refine zr_ldc zk_X4_65 dX4_right_11 ?_
    refine zr_callVi zz_cX4 zz_C0 (ctX4_tell ((-1000001) : Int32) h0 _ hw) zy_X4_tell zm_X4_66 (by decide) rfl rfl (Nat.le_of_ble_eq_true rfl) dX4_right_13 (fun r15 h14 hw => ?_)
    exact zr_ret rfl rfl dX4_right_16 hw
def wX4_unlike_j81 (p1 : Int32) (h0 : zz_H) (post : Int32 → zz_H → Prop) (x2 : Int32) (x3 : Int32) : Prop :=
  ((¬ p1 = 0) → (post x3 h0)) ∧ ((p1 = 0) → (post x2 h0))
def wX4_unlike_b40 (p1 : Int32) (h0 : zz_H) (post : Int32 → zz_H → Prop) (K5 : Int32 × Int32 × Int32 → Prop) (x2 : Int32) (x3 : Int32) (x4 : Int32) : Prop :=
  (((h0 1 7) ≤ x4) → (wX4_unlike_j81 p1 h0 post x2 x3)) ∧ ((¬ (h0 1 7) ≤ x4) → (wX0_markersApart 1 x4 h0 (fun r6 => ((r6 ≤ x3) → (K5 (x2, x3, (x4 + 1)))) ∧ ((¬ r6 ≤ x3) → (K5 (x4, r6, (x4 + 1)))))))
def wX4_unlike (p1 : Int32) (h0 : zz_H) (post : Int32 → zz_H → Prop) : Prop :=
  wX4_within p1 (0 : Int32) (1 : Int32) h0 (fun r1 => ((¬ r1 = 0) → (((¬ (h0 1 7) = 0) → (∃ t9, zz_lp (fun K (s : Int32 × Int32 × Int32) => wX4_unlike_b40 p1 h0 post K s.1 s.2.1 s.2.2) t9 ((0 : Int32), ((-1) : Int32), (0 : Int32)))) ∧ (((h0 1 7) = 0) → (wX4_tell ((-1000004) : Int32) h0 (fun r8 h7 => post r8 h7))))) ∧ ((r1 = 0) → (wX4_tell ((-1000001) : Int32) h0 (fun r10 h9 => post r10 h9))))
set_option maxRecDepth 20000 in
set_option maxHeartbeats 4000000 in
theorem ctX4_unlike (p1 : Int32) (h0 : zz_H) (post : Int32 → zz_H → Prop) (hw : wX4_unlike p1 h0 post) : zz_Ct zz_C 3 yX4_unlike cX4_unlike 6 (some .int) [.ref 0, .int p1] h0 post := by
  refine zz_ct (L := [.ref 0, .int p1, .null, .null, .null, .null]) (by decide +kernel) (Nat.le_of_ble_eq_true rfl) (fun ad q hq => hq) ?_
  show zz_Go zz_C 3 cX4_unlike RX4 6 (some .int) post 0 [] [.ref 0, .int p1, .null, .null, .null, .null] h0
  unfold wX4_unlike at hw
  refine zr_iload_n dX4_unlike_0 rfl rfl ?_
  refine zr_iconst dX4_unlike_1 zqk_0 ?_
  refine zr_iconst dX4_unlike_2 zqk_1 ?_
  refine zr_pSi (ctX4_within p1 (0 : Int32) (1 : Int32) h0 _ hw) zy_X4_within zm_X4_61 (by decide) rfl rfl (Nat.le_of_ble_eq_true rfl) dX4_unlike_3 (fun r1 hw => ?_)
  refine zr_if_ne 16 dX4_unlike_6 (by decide) (fun q => ?_) (fun q => ?_)
  · have hw := hw.1 q
    refine zr_aload_n dX4_unlike_16 rfl rfl ?_
    refine zr_getR zz_cX4 zz_C0 0 (by decide) rfl zf_X4_12 dX4_unlike_17 ?_
    refine zr_getI zz_cX0 zz_C1 7 (by decide) rfl zf_X4_80 dX4_unlike_20 ?_
    refine zr_if_ne 33 dX4_unlike_23 (by decide) (fun q => ?_) (fun q => ?_)
    · have hw := hw.1 q
      refine zr_iconst dX4_unlike_33 zqk_0 ?_
      refine zr_istore_n [.ref 0, .int p1, .int (0 : Int32), .null, .null, .null] dX4_unlike_34 rfl (by decide) rfl rfl ?_
      refine zr_iconst dX4_unlike_35 zqk_m1 ?_
      refine zr_istore_n [.ref 0, .int p1, .int (0 : Int32), .int ((-1) : Int32), .null, .null] dX4_unlike_36 rfl (by decide) rfl rfl ?_
      refine zr_iconst dX4_unlike_37 zqk_0 ?_
      refine zr_istore [.ref 0, .int p1, .int (0 : Int32), .int ((-1) : Int32), .int (0 : Int32), .null] dX4_unlike_38 (by decide) rfl rfl ?_
      obtain ⟨t9, hw⟩ := hw
      have step40 : ∀ (K5 : Int32 × Int32 × Int32 → Prop), (∀ (x2 : Int32) (x3 : Int32) (x4 : Int32), K5 (x2, x3, x4) → zz_Go zz_C 3 cX4_unlike RX4 6 (some .int) post 40 [] [.ref 0, .int p1, .int x2, .int x3, .int x4, .null] h0) → ∀ (x2 : Int32) (x3 : Int32) (x4 : Int32), wX4_unlike_b40 p1 h0 post K5 x2 x3 x4 → zz_Go zz_C 3 cX4_unlike RX4 6 (some .int) post 40 [] [.ref 0, .int p1, .int x2, .int x3, .int x4, .null] h0 := by
        intro K5 ih40 x2 x3 x4 hw
        unfold wX4_unlike_b40 at hw
        refine zr_iload dX4_unlike_40 rfl ?_
        refine zr_aload_n dX4_unlike_42 rfl rfl ?_
        refine zr_getR zz_cX4 zz_C0 0 (by decide) rfl zf_X4_12 dX4_unlike_43 ?_
        refine zr_getI zz_cX0 zz_C1 7 (by decide) rfl zf_X4_80 dX4_unlike_46 ?_
        have j81 : wX4_unlike_j81 p1 h0 post x2 x3 → zz_Go zz_C 3 cX4_unlike RX4 6 (some .int) post 81 [] [.null, .int p1, .int x2, .int x3, .null, .null] h0 := by
          intro hw
          unfold wX4_unlike_j81 at hw
          refine zr_iload_n dX4_unlike_81 rfl rfl ?_
          refine zr_if_ne 89 dX4_unlike_82 (by decide) (fun q => ?_) (fun q => ?_)
          · have hw := hw.1 q
            refine zr_iload_n dX4_unlike_89 rfl rfl ?_
            exact zr_ret rfl rfl dX4_unlike_90 hw
          · have hw := hw.2 q
            refine zr_iload_n dX4_unlike_85 rfl rfl ?_
            refine zr_goto 90 dX4_unlike_86 (by decide) ?_
            exact zr_ret rfl rfl dX4_unlike_90 hw
        refine zr_icmp_ge 81 dX4_unlike_49 (by decide) (fun q => ?_) (fun q => ?_)
        · have hw := hw.1 q
          refine zr_sub [.null, .int p1, .int x2, .int x3, .null, .null] ⟨Or.inl rfl, ⟨Or.inr rfl, ⟨Or.inr rfl, ⟨Or.inr rfl, ⟨Or.inl rfl, ⟨Or.inl rfl, trivial⟩⟩⟩⟩⟩⟩ ?_
          exact j81 hw
        · have hw := hw.2 q
          refine zr_aload_n dX4_unlike_52 rfl rfl ?_
          refine zr_getR zz_cX4 zz_C0 0 (by decide) rfl zf_X4_12 dX4_unlike_53 ?_
          refine zr_iload dX4_unlike_56 rfl ?_
          refine zr_pVi zz_cX0 zz_C1 (ctX0_markersApart 1 x4 (Or.inl rfl) h0 _ hw) zy_X0_markersApart zm_X4_206 (by decide) rfl rfl (Nat.le_of_ble_eq_true rfl) dX4_unlike_58 (fun r6 hw => ?_)
          refine zr_istore [.ref 0, .int p1, .int x2, .int x3, .int x4, .int r6] dX4_unlike_61 (by decide) rfl rfl ?_
          refine zr_iload dX4_unlike_63 rfl ?_
          refine zr_iload_n dX4_unlike_65 rfl rfl ?_
          refine zr_icmp_le 75 dX4_unlike_66 (by decide) (fun q => ?_) (fun q => ?_)
          · have hw := hw.1 q
            refine zr_iinc (x4 + 1) [.ref 0, .int p1, .int x2, .int x3, .int (x4 + 1), .int r6] dX4_unlike_75 rfl (zok_1 _) (by decide) rfl rfl ?_
            refine zr_goto 40 dX4_unlike_78 (by decide) ?_
            refine zr_sub [.ref 0, .int p1, .int x2, .int x3, .int (x4 + 1), .null] ⟨Or.inr rfl, ⟨Or.inr rfl, ⟨Or.inr rfl, ⟨Or.inr rfl, ⟨Or.inr rfl, ⟨Or.inl rfl, trivial⟩⟩⟩⟩⟩⟩ ?_
            exact ih40 _ _ _ hw
          · have hw := hw.2 q
            refine zr_iload dX4_unlike_69 rfl ?_
            refine zr_istore_n [.ref 0, .int p1, .int x2, .int r6, .int x4, .int r6] dX4_unlike_71 rfl (by decide) rfl rfl ?_
            refine zr_iload dX4_unlike_72 rfl ?_
            refine zr_istore_n [.ref 0, .int p1, .int x4, .int r6, .int x4, .int r6] dX4_unlike_74 rfl (by decide) rfl rfl ?_
            refine zr_iinc (x4 + 1) [.ref 0, .int p1, .int x4, .int r6, .int (x4 + 1), .int r6] dX4_unlike_75 rfl (zok_1 _) (by decide) rfl rfl ?_
            refine zr_goto 40 dX4_unlike_78 (by decide) ?_
            refine zr_sub [.ref 0, .int p1, .int x4, .int r6, .int (x4 + 1), .null] ⟨Or.inr rfl, ⟨Or.inr rfl, ⟨Or.inr rfl, ⟨Or.inr rfl, ⟨Or.inr rfl, ⟨Or.inl rfl, trivial⟩⟩⟩⟩⟩⟩ ?_
            exact ih40 _ _ _ hw
      have key40 : ∀ (t9 : Nat) (x2 : Int32) (x3 : Int32) (x4 : Int32), zz_lp (fun K (s : Int32 × Int32 × Int32) => wX4_unlike_b40 p1 h0 post K s.1 s.2.1 s.2.2) t9 (x2, x3, x4) → zz_Go zz_C 3 cX4_unlike RX4 6 (some .int) post 40 [] [.ref 0, .int p1, .int x2, .int x3, .int x4, .null] h0 := by
        intro t9
        induction t9 with
        | zero => intro x2 x3 x4 hw; exact hw.elim
        | succ t9 ih => intro x2 x3 x4 hw; exact step40 _ ih _ _ _ hw
      exact key40 t9 _ _ _ hw
    · have hw := hw.2 q
      refine zr_aload_n dX4_unlike_26 rfl rfl ?_
      refine zr_ldc zk_X4_111 dX4_unlike_27 ?_
      refine zr_callVi zz_cX4 zz_C0 (ctX4_tell ((-1000004) : Int32) h0 _ hw) zy_X4_tell zm_X4_66 (by decide) rfl rfl (Nat.le_of_ble_eq_true rfl) dX4_unlike_29 (fun r8 h7 hw => ?_)
      exact zr_ret rfl rfl dX4_unlike_32 hw
  · have hw := hw.2 q
    refine zr_aload_n dX4_unlike_9 rfl rfl ?_
    refine zr_ldc zk_X4_65 dX4_unlike_10 ?_
    refine zr_callVi zz_cX4 zz_C0 (ctX4_tell ((-1000001) : Int32) h0 _ hw) zy_X4_tell zm_X4_66 (by decide) rfl rfl (Nat.le_of_ble_eq_true rfl) dX4_unlike_12 (fun r10 h9 hw => ?_)
    exact zr_ret rfl rfl dX4_unlike_15 hw
def wX4_counts (p1 : Int32) (h0 : zz_H) (post : Int32 → zz_H → Prop) : Prop :=
  wX4_isQuestion p1 h0 (fun r1 => ((¬ r1 = 0) → (wX1_read 1 h0 (fun _ h2 => wX1_spreadIn p1 h2 (fun r3 => post r3 h2)))) ∧ ((r1 = 0) → (wX4_tell ((-1000001) : Int32) h0 (fun r5 h4 => post r5 h4))))
set_option maxRecDepth 20000 in
set_option maxHeartbeats 4000000 in
theorem ctX4_counts (p1 : Int32) (h0 : zz_H) (post : Int32 → zz_H → Prop) (hw : wX4_counts p1 h0 post) : zz_Ct zz_C 3 yX4_counts cX4_counts 2 (some .int) [.ref 0, .int p1] h0 post := by
  refine zz_ct (L := [.ref 0, .int p1]) (by decide +kernel) (Nat.le_of_ble_eq_true rfl) (fun ad q hq => hq) ?_
  show zz_Go zz_C 3 cX4_counts RX4 2 (some .int) post 0 [] [.ref 0, .int p1] h0
  unfold wX4_counts at hw
  refine zr_iload_n dX4_counts_0 rfl rfl ?_
  refine zr_pSi (ctX4_isQuestion p1 h0 _ hw) zy_X4_isQuestion zm_X4_57 (by decide) rfl rfl (Nat.le_of_ble_eq_true rfl) dX4_counts_1 (fun r1 hw => ?_)
  refine zr_if_ne 14 dX4_counts_4 (by decide) (fun q => ?_) (fun q => ?_)
  · have hw := hw.1 q
    refine zr_aload_n dX4_counts_14 rfl rfl ?_
    refine zr_getR zz_cX4 zz_C0 3 (by decide) rfl zf_X4_25 dX4_counts_15 ?_
    refine zr_aload_n dX4_counts_18 rfl rfl ?_
    refine zr_getR zz_cX4 zz_C0 0 (by decide) rfl zf_X4_12 dX4_counts_19 ?_
    refine zr_callVv zz_cX1 zz_C25 (ctX1_read 1 (Or.inl rfl) h0 _ hw) zy_X1_read zm_X4_112 (by decide) rfl rfl (Nat.le_of_ble_eq_true rfl) dX4_counts_22 (fun h2 hw => ?_)
    refine zr_aload_n dX4_counts_25 rfl rfl ?_
    refine zr_getR zz_cX4 zz_C0 3 (by decide) rfl zf_X4_25 dX4_counts_26 ?_
    refine zr_iload_n dX4_counts_29 rfl rfl ?_
    refine zr_pVi zz_cX1 zz_C25 (ctX1_spreadIn p1 h2 _ hw) zy_X1_spreadIn zm_X4_209 (by decide) rfl rfl (Nat.le_of_ble_eq_true rfl) dX4_counts_30 (fun r3 hw => ?_)
    exact zr_ret rfl rfl dX4_counts_33 hw
  · have hw := hw.2 q
    refine zr_aload_n dX4_counts_7 rfl rfl ?_
    refine zr_ldc zk_X4_65 dX4_counts_8 ?_
    refine zr_callVi zz_cX4 zz_C0 (ctX4_tell ((-1000001) : Int32) h0 _ hw) zy_X4_tell zm_X4_66 (by decide) rfl rfl (Nat.le_of_ble_eq_true rfl) dX4_counts_10 (fun r5 h4 hw => ?_)
    exact zr_ret rfl rfl dX4_counts_13 hw
def wX4_heavy_b17 (post : Int32 → zz_H → Prop) (h1 : zz_H) (K5 : Int32 × Int32 × Int32 → Prop) (x2 : Int32) (x3 : Int32) (x4 : Int32) : Prop :=
  (((8 : Int32) ≤ x4) → (post x2 h1)) ∧ ((¬ (8 : Int32) ≤ x4) → (wX1_spreadIn x4 h1 (fun r6 => ((r6 ≤ x3) → (K5 (x2, x3, (x4 + 1)))) ∧ ((¬ r6 ≤ x3) → (K5 (x4, r6, (x4 + 1)))))))
def wX4_heavy (h0 : zz_H) (post : Int32 → zz_H → Prop) : Prop :=
  wX1_read 1 h0 (fun _ h1 => ∃ t9, zz_lp (fun K (s : Int32 × Int32 × Int32) => wX4_heavy_b17 post h1 K s.1 s.2.1 s.2.2) t9 ((0 : Int32), ((-1) : Int32), (0 : Int32)))
set_option maxRecDepth 20000 in
set_option maxHeartbeats 4000000 in
theorem ctX4_heavy (h0 : zz_H) (post : Int32 → zz_H → Prop) (hw : wX4_heavy h0 post) : zz_Ct zz_C 3 yX4_heavy cX4_heavy 5 (some .int) [.ref 0] h0 post := by
  refine zz_ct (L := [.ref 0, .null, .null, .null, .null]) (by decide +kernel) (Nat.le_of_ble_eq_true rfl) (fun ad q hq => hq) ?_
  show zz_Go zz_C 3 cX4_heavy RX4 5 (some .int) post 0 [] [.ref 0, .null, .null, .null, .null] h0
  unfold wX4_heavy at hw
  refine zr_aload_n dX4_heavy_0 rfl rfl ?_
  refine zr_getR zz_cX4 zz_C0 3 (by decide) rfl zf_X4_25 dX4_heavy_1 ?_
  refine zr_aload_n dX4_heavy_4 rfl rfl ?_
  refine zr_getR zz_cX4 zz_C0 0 (by decide) rfl zf_X4_12 dX4_heavy_5 ?_
  refine zr_callVv zz_cX1 zz_C25 (ctX1_read 1 (Or.inl rfl) h0 _ hw) zy_X1_read zm_X4_112 (by decide) rfl rfl (Nat.le_of_ble_eq_true rfl) dX4_heavy_8 (fun h1 hw => ?_)
  refine zr_iconst dX4_heavy_11 zqk_0 ?_
  refine zr_istore_n [.ref 0, .int (0 : Int32), .null, .null, .null] dX4_heavy_12 rfl (by decide) rfl rfl ?_
  refine zr_iconst dX4_heavy_13 zqk_m1 ?_
  refine zr_istore_n [.ref 0, .int (0 : Int32), .int ((-1) : Int32), .null, .null] dX4_heavy_14 rfl (by decide) rfl rfl ?_
  refine zr_iconst dX4_heavy_15 zqk_0 ?_
  refine zr_istore_n [.ref 0, .int (0 : Int32), .int ((-1) : Int32), .int (0 : Int32), .null] dX4_heavy_16 rfl (by decide) rfl rfl ?_
  obtain ⟨t9, hw⟩ := hw
  have step17 : ∀ (K5 : Int32 × Int32 × Int32 → Prop), (∀ (x2 : Int32) (x3 : Int32) (x4 : Int32), K5 (x2, x3, x4) → zz_Go zz_C 3 cX4_heavy RX4 5 (some .int) post 17 [] [.ref 0, .int x2, .int x3, .int x4, .null] h1) → ∀ (x2 : Int32) (x3 : Int32) (x4 : Int32), wX4_heavy_b17 post h1 K5 x2 x3 x4 → zz_Go zz_C 3 cX4_heavy RX4 5 (some .int) post 17 [] [.ref 0, .int x2, .int x3, .int x4, .null] h1 := by
    intro K5 ih17 x2 x3 x4 hw
    unfold wX4_heavy_b17 at hw
    refine zr_iload_n dX4_heavy_17 rfl rfl ?_
    refine zr_bipush dX4_heavy_18 zbk_8 ?_
    refine zr_icmp_ge 50 dX4_heavy_20 (by decide) (fun q => ?_) (fun q => ?_)
    · have hw := hw.1 q
      refine zr_iload_n dX4_heavy_50 rfl rfl ?_
      exact zr_ret rfl rfl dX4_heavy_51 hw
    · have hw := hw.2 q
      refine zr_aload_n dX4_heavy_23 rfl rfl ?_
      refine zr_getR zz_cX4 zz_C0 3 (by decide) rfl zf_X4_25 dX4_heavy_24 ?_
      refine zr_iload_n dX4_heavy_27 rfl rfl ?_
      refine zr_pVi zz_cX1 zz_C25 (ctX1_spreadIn x4 h1 _ hw) zy_X1_spreadIn zm_X4_209 (by decide) rfl rfl (Nat.le_of_ble_eq_true rfl) dX4_heavy_28 (fun r6 hw => ?_)
      refine zr_istore [.ref 0, .int x2, .int x3, .int x4, .int r6] dX4_heavy_31 (by decide) rfl rfl ?_
      refine zr_iload dX4_heavy_33 rfl ?_
      refine zr_iload_n dX4_heavy_35 rfl rfl ?_
      refine zr_icmp_le 44 dX4_heavy_36 (by decide) (fun q => ?_) (fun q => ?_)
      · have hw := hw.1 q
        refine zr_iinc (x4 + 1) [.ref 0, .int x2, .int x3, .int (x4 + 1), .int r6] dX4_heavy_44 rfl (zok_1 _) (by decide) rfl rfl ?_
        refine zr_goto 17 dX4_heavy_47 (by decide) ?_
        refine zr_sub [.ref 0, .int x2, .int x3, .int (x4 + 1), .null] ⟨Or.inr rfl, ⟨Or.inr rfl, ⟨Or.inr rfl, ⟨Or.inr rfl, ⟨Or.inl rfl, trivial⟩⟩⟩⟩⟩ ?_
        exact ih17 _ _ _ hw
      · have hw := hw.2 q
        refine zr_iload dX4_heavy_39 rfl ?_
        refine zr_istore_n [.ref 0, .int x2, .int r6, .int x4, .int r6] dX4_heavy_41 rfl (by decide) rfl rfl ?_
        refine zr_iload_n dX4_heavy_42 rfl rfl ?_
        refine zr_istore_n [.ref 0, .int x4, .int r6, .int x4, .int r6] dX4_heavy_43 rfl (by decide) rfl rfl ?_
        refine zr_iinc (x4 + 1) [.ref 0, .int x4, .int r6, .int (x4 + 1), .int r6] dX4_heavy_44 rfl (zok_1 _) (by decide) rfl rfl ?_
        refine zr_goto 17 dX4_heavy_47 (by decide) ?_
        refine zr_sub [.ref 0, .int x4, .int r6, .int (x4 + 1), .null] ⟨Or.inr rfl, ⟨Or.inr rfl, ⟨Or.inr rfl, ⟨Or.inr rfl, ⟨Or.inl rfl, trivial⟩⟩⟩⟩⟩ ?_
        exact ih17 _ _ _ hw
  have key17 : ∀ (t9 : Nat) (x2 : Int32) (x3 : Int32) (x4 : Int32), zz_lp (fun K (s : Int32 × Int32 × Int32) => wX4_heavy_b17 post h1 K s.1 s.2.1 s.2.2) t9 (x2, x3, x4) → zz_Go zz_C 3 cX4_heavy RX4 5 (some .int) post 17 [] [.ref 0, .int x2, .int x3, .int x4, .null] h1 := by
    intro t9
    induction t9 with
    | zero => intro x2 x3 x4 hw; exact hw.elim
    | succ t9 ih => intro x2 x3 x4 hw; exact step17 _ ih _ _ _ hw
  exact key17 t9 _ _ _ hw
def wX4_seed (p1 : Int32) (h0 : zz_H) (post : Int32 → zz_H → Prop) : Prop :=
  zz_sto h0 1 (upd (h0 1) 9 p1) (fun h1 => post (h0 1 9) h1)
set_option maxRecDepth 20000 in
set_option maxHeartbeats 4000000 in
theorem ctX4_seed (p1 : Int32) (h0 : zz_H) (post : Int32 → zz_H → Prop) (hw : wX4_seed p1 h0 post) : zz_Ct zz_C 0 yX4_seed cX4_seed 3 (some .int) [.ref 0, .int p1] h0 post := by
  refine zz_ct (L := [.ref 0, .int p1, .null]) (by decide +kernel) (Nat.le_of_ble_eq_true rfl) (fun ad q hq => hq) ?_
  show zz_Go zz_C 0 cX4_seed RX4 3 (some .int) post 0 [] [.ref 0, .int p1, .null] h0
  unfold wX4_seed at hw
  refine zr_aload_n dX4_seed_0 rfl rfl ?_
  refine zr_getR zz_cX4 zz_C0 0 (by decide) rfl zf_X4_12 dX4_seed_1 ?_
  refine zr_getI zz_cX0 zz_C1 9 (by decide) rfl zf_X4_212 dX4_seed_4 ?_
  refine zr_istore_n [.ref 0, .int p1, .int (h0 1 9)] dX4_seed_7 rfl (by decide) rfl rfl ?_
  refine zr_aload_n dX4_seed_8 rfl rfl ?_
  refine zr_getR zz_cX4 zz_C0 0 (by decide) rfl zf_X4_12 dX4_seed_9 ?_
  refine zr_iload_n dX4_seed_12 rfl rfl ?_
  refine zr_putI zz_cX0 zz_C1 9 (by decide) rfl rfl rfl rfl rfl zf_X4_212 dX4_seed_13 hw (fun h1 hw => ?_)
  refine zr_iload_n dX4_seed_16 rfl rfl ?_
  exact zr_ret rfl rfl dX4_seed_17 hw
def wX4_feed_b41 (p1 : Int32) (post : Int32 → zz_H → Prop) (K4 : Int32 × zz_H → Prop) (x2 : Int32) (h3 : zz_H) : Prop :=
  ((x2 < 0) → (post (h3 29 1) h3)) ∧ ((¬ x2 < 0) → (wX3_add (zz_ushr p1 ((8 : Int32) * x2)) h3 (fun _ h5 => K4 ((x2 + (-1)), h5))))
def wX4_feed (p1 : Int32) (p2 : Int32) (h0 : zz_H) (post : Int32 → zz_H → Prop) : Prop :=
  wX4_within p2 (1 : Int32) (4 : Int32) h0 (fun r1 => ((¬ r1 = 0) → (((((h0 29 1) + p2) ≤ (120 : Int32)) → (∃ t9, zz_lp (fun K (s : Int32 × zz_H) => wX4_feed_b41 p1 post K s.1 s.2) t9 ((p2 - (1 : Int32)), h0))) ∧ ((¬ ((h0 29 1) + p2) ≤ (120 : Int32)) → (wX4_tell ((-1000002) : Int32) h0 (fun r7 h6 => post r7 h6))))) ∧ ((r1 = 0) → (wX4_tell ((-1000001) : Int32) h0 (fun r9 h8 => post r9 h8))))
set_option maxRecDepth 20000 in
set_option maxHeartbeats 4000000 in
theorem ctX4_feed (p1 : Int32) (p2 : Int32) (h0 : zz_H) (post : Int32 → zz_H → Prop) (hw : wX4_feed p1 p2 h0 post) : zz_Ct zz_C 2 yX4_feed cX4_feed 4 (some .int) [.ref 0, .int p1, .int p2] h0 post := by
  refine zz_ct (L := [.ref 0, .int p1, .int p2, .null]) (by decide +kernel) (Nat.le_of_ble_eq_true rfl) (fun ad q hq => hq) ?_
  show zz_Go zz_C 2 cX4_feed RX4 4 (some .int) post 0 [] [.ref 0, .int p1, .int p2, .null] h0
  unfold wX4_feed at hw
  refine zr_iload_n dX4_feed_0 rfl rfl ?_
  refine zr_iconst dX4_feed_1 zqk_1 ?_
  refine zr_iconst dX4_feed_2 zqk_4 ?_
  refine zr_pSi (ctX4_within p2 (1 : Int32) (4 : Int32) h0 _ hw) zy_X4_within zm_X4_61 (by decide) rfl rfl (Nat.le_of_ble_eq_true rfl) dX4_feed_3 (fun r1 hw => ?_)
  refine zr_if_ne 16 dX4_feed_6 (by decide) (fun q => ?_) (fun q => ?_)
  · have hw := hw.1 q
    refine zr_aload_n dX4_feed_16 rfl rfl ?_
    refine zr_getR zz_cX4 zz_C0 4 (by decide) rfl zf_X4_32 dX4_feed_17 ?_
    refine zr_getI zz_cX3 zz_C29 1 (by decide) rfl zf_X4_215 dX4_feed_20 ?_
    refine zr_iload_n dX4_feed_23 rfl rfl ?_
    refine zr_iadd dX4_feed_24 ?_
    refine zr_bipush dX4_feed_25 zbk_120 ?_
    refine zr_icmp_le 37 dX4_feed_27 (by decide) (fun q => ?_) (fun q => ?_)
    · have hw := hw.1 q
      refine zr_iload_n dX4_feed_37 rfl rfl ?_
      refine zr_iconst dX4_feed_38 zqk_1 ?_
      refine zr_isub dX4_feed_39 ?_
      refine zr_istore_n [.ref 0, .int p1, .int p2, .int (p2 - (1 : Int32))] dX4_feed_40 rfl (by decide) rfl rfl ?_
      refine zr_sub [.ref 0, .int p1, .null, .int (p2 - (1 : Int32))] ⟨Or.inr rfl, ⟨Or.inr rfl, ⟨Or.inl rfl, ⟨Or.inr rfl, trivial⟩⟩⟩⟩ ?_
      obtain ⟨t9, hw⟩ := hw
      have step41 : ∀ (K4 : Int32 × zz_H → Prop), (∀ (x2 : Int32) (h3 : zz_H), K4 (x2, h3) → zz_Go zz_C 2 cX4_feed RX4 4 (some .int) post 41 [] [.ref 0, .int p1, .null, .int x2] h3) → ∀ (x2 : Int32) (h3 : zz_H), wX4_feed_b41 p1 post K4 x2 h3 → zz_Go zz_C 2 cX4_feed RX4 4 (some .int) post 41 [] [.ref 0, .int p1, .null, .int x2] h3 := by
        intro K4 ih41 x2 h3 hw
        unfold wX4_feed_b41 at hw
        refine zr_iload_n dX4_feed_41 rfl rfl ?_
        refine zr_if_lt 64 dX4_feed_42 (by decide) (fun q => ?_) (fun q => ?_)
        · have hw := hw.1 q
          refine zr_aload_n dX4_feed_64 rfl rfl ?_
          refine zr_getR zz_cX4 zz_C0 4 (by decide) rfl zf_X4_32 dX4_feed_65 ?_
          refine zr_getI zz_cX3 zz_C29 1 (by decide) rfl zf_X4_215 dX4_feed_68 ?_
          exact zr_ret rfl rfl dX4_feed_71 hw
        · have hw := hw.2 q
          refine zr_aload_n dX4_feed_45 rfl rfl ?_
          refine zr_getR zz_cX4 zz_C0 4 (by decide) rfl zf_X4_32 dX4_feed_46 ?_
          refine zr_iload_n dX4_feed_49 rfl rfl ?_
          refine zr_bipush dX4_feed_50 zbk_8 ?_
          refine zr_iload_n dX4_feed_52 rfl rfl ?_
          refine zr_imul dX4_feed_53 ?_
          refine zr_iushr dX4_feed_54 ?_
          refine zr_callVv zz_cX3 zz_C29 (ctX3_add (zz_ushr p1 ((8 : Int32) * x2)) h3 _ hw) zy_X3_add zm_X4_218 (by decide) rfl rfl (Nat.le_of_ble_eq_true rfl) dX4_feed_55 (fun h5 hw => ?_)
          refine zr_iinc (x2 + (-1)) [.ref 0, .int p1, .null, .int (x2 + (-1))] dX4_feed_58 rfl (zok_m1 _) (by decide) rfl rfl ?_
          refine zr_goto 41 dX4_feed_61 (by decide) ?_
          exact ih41 _ _ hw
      have key41 : ∀ (t9 : Nat) (x2 : Int32) (h3 : zz_H), zz_lp (fun K (s : Int32 × zz_H) => wX4_feed_b41 p1 post K s.1 s.2) t9 (x2, h3) → zz_Go zz_C 2 cX4_feed RX4 4 (some .int) post 41 [] [.ref 0, .int p1, .null, .int x2] h3 := by
        intro t9
        induction t9 with
        | zero => intro x2 h3 hw; exact hw.elim
        | succ t9 ih => intro x2 h3 hw; exact step41 _ ih _ _ hw
      exact key41 t9 _ _ hw
    · have hw := hw.2 q
      refine zr_aload_n dX4_feed_30 rfl rfl ?_
      refine zr_ldc zk_X4_84 dX4_feed_31 ?_
      refine zr_callVi zz_cX4 zz_C0 (ctX4_tell ((-1000002) : Int32) h0 _ hw) zy_X4_tell zm_X4_66 (by decide) rfl rfl (Nat.le_of_ble_eq_true rfl) dX4_feed_33 (fun r7 h6 hw => ?_)
      exact zr_ret rfl rfl dX4_feed_36 hw
  · have hw := hw.2 q
    refine zr_aload_n dX4_feed_9 rfl rfl ?_
    refine zr_ldc zk_X4_65 dX4_feed_10 ?_
    refine zr_callVi zz_cX4 zz_C0 (ctX4_tell ((-1000001) : Int32) h0 _ hw) zy_X4_tell zm_X4_66 (by decide) rfl rfl (Nat.le_of_ble_eq_true rfl) dX4_feed_12 (fun r9 h8 hw => ?_)
    exact zr_ret rfl rfl dX4_feed_15 hw
def wX4_wipe (h0 : zz_H) (post : Int32 → zz_H → Prop) : Prop :=
  zz_sto h0 29 (upd (h0 29) 1 (0 : Int32)) (fun h1 => post (h0 29 1) h1)
set_option maxRecDepth 20000 in
set_option maxHeartbeats 4000000 in
theorem ctX4_wipe (h0 : zz_H) (post : Int32 → zz_H → Prop) (hw : wX4_wipe h0 post) : zz_Ct zz_C 0 yX4_wipe cX4_wipe 2 (some .int) [.ref 0] h0 post := by
  refine zz_ct (L := [.ref 0, .null]) (by decide +kernel) (Nat.le_of_ble_eq_true rfl) (fun ad q hq => hq) ?_
  show zz_Go zz_C 0 cX4_wipe RX4 2 (some .int) post 0 [] [.ref 0, .null] h0
  unfold wX4_wipe at hw
  refine zr_aload_n dX4_wipe_0 rfl rfl ?_
  refine zr_getR zz_cX4 zz_C0 4 (by decide) rfl zf_X4_32 dX4_wipe_1 ?_
  refine zr_getI zz_cX3 zz_C29 1 (by decide) rfl zf_X4_215 dX4_wipe_4 ?_
  refine zr_istore_n [.ref 0, .int (h0 29 1)] dX4_wipe_7 rfl (by decide) rfl rfl ?_
  refine zr_aload_n dX4_wipe_8 rfl rfl ?_
  refine zr_getR zz_cX4 zz_C0 4 (by decide) rfl zf_X4_32 dX4_wipe_9 ?_
  refine zr_iconst dX4_wipe_12 zqk_0 ?_
  refine zr_putI zz_cX3 zz_C29 1 (by decide) rfl rfl rfl rfl rfl zf_X4_215 dX4_wipe_13 hw (fun h1 hw => ?_)
  refine zr_iload_n dX4_wipe_16 rfl rfl ?_
  exact zr_ret rfl rfl dX4_wipe_17 hw
def wX4_text (h0 : zz_H) (post : Int32 → zz_H → Prop) : Prop :=
  wX0_takeFrom 17 1 h0 (fun _ h1 => wX3_readInto 17 h1 (fun r3 h2 => zz_sto h2 29 (upd (h2 29) 1 (0 : Int32)) (fun h4 => ((r3 ≤ 0) → (post r3 h4)) ∧ ((¬ r3 ≤ 0) → (wX0_takeFrom 1 17 h4 (fun _ h5 => post r3 h5))))))
set_option maxRecDepth 20000 in
set_option maxHeartbeats 4000000 in
theorem ctX4_text (h0 : zz_H) (post : Int32 → zz_H → Prop) (hw : wX4_text h0 post) : zz_Ct zz_C 9 yX4_text cX4_text 2 (some .int) [.ref 0] h0 post := by
  refine zz_ct (L := [.ref 0, .null]) (by decide +kernel) (Nat.le_of_ble_eq_true rfl) (fun ad q hq => hq) ?_
  show zz_Go zz_C 9 cX4_text RX4 2 (some .int) post 0 [] [.ref 0, .null] h0
  unfold wX4_text at hw
  refine zr_aload_n dX4_text_0 rfl rfl ?_
  refine zr_getR zz_cX4 zz_C0 2 (by decide) rfl zf_X4_19 dX4_text_1 ?_
  refine zr_aload_n dX4_text_4 rfl rfl ?_
  refine zr_getR zz_cX4 zz_C0 0 (by decide) rfl zf_X4_12 dX4_text_5 ?_
  refine zr_callVv zz_cX0 zz_C17 (ctX0_takeFrom 17 1 (Or.inr (Or.inr rfl)) (Or.inl rfl) h0 _ hw) zy_X0_takeFrom zm_X4_221 (by decide) rfl rfl (Nat.le_of_ble_eq_true rfl) dX4_text_8 (fun h1 hw => ?_)
  refine zr_aload_n dX4_text_11 rfl rfl ?_
  refine zr_getR zz_cX4 zz_C0 4 (by decide) rfl zf_X4_32 dX4_text_12 ?_
  refine zr_aload_n dX4_text_15 rfl rfl ?_
  refine zr_getR zz_cX4 zz_C0 2 (by decide) rfl zf_X4_19 dX4_text_16 ?_
  refine zr_callVi zz_cX3 zz_C29 (ctX3_readInto 17 (Or.inr (Or.inr rfl)) h1 _ hw) zy_X3_readInto zm_X4_224 (by decide) rfl rfl (Nat.le_of_ble_eq_true rfl) dX4_text_19 (fun r3 h2 hw => ?_)
  refine zr_istore_n [.ref 0, .int r3] dX4_text_22 rfl (by decide) rfl rfl ?_
  refine zr_aload_n dX4_text_23 rfl rfl ?_
  refine zr_getR zz_cX4 zz_C0 4 (by decide) rfl zf_X4_32 dX4_text_24 ?_
  refine zr_iconst dX4_text_27 zqk_0 ?_
  refine zr_putI zz_cX3 zz_C29 1 (by decide) rfl rfl rfl rfl rfl zf_X4_215 dX4_text_28 hw (fun h4 hw => ?_)
  refine zr_iload_n dX4_text_31 rfl rfl ?_
  refine zr_if_le 46 dX4_text_32 (by decide) (fun q => ?_) (fun q => ?_)
  · have hw := hw.1 q
    refine zr_iload_n dX4_text_46 rfl rfl ?_
    exact zr_ret rfl rfl dX4_text_47 hw
  · have hw := hw.2 q
    refine zr_aload_n dX4_text_35 rfl rfl ?_
    refine zr_getR zz_cX4 zz_C0 0 (by decide) rfl zf_X4_12 dX4_text_36 ?_
    refine zr_aload_n dX4_text_39 rfl rfl ?_
    refine zr_getR zz_cX4 zz_C0 2 (by decide) rfl zf_X4_19 dX4_text_40 ?_
    refine zr_callVv zz_cX0 zz_C1 (ctX0_takeFrom 1 17 (Or.inl rfl) (Or.inr (Or.inr rfl)) h4 _ hw) zy_X0_takeFrom zm_X4_221 (by decide) rfl rfl (Nat.le_of_ble_eq_true rfl) dX4_text_43 (fun h5 hw => ?_)
    refine zr_iload_n dX4_text_46 rfl rfl ?_
    exact zr_ret rfl rfl dX4_text_47 hw
def wX4_isSpot (p1 : Int32) (h0 : zz_H) (post : Int32 → Prop) : Prop :=
  wX4_within p1 (0 : Int32) (9 : Int32) h0 (fun r1 => zz_z r1 ∧ post r1)
set_option maxRecDepth 20000 in
set_option maxHeartbeats 4000000 in
theorem ctX4_isSpot (p1 : Int32) (h0 : zz_H) (post : Int32 → Prop) (hw : wX4_isSpot p1 h0 post) : zz_Ct zz_C 1 yX4_isSpot cX4_isSpot 1 (some .boolean) [.int p1] h0 (zz_pu h0 post) := by
  refine zz_ct (L := [.int p1]) (by decide +kernel) (Nat.le_of_ble_eq_true rfl) (fun ad q hq => hq) ?_
  show zz_Go zz_C 1 cX4_isSpot RX4 1 (some .boolean) (zz_pu h0 post) 0 [] [.int p1] h0
  unfold wX4_isSpot at hw
  refine zr_iload_n dX4_isSpot_0 rfl rfl ?_
  refine zr_iconst dX4_isSpot_1 zqk_0 ?_
  refine zr_bipush dX4_isSpot_2 zbk_9 ?_
  refine zr_pSi (ctX4_within p1 (0 : Int32) (9 : Int32) h0 _ hw) zy_X4_within zm_X4_61 (by decide) rfl rfl (Nat.le_of_ble_eq_true rfl) dX4_isSpot_4 (fun r1 hw => ?_)
  exact zr_ret rfl hw.1 dX4_isSpot_7 ⟨rfl, hw.2⟩
def wX4_hold_j27 (p1 : Int32) (p2 : Int32) (h0 : zz_H) (post : Int32 → zz_H → Prop) : Prop :=
  vp_in p1 10 ∧ zz_sto h0 8 (upd (h0 8) p1.toNatClampNeg p2) (fun h4 => post (1 : Int32) h4)
def wX4_hold (p1 : Int32) (p2 : Int32) (h0 : zz_H) (post : Int32 → zz_H → Prop) : Prop :=
  wX4_isSpot p1 h0 (fun r1 => ((r1 = 0) → (wX4_tell ((-1000001) : Int32) h0 (fun r3 h2 => post r3 h2))) ∧ ((¬ r1 = 0) → (((p2 = ((-1) : Int32)) → (wX4_hold_j27 p1 p2 h0 post)) ∧ ((¬ p2 = ((-1) : Int32)) → (wX4_isCurve p2 h0 (fun r5 => ((¬ r5 = 0) → (wX4_hold_j27 p1 p2 h0 post)) ∧ ((r5 = 0) → (wX4_tell ((-1000001) : Int32) h0 (fun r7 h6 => post r7 h6)))))))))
set_option maxRecDepth 20000 in
set_option maxHeartbeats 4000000 in
theorem ctX4_hold (p1 : Int32) (p2 : Int32) (h0 : zz_H) (post : Int32 → zz_H → Prop) (hw : wX4_hold p1 p2 h0 post) : zz_Ct zz_C 2 yX4_hold cX4_hold 3 (some .int) [.ref 0, .int p1, .int p2] h0 post := by
  refine zz_ct (L := [.ref 0, .int p1, .int p2]) (by decide +kernel) (Nat.le_of_ble_eq_true rfl) (fun ad q hq => hq) ?_
  show zz_Go zz_C 2 cX4_hold RX4 3 (some .int) post 0 [] [.ref 0, .int p1, .int p2] h0
  unfold wX4_hold at hw
  refine zr_iload_n dX4_hold_0 rfl rfl ?_
  refine zr_pSi (ctX4_isSpot p1 h0 _ hw) zy_X4_isSpot zm_X4_228 (by decide) rfl rfl (Nat.le_of_ble_eq_true rfl) dX4_hold_1 (fun r1 hw => ?_)
  refine zr_if_eq 20 dX4_hold_4 (by decide) (fun q => ?_) (fun q => ?_)
  · have hw := hw.1 q
    refine zr_aload_n dX4_hold_20 rfl rfl ?_
    refine zr_ldc zk_X4_65 dX4_hold_21 ?_
    refine zr_callVi zz_cX4 zz_C0 (ctX4_tell ((-1000001) : Int32) h0 _ hw) zy_X4_tell zm_X4_66 (by decide) rfl rfl (Nat.le_of_ble_eq_true rfl) dX4_hold_23 (fun r3 h2 hw => ?_)
    exact zr_ret rfl rfl dX4_hold_26 hw
  · have hw := hw.2 q
    refine zr_iload_n dX4_hold_7 rfl rfl ?_
    refine zr_iconst dX4_hold_8 zqk_m1 ?_
    have j27 : wX4_hold_j27 p1 p2 h0 post → zz_Go zz_C 2 cX4_hold RX4 3 (some .int) post 27 [] [.ref 0, .int p1, .int p2] h0 := by
      intro hw
      unfold wX4_hold_j27 at hw
      refine zr_aload_n dX4_hold_27 rfl rfl ?_
      refine zr_getR zz_cX4 zz_C0 0 (by decide) rfl zf_X4_12 dX4_hold_28 ?_
      refine zr_getR zz_cX0 zz_C1 6 (by decide) rfl zf_X4_231 dX4_hold_31 ?_
      refine zr_iload_n dX4_hold_34 rfl rfl ?_
      refine zr_iload_n dX4_hold_35 rfl rfl ?_
      obtain ⟨hi, hw⟩ := hw
      refine zr_iast zz_C8 hi rfl dX4_hold_36 hw (fun h4 hw => ?_)
      refine zr_iconst dX4_hold_37 zqk_1 ?_
      exact zr_ret rfl rfl dX4_hold_38 hw
    refine zr_icmp_eq 27 dX4_hold_9 (by decide) (fun q => ?_) (fun q => ?_)
    · have hw := hw.1 q
      exact j27 hw
    · have hw := hw.2 q
      refine zr_aload_n dX4_hold_12 rfl rfl ?_
      refine zr_iload_n dX4_hold_13 rfl rfl ?_
      refine zr_pVi zz_cX4 zz_C0 (ctX4_isCurve p2 h0 _ hw) zy_X4_isCurve zm_X4_150 (by decide) rfl rfl (Nat.le_of_ble_eq_true rfl) dX4_hold_14 (fun r5 hw => ?_)
      refine zr_if_ne 27 dX4_hold_17 (by decide) (fun q => ?_) (fun q => ?_)
      · have hw := hw.1 q
        exact j27 hw
      · have hw := hw.2 q
        refine zr_aload_n dX4_hold_20 rfl rfl ?_
        refine zr_ldc zk_X4_65 dX4_hold_21 ?_
        refine zr_callVi zz_cX4 zz_C0 (ctX4_tell ((-1000001) : Int32) h0 _ hw) zy_X4_tell zm_X4_66 (by decide) rfl rfl (Nat.le_of_ble_eq_true rfl) dX4_hold_23 (fun r7 h6 hw => ?_)
        exact zr_ret rfl rfl dX4_hold_26 hw
def wX4_isUnder_b4 (p2 : Int32) (h0 : zz_H) (post : Int32 → Prop) (K3 : Int32 × Int32 → Prop) (x1 : Int32) (x2 : Int32) : Prop :=
  (((7 : Int32) ≤ x2) → (post (0 : Int32))) ∧ ((¬ (7 : Int32) ≤ x2) → (wX4_isKind x1 h0 (fun r4 => ((r4 = 0) → (post (0 : Int32))) ∧ ((¬ r4 = 0) → (((¬ x1 = p2) → (vp_in x1 7 ∧ (K3 ((zz_over.getD x1.toNatClampNeg 0), (x2 + 1))))) ∧ ((x1 = p2) → (post (1 : Int32))))))))
def wX4_isUnder (p1 : Int32) (p2 : Int32) (h0 : zz_H) (post : Int32 → Prop) : Prop :=
  ∃ t9, zz_lp (fun K (s : Int32 × Int32) => wX4_isUnder_b4 p2 h0 post K s.1 s.2) t9 (p1, (0 : Int32))
set_option maxRecDepth 20000 in
set_option maxHeartbeats 4000000 in
theorem ctX4_isUnder (p1 : Int32) (p2 : Int32) (h0 : zz_H) (post : Int32 → Prop) (hw : wX4_isUnder p1 p2 h0 post) : zz_Ct zz_C 2 yX4_isUnder cX4_isUnder 4 (some .boolean) [.int p1, .int p2] h0 (zz_pu h0 post) := by
  refine zz_ct (L := [.int p1, .int p2, .null, .null]) (by decide +kernel) (Nat.le_of_ble_eq_true rfl) (fun ad q hq => hq) ?_
  show zz_Go zz_C 2 cX4_isUnder RX4 4 (some .boolean) (zz_pu h0 post) 0 [] [.int p1, .int p2, .null, .null] h0
  unfold wX4_isUnder at hw
  refine zr_iload_n dX4_isUnder_0 rfl rfl ?_
  refine zr_istore_n [.int p1, .int p2, .int p1, .null] dX4_isUnder_1 rfl (by decide) rfl rfl ?_
  refine zr_iconst dX4_isUnder_2 zqk_0 ?_
  refine zr_istore_n [.int p1, .int p2, .int p1, .int (0 : Int32)] dX4_isUnder_3 rfl (by decide) rfl rfl ?_
  refine zr_sub [.null, .int p2, .int p1, .int (0 : Int32)] ⟨Or.inl rfl, ⟨Or.inr rfl, ⟨Or.inr rfl, ⟨Or.inr rfl, trivial⟩⟩⟩⟩ ?_
  obtain ⟨t9, hw⟩ := hw
  have step4 : ∀ (K3 : Int32 × Int32 → Prop), (∀ (x1 : Int32) (x2 : Int32), K3 (x1, x2) → zz_Go zz_C 2 cX4_isUnder RX4 4 (some .boolean) (zz_pu h0 post) 4 [] [.null, .int p2, .int x1, .int x2] h0) → ∀ (x1 : Int32) (x2 : Int32), wX4_isUnder_b4 p2 h0 post K3 x1 x2 → zz_Go zz_C 2 cX4_isUnder RX4 4 (some .boolean) (zz_pu h0 post) 4 [] [.null, .int p2, .int x1, .int x2] h0 := by
    intro K3 ih4 x1 x2 hw
    unfold wX4_isUnder_b4 at hw
    refine zr_iload_n dX4_isUnder_4 rfl rfl ?_
    refine zr_bipush dX4_isUnder_5 zbk_7 ?_
    refine zr_icmp_ge 36 dX4_isUnder_7 (by decide) (fun q => ?_) (fun q => ?_)
    · have hw := hw.1 q
      refine zr_iconst dX4_isUnder_36 zqk_0 ?_
      exact zr_ret rfl rfl dX4_isUnder_37 ⟨rfl, hw⟩
    · have hw := hw.2 q
      refine zr_iload_n dX4_isUnder_10 rfl rfl ?_
      refine zr_pSi (ctX4_isKind x1 h0 _ hw) zy_X4_isKind zm_X4_138 (by decide) rfl rfl (Nat.le_of_ble_eq_true rfl) dX4_isUnder_11 (fun r4 hw => ?_)
      refine zr_if_eq 36 dX4_isUnder_14 (by decide) (fun q => ?_) (fun q => ?_)
      · have hw := hw.1 q
        refine zr_iconst dX4_isUnder_36 zqk_0 ?_
        exact zr_ret rfl rfl dX4_isUnder_37 ⟨rfl, hw⟩
      · have hw := hw.2 q
        refine zr_iload_n dX4_isUnder_17 rfl rfl ?_
        refine zr_iload_n dX4_isUnder_18 rfl rfl ?_
        refine zr_icmp_ne 24 dX4_isUnder_19 (by decide) (fun q => ?_) (fun q => ?_)
        · have hw := hw.1 q
          refine zr_over zf_X4_283 dX4_isUnder_24 ?_
          refine zr_iload_n dX4_isUnder_27 rfl rfl ?_
          obtain ⟨hi, hw⟩ := hw
          refine zr_ovld hi dX4_isUnder_28 ?_
          refine zr_istore_n [.null, .int p2, .int (zz_over.getD x1.toNatClampNeg 0), .int x2] dX4_isUnder_29 rfl (by decide) rfl rfl ?_
          refine zr_iinc (x2 + 1) [.null, .int p2, .int (zz_over.getD x1.toNatClampNeg 0), .int (x2 + 1)] dX4_isUnder_30 rfl (zok_1 _) (by decide) rfl rfl ?_
          refine zr_goto 4 dX4_isUnder_33 (by decide) ?_
          exact ih4 _ _ hw
        · have hw := hw.2 q
          refine zr_iconst dX4_isUnder_22 zqk_1 ?_
          exact zr_ret rfl rfl dX4_isUnder_23 ⟨rfl, hw⟩
  have key4 : ∀ (t9 : Nat) (x1 : Int32) (x2 : Int32), zz_lp (fun K (s : Int32 × Int32) => wX4_isUnder_b4 p2 h0 post K s.1 s.2) t9 (x1, x2) → zz_Go zz_C 2 cX4_isUnder RX4 4 (some .boolean) (zz_pu h0 post) 4 [] [.null, .int p2, .int x1, .int x2] h0 := by
    intro t9
    induction t9 with
    | zero => intro x1 x2 hw; exact hw.elim
    | succ t9 ih => intro x1 x2 hw; exact step4 _ ih _ _ hw
  exact key4 t9 _ _ hw
def wX4_as (p1 : Int32) (p2 : Int32) (h0 : zz_H) (post : Int32 → zz_H → Prop) : Prop :=
  wX4_isSpot p1 h0 (fun r1 => ((r1 = 0) → (wX4_tell ((-1000001) : Int32) h0 (fun r3 h2 => post r3 h2))) ∧ ((¬ r1 = 0) → (wX4_isKind p2 h0 (fun r4 => ((¬ r4 = 0) → (vp_in p1 10 ∧ (wX4_isCurve (h0 8 p1.toNatClampNeg) h0 (fun r5 => ((¬ r5 = 0) → (vp_in (h0 8 p1.toNatClampNeg) 6 ∧ (wX4_isUnder (h0 6 (h0 8 p1.toNatClampNeg).toNatClampNeg) p2 h0 (fun r6 => ((r6 = 0) → (wX4_tell ((-1000003) : Int32) h0 (fun r8 h7 => post r8 h7))) ∧ ((¬ r6 = 0) → (post (h0 8 p1.toNatClampNeg) h0)))))) ∧ ((r5 = 0) → (wX4_tell ((-1000006) : Int32) h0 (fun r10 h9 => post r10 h9))))))) ∧ ((r4 = 0) → (wX4_tell ((-1000001) : Int32) h0 (fun r12 h11 => post r12 h11)))))))
set_option maxRecDepth 20000 in
set_option maxHeartbeats 4000000 in
theorem ctX4_as (p1 : Int32) (p2 : Int32) (h0 : zz_H) (post : Int32 → zz_H → Prop) (hw : wX4_as p1 p2 h0 post) : zz_Ct zz_C 3 yX4_as cX4_as 4 (some .int) [.ref 0, .int p1, .int p2] h0 post := by
  refine zz_ct (L := [.ref 0, .int p1, .int p2, .null]) (by decide +kernel) (Nat.le_of_ble_eq_true rfl) (fun ad q hq => hq) ?_
  show zz_Go zz_C 3 cX4_as RX4 4 (some .int) post 0 [] [.ref 0, .int p1, .int p2, .null] h0
  unfold wX4_as at hw
  refine zr_iload_n dX4_as_0 rfl rfl ?_
  refine zr_pSi (ctX4_isSpot p1 h0 _ hw) zy_X4_isSpot zm_X4_228 (by decide) rfl rfl (Nat.le_of_ble_eq_true rfl) dX4_as_1 (fun r1 hw => ?_)
  refine zr_if_eq 14 dX4_as_4 (by decide) (fun q => ?_) (fun q => ?_)
  · have hw := hw.1 q
    refine zr_aload_n dX4_as_14 rfl rfl ?_
    refine zr_ldc zk_X4_65 dX4_as_15 ?_
    refine zr_callVi zz_cX4 zz_C0 (ctX4_tell ((-1000001) : Int32) h0 _ hw) zy_X4_tell zm_X4_66 (by decide) rfl rfl (Nat.le_of_ble_eq_true rfl) dX4_as_17 (fun r3 h2 hw => ?_)
    exact zr_ret rfl rfl dX4_as_20 hw
  · have hw := hw.2 q
    refine zr_iload_n dX4_as_7 rfl rfl ?_
    refine zr_pSi (ctX4_isKind p2 h0 _ hw) zy_X4_isKind zm_X4_138 (by decide) rfl rfl (Nat.le_of_ble_eq_true rfl) dX4_as_8 (fun r4 hw => ?_)
    refine zr_if_ne 21 dX4_as_11 (by decide) (fun q => ?_) (fun q => ?_)
    · have hw := hw.1 q
      refine zr_aload_n dX4_as_21 rfl rfl ?_
      refine zr_getR zz_cX4 zz_C0 0 (by decide) rfl zf_X4_12 dX4_as_22 ?_
      refine zr_getR zz_cX0 zz_C1 6 (by decide) rfl zf_X4_231 dX4_as_25 ?_
      refine zr_iload_n dX4_as_28 rfl rfl ?_
      obtain ⟨hi, hw⟩ := hw
      refine zr_iald zz_C8 hi rfl dX4_as_29 ?_
      refine zr_istore_n [.ref 0, .int p1, .int p2, .int (h0 8 p1.toNatClampNeg)] dX4_as_30 rfl (by decide) rfl rfl ?_
      refine zr_aload_n dX4_as_31 rfl rfl ?_
      refine zr_iload_n dX4_as_32 rfl rfl ?_
      refine zr_pVi zz_cX4 zz_C0 (ctX4_isCurve (h0 8 p1.toNatClampNeg) h0 _ hw) zy_X4_isCurve zm_X4_150 (by decide) rfl rfl (Nat.le_of_ble_eq_true rfl) dX4_as_33 (fun r5 hw => ?_)
      refine zr_if_ne 46 dX4_as_36 (by decide) (fun q => ?_) (fun q => ?_)
      · have hw := hw.1 q
        refine zr_aload_n dX4_as_46 rfl rfl ?_
        refine zr_getR zz_cX4 zz_C0 0 (by decide) rfl zf_X4_12 dX4_as_47 ?_
        refine zr_getR zz_cX0 zz_C1 4 (by decide) rfl zf_X4_153 dX4_as_50 ?_
        refine zr_iload_n dX4_as_53 rfl rfl ?_
        obtain ⟨hi, hw⟩ := hw
        refine zr_iald zz_C6 hi rfl dX4_as_54 ?_
        refine zr_iload_n dX4_as_55 rfl rfl ?_
        refine zr_pSi (ctX4_isUnder (h0 6 (h0 8 p1.toNatClampNeg).toNatClampNeg) p2 h0 _ hw) zy_X4_isUnder zm_X4_235 (by decide) rfl rfl (Nat.le_of_ble_eq_true rfl) dX4_as_56 (fun r6 hw => ?_)
        refine zr_if_eq 66 dX4_as_59 (by decide) (fun q => ?_) (fun q => ?_)
        · have hw := hw.1 q
          refine zr_aload_n dX4_as_66 rfl rfl ?_
          refine zr_ldc zk_X4_239 dX4_as_67 ?_
          refine zr_callVi zz_cX4 zz_C0 (ctX4_tell ((-1000003) : Int32) h0 _ hw) zy_X4_tell zm_X4_66 (by decide) rfl rfl (Nat.le_of_ble_eq_true rfl) dX4_as_69 (fun r8 h7 hw => ?_)
          exact zr_ret rfl rfl dX4_as_72 hw
        · have hw := hw.2 q
          refine zr_iload_n dX4_as_62 rfl rfl ?_
          refine zr_goto 72 dX4_as_63 (by decide) ?_
          exact zr_ret rfl rfl dX4_as_72 hw
      · have hw := hw.2 q
        refine zr_aload_n dX4_as_39 rfl rfl ?_
        refine zr_ldc zk_X4_234 dX4_as_40 ?_
        refine zr_callVi zz_cX4 zz_C0 (ctX4_tell ((-1000006) : Int32) h0 _ hw) zy_X4_tell zm_X4_66 (by decide) rfl rfl (Nat.le_of_ble_eq_true rfl) dX4_as_42 (fun r10 h9 hw => ?_)
        exact zr_ret rfl rfl dX4_as_45 hw
    · have hw := hw.2 q
      refine zr_aload_n dX4_as_14 rfl rfl ?_
      refine zr_ldc zk_X4_65 dX4_as_15 ?_
      refine zr_callVi zz_cX4 zz_C0 (ctX4_tell ((-1000001) : Int32) h0 _ hw) zy_X4_tell zm_X4_66 (by decide) rfl rfl (Nat.le_of_ble_eq_true rfl) dX4_as_17 (fun r12 h11 hw => ?_)
      exact zr_ret rfl rfl dX4_as_20 hw
def wX4_isSheet (p1 : Int32) (h0 : zz_H) (post : Int32 → Prop) : Prop :=
  wX4_within p1 (0 : Int32) (3 : Int32) h0 (fun r1 => zz_z r1 ∧ post r1)
set_option maxRecDepth 20000 in
set_option maxHeartbeats 4000000 in
theorem ctX4_isSheet (p1 : Int32) (h0 : zz_H) (post : Int32 → Prop) (hw : wX4_isSheet p1 h0 post) : zz_Ct zz_C 1 yX4_isSheet cX4_isSheet 1 (some .boolean) [.int p1] h0 (zz_pu h0 post) := by
  refine zz_ct (L := [.int p1]) (by decide +kernel) (Nat.le_of_ble_eq_true rfl) (fun ad q hq => hq) ?_
  show zz_Go zz_C 1 cX4_isSheet RX4 1 (some .boolean) (zz_pu h0 post) 0 [] [.int p1] h0
  unfold wX4_isSheet at hw
  refine zr_iload_n dX4_isSheet_0 rfl rfl ?_
  refine zr_iconst dX4_isSheet_1 zqk_0 ?_
  refine zr_iconst dX4_isSheet_2 zqk_3 ?_
  refine zr_pSi (ctX4_within p1 (0 : Int32) (3 : Int32) h0 _ hw) zy_X4_within zm_X4_61 (by decide) rfl rfl (Nat.le_of_ble_eq_true rfl) dX4_isSheet_3 (fun r1 hw => ?_)
  exact zr_ret rfl hw.1 dX4_isSheet_6 ⟨rfl, hw.2⟩
def wX4_sheet_j36 (p1 : Int32) (p2 : Int32) (p3 : Int32) (h0 : zz_H) (post : Int32 → zz_H → Prop) : Prop :=
  ((0 ≤ p3) → (((p3 ≤ (40 : Int32)) → (vp_in p1 4 ∧ (wX2_renew (zz_sheet p1) p2 p3 h0 (fun _ h5 => vp_in p1 4 ∧ (post (h5 (zz_sheet p1) 2) h5))))) ∧ ((¬ p3 ≤ (40 : Int32)) → (wX4_tell ((-1000001) : Int32) h0 (fun r8 h7 => post r8 h7))))) ∧ ((¬ 0 ≤ p3) → (wX4_tell ((-1000007) : Int32) h0 (fun r10 h9 => post r10 h9)))
def wX4_sheet (p1 : Int32) (p2 : Int32) (p3 : Int32) (h0 : zz_H) (post : Int32 → zz_H → Prop) : Prop :=
  wX4_isSheet p1 h0 (fun r1 => ((r1 = 0) → (wX4_tell ((-1000001) : Int32) h0 (fun r3 h2 => post r3 h2))) ∧ ((¬ r1 = 0) → (((p2 = 0) → (wX4_sheet_j36 p1 p2 p3 h0 post)) ∧ ((¬ p2 = 0) → (((p2 = (8 : Int32)) → (wX4_sheet_j36 p1 p2 p3 h0 post)) ∧ ((¬ p2 = (8 : Int32)) → (((p2 = (16 : Int32)) → (wX4_sheet_j36 p1 p2 p3 h0 post)) ∧ ((¬ p2 = (16 : Int32)) → (((p2 = (32 : Int32)) → (wX4_sheet_j36 p1 p2 p3 h0 post)) ∧ ((¬ p2 = (32 : Int32)) → (wX4_tell ((-1000001) : Int32) h0 (fun r12 h11 => post r12 h11))))))))))))
set_option maxRecDepth 20000 in
set_option maxHeartbeats 4000000 in
theorem ctX4_sheet (p1 : Int32) (p2 : Int32) (p3 : Int32) (h0 : zz_H) (post : Int32 → zz_H → Prop) (hw : wX4_sheet p1 p2 p3 h0 post) : zz_Ct zz_C 2 yX4_sheet cX4_sheet 4 (some .int) [.ref 0, .int p1, .int p2, .int p3] h0 post := by
  refine zz_ct (L := [.ref 0, .int p1, .int p2, .int p3]) (by decide +kernel) (Nat.le_of_ble_eq_true rfl) (fun ad q hq => hq) ?_
  show zz_Go zz_C 2 cX4_sheet RX4 4 (some .int) post 0 [] [.ref 0, .int p1, .int p2, .int p3] h0
  unfold wX4_sheet at hw
  refine zr_iload_n dX4_sheet_0 rfl rfl ?_
  refine zr_pSi (ctX4_isSheet p1 h0 _ hw) zy_X4_isSheet zm_X4_240 (by decide) rfl rfl (Nat.le_of_ble_eq_true rfl) dX4_sheet_1 (fun r1 hw => ?_)
  refine zr_if_eq 29 dX4_sheet_4 (by decide) (fun q => ?_) (fun q => ?_)
  · have hw := hw.1 q
    refine zr_aload_n dX4_sheet_29 rfl rfl ?_
    refine zr_ldc zk_X4_65 dX4_sheet_30 ?_
    refine zr_callVi zz_cX4 zz_C0 (ctX4_tell ((-1000001) : Int32) h0 _ hw) zy_X4_tell zm_X4_66 (by decide) rfl rfl (Nat.le_of_ble_eq_true rfl) dX4_sheet_32 (fun r3 h2 hw => ?_)
    exact zr_ret rfl rfl dX4_sheet_35 hw
  · have hw := hw.2 q
    refine zr_iload_n dX4_sheet_7 rfl rfl ?_
    have j36 : wX4_sheet_j36 p1 p2 p3 h0 post → zz_Go zz_C 2 cX4_sheet RX4 4 (some .int) post 36 [] [.ref 0, .int p1, .int p2, .int p3] h0 := by
      intro hw
      unfold wX4_sheet_j36 at hw
      refine zr_iload_n dX4_sheet_36 rfl rfl ?_
      refine zr_if_ge 47 dX4_sheet_37 (by decide) (fun q => ?_) (fun q => ?_)
      · have hw := hw.1 q
        refine zr_iload_n dX4_sheet_47 rfl rfl ?_
        refine zr_bipush dX4_sheet_48 zbk_40 ?_
        refine zr_icmp_le 60 dX4_sheet_50 (by decide) (fun q => ?_) (fun q => ?_)
        · have hw := hw.1 q
          refine zr_aload_n dX4_sheet_60 rfl rfl ?_
          refine zr_getR zz_cX4 zz_C0 5 (by decide) rfl zf_X4_38 dX4_sheet_61 ?_
          refine zr_iload_n dX4_sheet_64 rfl rfl ?_
          obtain ⟨hi, hw⟩ := hw
          have hq4 := (zz_sheet_at hi).2
          refine zr_aald zz_C31 hi (zz_sheet_at hi).1 dX4_sheet_65 ?_
          refine zr_iload_n dX4_sheet_66 rfl rfl ?_
          refine zr_iload_n dX4_sheet_67 rfl rfl ?_
          refine zr_callVv zz_cX2 (zz_psO hq4) (ctX2_renew (zz_sheet p1) p2 p3 hq4 h0 _ hw) zy_X2_renew zm_X4_244 (by decide) rfl rfl (Nat.le_of_ble_eq_true rfl) dX4_sheet_68 (fun h5 hw => ?_)
          refine zr_aload_n dX4_sheet_71 rfl rfl ?_
          refine zr_getR zz_cX4 zz_C0 5 (by decide) rfl zf_X4_38 dX4_sheet_72 ?_
          refine zr_iload_n dX4_sheet_75 rfl rfl ?_
          obtain ⟨hi, hw⟩ := hw
          have hq6 := (zz_sheet_at hi).2
          refine zr_aald zz_C31 hi (zz_sheet_at hi).1 dX4_sheet_76 ?_
          refine zr_getI zz_cX2 (zz_psO hq6) 2 (by decide) rfl zf_X4_247 dX4_sheet_77 ?_
          exact zr_ret rfl rfl dX4_sheet_80 hw
        · have hw := hw.2 q
          refine zr_aload_n dX4_sheet_53 rfl rfl ?_
          refine zr_ldc zk_X4_65 dX4_sheet_54 ?_
          refine zr_callVi zz_cX4 zz_C0 (ctX4_tell ((-1000001) : Int32) h0 _ hw) zy_X4_tell zm_X4_66 (by decide) rfl rfl (Nat.le_of_ble_eq_true rfl) dX4_sheet_56 (fun r8 h7 hw => ?_)
          exact zr_ret rfl rfl dX4_sheet_59 hw
      · have hw := hw.2 q
        refine zr_aload_n dX4_sheet_40 rfl rfl ?_
        refine zr_ldc zk_X4_243 dX4_sheet_41 ?_
        refine zr_callVi zz_cX4 zz_C0 (ctX4_tell ((-1000007) : Int32) h0 _ hw) zy_X4_tell zm_X4_66 (by decide) rfl rfl (Nat.le_of_ble_eq_true rfl) dX4_sheet_43 (fun r10 h9 hw => ?_)
        exact zr_ret rfl rfl dX4_sheet_46 hw
    refine zr_if_eq 36 dX4_sheet_8 (by decide) (fun q => ?_) (fun q => ?_)
    · have hw := hw.1 q
      exact j36 hw
    · have hw := hw.2 q
      refine zr_iload_n dX4_sheet_11 rfl rfl ?_
      refine zr_bipush dX4_sheet_12 zbk_8 ?_
      refine zr_icmp_eq 36 dX4_sheet_14 (by decide) (fun q => ?_) (fun q => ?_)
      · have hw := hw.1 q
        exact j36 hw
      · have hw := hw.2 q
        refine zr_iload_n dX4_sheet_17 rfl rfl ?_
        refine zr_bipush dX4_sheet_18 zbk_16 ?_
        refine zr_icmp_eq 36 dX4_sheet_20 (by decide) (fun q => ?_) (fun q => ?_)
        · have hw := hw.1 q
          exact j36 hw
        · have hw := hw.2 q
          refine zr_iload_n dX4_sheet_23 rfl rfl ?_
          refine zr_bipush dX4_sheet_24 zbk_32 ?_
          refine zr_icmp_eq 36 dX4_sheet_26 (by decide) (fun q => ?_) (fun q => ?_)
          · have hw := hw.1 q
            exact j36 hw
          · have hw := hw.2 q
            refine zr_aload_n dX4_sheet_29 rfl rfl ?_
            refine zr_ldc zk_X4_65 dX4_sheet_30 ?_
            refine zr_callVi zz_cX4 zz_C0 (ctX4_tell ((-1000001) : Int32) h0 _ hw) zy_X4_tell zm_X4_66 (by decide) rfl rfl (Nat.le_of_ble_eq_true rfl) dX4_sheet_32 (fun r12 h11 hw => ?_)
            exact zr_ret rfl rfl dX4_sheet_35 hw
def wX4_write (p1 : Int32) (p2 : Int32) (p3 : Int32) (h0 : zz_H) (post : Int32 → zz_H → Prop) : Prop :=
  wX4_isSheet p1 h0 (fun r1 => ((¬ r1 = 0) → (vp_in p1 4 ∧ (wX2_isMissing (zz_sheet p1) h0 (fun r3 => ((r3 = 0) → (vp_in p1 4 ∧ (wX4_within p2 (0 : Int32) ((h0 (zz_sheet p1) 2) - (1 : Int32)) h0 (fun r5 => ((¬ r5 = 0) → (vp_in p1 4 ∧ (wX2_put (zz_sheet p1) p2 p3 h0 (fun _ h7 => post (1 : Int32) h7)))) ∧ ((r5 = 0) → (wX4_tell ((-1000001) : Int32) h0 (fun r9 h8 => post r9 h8))))))) ∧ ((¬ r3 = 0) → (wX4_tell ((-1000006) : Int32) h0 (fun r11 h10 => post r11 h10))))))) ∧ ((r1 = 0) → (wX4_tell ((-1000001) : Int32) h0 (fun r13 h12 => post r13 h12))))
set_option maxRecDepth 20000 in
set_option maxHeartbeats 4000000 in
theorem ctX4_write (p1 : Int32) (p2 : Int32) (p3 : Int32) (h0 : zz_H) (post : Int32 → zz_H → Prop) (hw : wX4_write p1 p2 p3 h0 post) : zz_Ct zz_C 2 yX4_write cX4_write 4 (some .int) [.ref 0, .int p1, .int p2, .int p3] h0 post := by
  refine zz_ct (L := [.ref 0, .int p1, .int p2, .int p3]) (by decide +kernel) (Nat.le_of_ble_eq_true rfl) (fun ad q hq => hq) ?_
  show zz_Go zz_C 2 cX4_write RX4 4 (some .int) post 0 [] [.ref 0, .int p1, .int p2, .int p3] h0
  unfold wX4_write at hw
  refine zr_iload_n dX4_write_0 rfl rfl ?_
  refine zr_pSi (ctX4_isSheet p1 h0 _ hw) zy_X4_isSheet zm_X4_240 (by decide) rfl rfl (Nat.le_of_ble_eq_true rfl) dX4_write_1 (fun r1 hw => ?_)
  refine zr_if_ne 14 dX4_write_4 (by decide) (fun q => ?_) (fun q => ?_)
  · have hw := hw.1 q
    refine zr_aload_n dX4_write_14 rfl rfl ?_
    refine zr_getR zz_cX4 zz_C0 5 (by decide) rfl zf_X4_38 dX4_write_15 ?_
    refine zr_iload_n dX4_write_18 rfl rfl ?_
    obtain ⟨hi, hw⟩ := hw
    have hq2 := (zz_sheet_at hi).2
    refine zr_aald zz_C31 hi (zz_sheet_at hi).1 dX4_write_19 ?_
    refine zr_pVi zz_cX2 (zz_psO hq2) (ctX2_isMissing (zz_sheet p1) hq2 h0 _ hw) zy_X2_isMissing zm_X4_250 (by decide) rfl rfl (Nat.le_of_ble_eq_true rfl) dX4_write_20 (fun r3 hw => ?_)
    refine zr_if_eq 33 dX4_write_23 (by decide) (fun q => ?_) (fun q => ?_)
    · have hw := hw.1 q
      refine zr_iload_n dX4_write_33 rfl rfl ?_
      refine zr_iconst dX4_write_34 zqk_0 ?_
      refine zr_aload_n dX4_write_35 rfl rfl ?_
      refine zr_getR zz_cX4 zz_C0 5 (by decide) rfl zf_X4_38 dX4_write_36 ?_
      refine zr_iload_n dX4_write_39 rfl rfl ?_
      obtain ⟨hi, hw⟩ := hw
      have hq4 := (zz_sheet_at hi).2
      refine zr_aald zz_C31 hi (zz_sheet_at hi).1 dX4_write_40 ?_
      refine zr_getI zz_cX2 (zz_psO hq4) 2 (by decide) rfl zf_X4_247 dX4_write_41 ?_
      refine zr_iconst dX4_write_44 zqk_1 ?_
      refine zr_isub dX4_write_45 ?_
      refine zr_pSi (ctX4_within p2 (0 : Int32) ((h0 (zz_sheet p1) 2) - (1 : Int32)) h0 _ hw) zy_X4_within zm_X4_61 (by decide) rfl rfl (Nat.le_of_ble_eq_true rfl) dX4_write_46 (fun r5 hw => ?_)
      refine zr_if_ne 59 dX4_write_49 (by decide) (fun q => ?_) (fun q => ?_)
      · have hw := hw.1 q
        refine zr_aload_n dX4_write_59 rfl rfl ?_
        refine zr_getR zz_cX4 zz_C0 5 (by decide) rfl zf_X4_38 dX4_write_60 ?_
        refine zr_iload_n dX4_write_63 rfl rfl ?_
        obtain ⟨hi, hw⟩ := hw
        have hq6 := (zz_sheet_at hi).2
        refine zr_aald zz_C31 hi (zz_sheet_at hi).1 dX4_write_64 ?_
        refine zr_iload_n dX4_write_65 rfl rfl ?_
        refine zr_iload_n dX4_write_66 rfl rfl ?_
        refine zr_callVv zz_cX2 (zz_psO hq6) (ctX2_put (zz_sheet p1) p2 p3 hq6 h0 _ hw) zy_X2_put zm_X4_254 (by decide) rfl rfl (Nat.le_of_ble_eq_true rfl) dX4_write_67 (fun h7 hw => ?_)
        refine zr_iconst dX4_write_70 zqk_1 ?_
        exact zr_ret rfl rfl dX4_write_71 hw
      · have hw := hw.2 q
        refine zr_aload_n dX4_write_52 rfl rfl ?_
        refine zr_ldc zk_X4_65 dX4_write_53 ?_
        refine zr_callVi zz_cX4 zz_C0 (ctX4_tell ((-1000001) : Int32) h0 _ hw) zy_X4_tell zm_X4_66 (by decide) rfl rfl (Nat.le_of_ble_eq_true rfl) dX4_write_55 (fun r9 h8 hw => ?_)
        exact zr_ret rfl rfl dX4_write_58 hw
    · have hw := hw.2 q
      refine zr_aload_n dX4_write_26 rfl rfl ?_
      refine zr_ldc zk_X4_234 dX4_write_27 ?_
      refine zr_callVi zz_cX4 zz_C0 (ctX4_tell ((-1000006) : Int32) h0 _ hw) zy_X4_tell zm_X4_66 (by decide) rfl rfl (Nat.le_of_ble_eq_true rfl) dX4_write_29 (fun r11 h10 hw => ?_)
      exact zr_ret rfl rfl dX4_write_32 hw
  · have hw := hw.2 q
    refine zr_aload_n dX4_write_7 rfl rfl ?_
    refine zr_ldc zk_X4_65 dX4_write_8 ?_
    refine zr_callVi zz_cX4 zz_C0 (ctX4_tell ((-1000001) : Int32) h0 _ hw) zy_X4_tell zm_X4_66 (by decide) rfl rfl (Nat.le_of_ble_eq_true rfl) dX4_write_10 (fun r13 h12 hw => ?_)
    exact zr_ret rfl rfl dX4_write_13 hw
def wX4_copy (p1 : Int32) (p2 : Int32) (p3 : Int32) (p4 : Int32) (p5 : Int32) (h0 : zz_H) (post : Int32 → zz_H → Prop) : Prop :=
  wX4_isSheet p1 h0 (fun r1 => ((r1 = 0) → (wX4_tell ((-1000001) : Int32) h0 (fun r3 h2 => post r3 h2))) ∧ ((¬ r1 = 0) → (wX4_isSheet p3 h0 (fun r4 => ((¬ r4 = 0) → (vp_in p1 4 ∧ (vp_in p3 4 ∧ (wX2_isMissing (zz_sheet p1) h0 (fun r7 => ((¬ r7 = 0) → (wX4_tell ((-1000006) : Int32) h0 (fun r9 h8 => post r9 h8))) ∧ ((r7 = 0) → (wX2_isMissing (zz_sheet p3) h0 (fun r10 => ((r10 = 0) → ((((h0 (zz_sheet p1) 1) = (h0 (zz_sheet p3) 1)) → (wX2_hasRun (zz_sheet p1) p2 p5 h0 (fun r11 => ((r11 = 0) → (wX4_tell ((-1000001) : Int32) h0 (fun r13 h12 => post r13 h12))) ∧ ((¬ r11 = 0) → (wX2_hasRun (zz_sheet p3) p4 p5 h0 (fun r14 => ((¬ r14 = 0) → ((¬ p2 < 0 ∧ ¬ p4 < 0 ∧ ¬ p5 < 0 ∧ p2.toNatClampNeg + p5.toNatClampNeg ≤ 40 ∧ p4.toNatClampNeg + p5.toNatClampNeg ≤ 40) ∧ zz_sto h0 ((zz_sheet p3) + 1) (va_cpy (h0 ((zz_sheet p1) + 1)) (h0 ((zz_sheet p3) + 1)) p2.toNatClampNeg p4.toNatClampNeg p5.toNatClampNeg) (fun h15 => post p5 h15))) ∧ ((r14 = 0) → (wX4_tell ((-1000001) : Int32) h0 (fun r17 h16 => post r17 h16))))))))) ∧ ((¬ (h0 (zz_sheet p1) 1) = (h0 (zz_sheet p3) 1)) → (wX4_tell ((-1000003) : Int32) h0 (fun r19 h18 => post r19 h18))))) ∧ ((¬ r10 = 0) → (wX4_tell ((-1000006) : Int32) h0 (fun r21 h20 => post r21 h20))))))))))) ∧ ((r4 = 0) → (wX4_tell ((-1000001) : Int32) h0 (fun r23 h22 => post r23 h22)))))))
set_option maxRecDepth 20000 in
set_option maxHeartbeats 4000000 in
theorem ctX4_copy (p1 : Int32) (p2 : Int32) (p3 : Int32) (p4 : Int32) (p5 : Int32) (h0 : zz_H) (post : Int32 → zz_H → Prop) (hw : wX4_copy p1 p2 p3 p4 p5 h0 post) : zz_Ct zz_C 2 yX4_copy cX4_copy 8 (some .int) [.ref 0, .int p1, .int p2, .int p3, .int p4, .int p5] h0 post := by
  refine zz_ct (L := [.ref 0, .int p1, .int p2, .int p3, .int p4, .int p5, .null, .null]) (by decide +kernel) (Nat.le_of_ble_eq_true rfl) (fun ad q hq => hq) ?_
  show zz_Go zz_C 2 cX4_copy RX4 8 (some .int) post 0 [] [.ref 0, .int p1, .int p2, .int p3, .int p4, .int p5, .null, .null] h0
  unfold wX4_copy at hw
  refine zr_iload_n dX4_copy_0 rfl rfl ?_
  refine zr_pSi (ctX4_isSheet p1 h0 _ hw) zy_X4_isSheet zm_X4_240 (by decide) rfl rfl (Nat.le_of_ble_eq_true rfl) dX4_copy_1 (fun r1 hw => ?_)
  refine zr_if_eq 14 dX4_copy_4 (by decide) (fun q => ?_) (fun q => ?_)
  · have hw := hw.1 q
    refine zr_aload_n dX4_copy_14 rfl rfl ?_
    refine zr_ldc zk_X4_65 dX4_copy_15 ?_
    refine zr_callVi zz_cX4 zz_C0 (ctX4_tell ((-1000001) : Int32) h0 _ hw) zy_X4_tell zm_X4_66 (by decide) rfl rfl (Nat.le_of_ble_eq_true rfl) dX4_copy_17 (fun r3 h2 hw => ?_)
    exact zr_ret rfl rfl dX4_copy_20 hw
  · have hw := hw.2 q
    refine zr_iload_n dX4_copy_7 rfl rfl ?_
    refine zr_pSi (ctX4_isSheet p3 h0 _ hw) zy_X4_isSheet zm_X4_240 (by decide) rfl rfl (Nat.le_of_ble_eq_true rfl) dX4_copy_8 (fun r4 hw => ?_)
    refine zr_if_ne 21 dX4_copy_11 (by decide) (fun q => ?_) (fun q => ?_)
    · have hw := hw.1 q
      refine zr_aload_n dX4_copy_21 rfl rfl ?_
      refine zr_getR zz_cX4 zz_C0 5 (by decide) rfl zf_X4_38 dX4_copy_22 ?_
      refine zr_iload_n dX4_copy_25 rfl rfl ?_
      obtain ⟨hi, hw⟩ := hw
      have hq5 := (zz_sheet_at hi).2
      refine zr_aald zz_C31 hi (zz_sheet_at hi).1 dX4_copy_26 ?_
      refine zr_astore [.ref 0, .int p1, .int p2, .int p3, .int p4, .int p5, .ref (zz_sheet p1), .null] dX4_copy_27 (by decide) rfl rfl ?_
      refine zr_aload_n dX4_copy_29 rfl rfl ?_
      refine zr_getR zz_cX4 zz_C0 5 (by decide) rfl zf_X4_38 dX4_copy_30 ?_
      refine zr_iload_n dX4_copy_33 rfl rfl ?_
      obtain ⟨hi, hw⟩ := hw
      have hq6 := (zz_sheet_at hi).2
      refine zr_aald zz_C31 hi (zz_sheet_at hi).1 dX4_copy_34 ?_
      refine zr_astore [.ref 0, .int p1, .int p2, .int p3, .int p4, .int p5, .ref (zz_sheet p1), .ref (zz_sheet p3)] dX4_copy_35 (by decide) rfl rfl ?_
      refine zr_aload dX4_copy_37 rfl ?_
      refine zr_pVi zz_cX2 (zz_psO hq5) (ctX2_isMissing (zz_sheet p1) hq5 h0 _ hw) zy_X2_isMissing zm_X4_250 (by decide) rfl rfl (Nat.le_of_ble_eq_true rfl) dX4_copy_39 (fun r7 hw => ?_)
      refine zr_if_ne 53 dX4_copy_42 (by decide) (fun q => ?_) (fun q => ?_)
      · have hw := hw.1 q
        refine zr_aload_n dX4_copy_53 rfl rfl ?_
        refine zr_ldc zk_X4_234 dX4_copy_54 ?_
        refine zr_callVi zz_cX4 zz_C0 (ctX4_tell ((-1000006) : Int32) h0 _ hw) zy_X4_tell zm_X4_66 (by decide) rfl rfl (Nat.le_of_ble_eq_true rfl) dX4_copy_56 (fun r9 h8 hw => ?_)
        exact zr_ret rfl rfl dX4_copy_59 hw
      · have hw := hw.2 q
        refine zr_aload dX4_copy_45 rfl ?_
        refine zr_pVi zz_cX2 (zz_psO hq6) (ctX2_isMissing (zz_sheet p3) hq6 h0 _ hw) zy_X2_isMissing zm_X4_250 (by decide) rfl rfl (Nat.le_of_ble_eq_true rfl) dX4_copy_47 (fun r10 hw => ?_)
        refine zr_if_eq 60 dX4_copy_50 (by decide) (fun q => ?_) (fun q => ?_)
        · have hw := hw.1 q
          refine zr_aload dX4_copy_60 rfl ?_
          refine zr_getI zz_cX2 (zz_psO hq5) 1 (by decide) rfl zf_X4_257 dX4_copy_62 ?_
          refine zr_aload dX4_copy_65 rfl ?_
          refine zr_getI zz_cX2 (zz_psO hq6) 1 (by decide) rfl zf_X4_257 dX4_copy_67 ?_
          refine zr_icmp_eq 80 dX4_copy_70 (by decide) (fun q => ?_) (fun q => ?_)
          · have hw := hw.1 q
            refine zr_aload dX4_copy_80 rfl ?_
            refine zr_iload_n dX4_copy_82 rfl rfl ?_
            refine zr_iload dX4_copy_83 rfl ?_
            refine zr_pVi zz_cX2 (zz_psO hq5) (ctX2_hasRun (zz_sheet p1) p2 p5 hq5 h0 _ hw) zy_X2_hasRun zm_X4_260 (by decide) rfl rfl (Nat.le_of_ble_eq_true rfl) dX4_copy_85 (fun r11 hw => ?_)
            refine zr_if_eq 103 dX4_copy_88 (by decide) (fun q => ?_) (fun q => ?_)
            · have hw := hw.1 q
              refine zr_aload_n dX4_copy_103 rfl rfl ?_
              refine zr_ldc zk_X4_65 dX4_copy_104 ?_
              refine zr_callVi zz_cX4 zz_C0 (ctX4_tell ((-1000001) : Int32) h0 _ hw) zy_X4_tell zm_X4_66 (by decide) rfl rfl (Nat.le_of_ble_eq_true rfl) dX4_copy_106 (fun r13 h12 hw => ?_)
              exact zr_ret rfl rfl dX4_copy_109 hw
            · have hw := hw.2 q
              refine zr_aload dX4_copy_91 rfl ?_
              refine zr_iload dX4_copy_93 rfl ?_
              refine zr_iload dX4_copy_95 rfl ?_
              refine zr_pVi zz_cX2 (zz_psO hq6) (ctX2_hasRun (zz_sheet p3) p4 p5 hq6 h0 _ hw) zy_X2_hasRun zm_X4_260 (by decide) rfl rfl (Nat.le_of_ble_eq_true rfl) dX4_copy_97 (fun r14 hw => ?_)
              refine zr_if_ne 110 dX4_copy_100 (by decide) (fun q => ?_) (fun q => ?_)
              · have hw := hw.1 q
                refine zr_aload dX4_copy_110 rfl ?_
                refine zr_getR zz_cX2 (zz_psO hq5) 0 (by decide) rfl zf_X4_263 dX4_copy_112 ?_
                refine zr_iload_n dX4_copy_115 rfl rfl ?_
                refine zr_aload dX4_copy_116 rfl ?_
                refine zr_getR zz_cX2 (zz_psO hq6) 0 (by decide) rfl zf_X4_263 dX4_copy_118 ?_
                refine zr_iload dX4_copy_121 rfl ?_
                refine zr_iload dX4_copy_123 rfl ?_
                obtain ⟨⟨c1, c2, c3, c4, c5⟩, hw⟩ := hw
                refine zr_acopy (zz_psA0 hq5) (zz_psA0 hq6) c1 c2 c3 c4 c5 zm_X4_266 zv_arraycopyName zt_arraycopyName zn_J10 (by decide) (Nat.le_of_ble_eq_true rfl) dX4_copy_125 hw (fun h15 hw => ?_)
                refine zr_iload dX4_copy_128 rfl ?_
                exact zr_ret rfl rfl dX4_copy_130 hw
              · have hw := hw.2 q
                refine zr_aload_n dX4_copy_103 rfl rfl ?_
                refine zr_ldc zk_X4_65 dX4_copy_104 ?_
                refine zr_callVi zz_cX4 zz_C0 (ctX4_tell ((-1000001) : Int32) h0 _ hw) zy_X4_tell zm_X4_66 (by decide) rfl rfl (Nat.le_of_ble_eq_true rfl) dX4_copy_106 (fun r17 h16 hw => ?_)
                exact zr_ret rfl rfl dX4_copy_109 hw
          · have hw := hw.2 q
            refine zr_aload_n dX4_copy_73 rfl rfl ?_
            refine zr_ldc zk_X4_239 dX4_copy_74 ?_
            refine zr_callVi zz_cX4 zz_C0 (ctX4_tell ((-1000003) : Int32) h0 _ hw) zy_X4_tell zm_X4_66 (by decide) rfl rfl (Nat.le_of_ble_eq_true rfl) dX4_copy_76 (fun r19 h18 hw => ?_)
            exact zr_ret rfl rfl dX4_copy_79 hw
        · have hw := hw.2 q
          refine zr_aload_n dX4_copy_53 rfl rfl ?_
          refine zr_ldc zk_X4_234 dX4_copy_54 ?_
          refine zr_callVi zz_cX4 zz_C0 (ctX4_tell ((-1000006) : Int32) h0 _ hw) zy_X4_tell zm_X4_66 (by decide) rfl rfl (Nat.le_of_ble_eq_true rfl) dX4_copy_56 (fun r21 h20 hw => ?_)
          exact zr_ret rfl rfl dX4_copy_59 hw
    · have hw := hw.2 q
      refine zr_aload_n dX4_copy_14 rfl rfl ?_
      refine zr_ldc zk_X4_65 dX4_copy_15 ?_
      refine zr_callVi zz_cX4 zz_C0 (ctX4_tell ((-1000001) : Int32) h0 _ hw) zy_X4_tell zm_X4_66 (by decide) rfl rfl (Nat.le_of_ble_eq_true rfl) dX4_copy_17 (fun r23 h22 hw => ?_)
      exact zr_ret rfl rfl dX4_copy_20 hw
def wX4_load_b62 (p1 : Int32) (p2 : Int32) (p3 : Int32) (post : Int32 → zz_H → Prop) (K10 : Int32 × zz_H → Prop) (x8 : Int32) (h9 : zz_H) : Prop :=
  (((h9 (zz_sheet p1) 2) ≤ x8) → (post x8 h9)) ∧ ((¬ (h9 (zz_sheet p1) 2) ≤ x8) → ((((8 : Int32) ≤ x8) → (post x8 h9)) ∧ ((¬ (8 : Int32) ≤ x8) → (vp_in x8 40 ∧ (vp_in x8 8 ∧ (wX4_within (h9 ((zz_sheet p1) + 1) x8.toNatClampNeg) (0 : Int32) (h9 2 x8.toNatClampNeg) h9 (fun r11 => ((r11 = 0) → (post x8 h9)) ∧ ((¬ r11 = 0) → (wX4_spotOfPoint p2 x8 p3 h9 (fun r12 => vp_in x8 40 ∧ (vp_in r12 192 ∧ zz_sto h9 5 (upd (h9 5) r12.toNatClampNeg (h9 ((zz_sheet p1) + 1) x8.toNatClampNeg)) (fun h13 => K10 ((x8 + 1), h13)))))))))))))
def wX4_load (p1 : Int32) (p2 : Int32) (p3 : Int32) (h0 : zz_H) (post : Int32 → zz_H → Prop) : Prop :=
  wX4_isSheet p1 h0 (fun r1 => ((¬ r1 = 0) → (vp_in p1 4 ∧ (wX2_isMissing (zz_sheet p1) h0 (fun r3 => ((r3 = 0) → (wX4_isPupil p2 h0 (fun r4 => ((r4 = 0) → (wX4_tell ((-1000001) : Int32) h0 (fun r6 h5 => post r6 h5))) ∧ ((¬ r4 = 0) → (wX4_isMarker p3 h0 (fun r7 => ((¬ r7 = 0) → (∃ t9, zz_lp (fun K (s : Int32 × zz_H) => wX4_load_b62 p1 p2 p3 post K s.1 s.2) t9 ((0 : Int32), h0))) ∧ ((r7 = 0) → (wX4_tell ((-1000001) : Int32) h0 (fun r15 h14 => post r15 h14))))))))) ∧ ((¬ r3 = 0) → (wX4_tell ((-1000006) : Int32) h0 (fun r17 h16 => post r17 h16))))))) ∧ ((r1 = 0) → (wX4_tell ((-1000001) : Int32) h0 (fun r19 h18 => post r19 h18))))
set_option maxRecDepth 20000 in
set_option maxHeartbeats 4000000 in
theorem ctX4_load (p1 : Int32) (p2 : Int32) (p3 : Int32) (h0 : zz_H) (post : Int32 → zz_H → Prop) (hw : wX4_load p1 p2 p3 h0 post) : zz_Ct zz_C 2 yX4_load cX4_load 6 (some .int) [.ref 0, .int p1, .int p2, .int p3] h0 post := by
  refine zz_ct (L := [.ref 0, .int p1, .int p2, .int p3, .null, .null]) (by decide +kernel) (Nat.le_of_ble_eq_true rfl) (fun ad q hq => hq) ?_
  show zz_Go zz_C 2 cX4_load RX4 6 (some .int) post 0 [] [.ref 0, .int p1, .int p2, .int p3, .null, .null] h0
  unfold wX4_load at hw
  refine zr_iload_n dX4_load_0 rfl rfl ?_
  refine zr_pSi (ctX4_isSheet p1 h0 _ hw) zy_X4_isSheet zm_X4_240 (by decide) rfl rfl (Nat.le_of_ble_eq_true rfl) dX4_load_1 (fun r1 hw => ?_)
  refine zr_if_ne 14 dX4_load_4 (by decide) (fun q => ?_) (fun q => ?_)
  · have hw := hw.1 q
    refine zr_aload_n dX4_load_14 rfl rfl ?_
    refine zr_getR zz_cX4 zz_C0 5 (by decide) rfl zf_X4_38 dX4_load_15 ?_
    refine zr_iload_n dX4_load_18 rfl rfl ?_
    obtain ⟨hi, hw⟩ := hw
    have hq2 := (zz_sheet_at hi).2
    refine zr_aald zz_C31 hi (zz_sheet_at hi).1 dX4_load_19 ?_
    refine zr_astore [.ref 0, .int p1, .int p2, .int p3, .ref (zz_sheet p1), .null] dX4_load_20 (by decide) rfl rfl ?_
    refine zr_aload dX4_load_22 rfl ?_
    refine zr_pVi zz_cX2 (zz_psO hq2) (ctX2_isMissing (zz_sheet p1) hq2 h0 _ hw) zy_X2_isMissing zm_X4_250 (by decide) rfl rfl (Nat.le_of_ble_eq_true rfl) dX4_load_24 (fun r3 hw => ?_)
    refine zr_if_eq 37 dX4_load_27 (by decide) (fun q => ?_) (fun q => ?_)
    · have hw := hw.1 q
      refine zr_aload_n dX4_load_37 rfl rfl ?_
      refine zr_iload_n dX4_load_38 rfl rfl ?_
      refine zr_pVi zz_cX4 zz_C0 (ctX4_isPupil p2 h0 _ hw) zy_X4_isPupil zm_X4_88 (by decide) rfl rfl (Nat.le_of_ble_eq_true rfl) dX4_load_39 (fun r4 hw => ?_)
      refine zr_if_eq 52 dX4_load_42 (by decide) (fun q => ?_) (fun q => ?_)
      · have hw := hw.1 q
        refine zr_aload_n dX4_load_52 rfl rfl ?_
        refine zr_ldc zk_X4_65 dX4_load_53 ?_
        refine zr_callVi zz_cX4 zz_C0 (ctX4_tell ((-1000001) : Int32) h0 _ hw) zy_X4_tell zm_X4_66 (by decide) rfl rfl (Nat.le_of_ble_eq_true rfl) dX4_load_55 (fun r6 h5 hw => ?_)
        exact zr_ret rfl rfl dX4_load_58 hw
      · have hw := hw.2 q
        refine zr_iload_n dX4_load_45 rfl rfl ?_
        refine zr_pSi (ctX4_isMarker p3 h0 _ hw) zy_X4_isMarker zm_X4_91 (by decide) rfl rfl (Nat.le_of_ble_eq_true rfl) dX4_load_46 (fun r7 hw => ?_)
        refine zr_if_ne 59 dX4_load_49 (by decide) (fun q => ?_) (fun q => ?_)
        · have hw := hw.1 q
          refine zr_iconst dX4_load_59 zqk_0 ?_
          refine zr_istore [.ref 0, .int p1, .int p2, .int p3, .ref (zz_sheet p1), .int (0 : Int32)] dX4_load_60 (by decide) rfl rfl ?_
          refine zr_sub [.ref 0, .null, .int p2, .int p3, .ref (zz_sheet p1), .int (0 : Int32)] ⟨Or.inr rfl, ⟨Or.inl rfl, ⟨Or.inr rfl, ⟨Or.inr rfl, ⟨Or.inr rfl, ⟨Or.inr rfl, trivial⟩⟩⟩⟩⟩⟩ ?_
          obtain ⟨t9, hw⟩ := hw
          have step62 : ∀ (K10 : Int32 × zz_H → Prop), (∀ (x8 : Int32) (h9 : zz_H), K10 (x8, h9) → zz_Go zz_C 2 cX4_load RX4 6 (some .int) post 62 [] [.ref 0, .null, .int p2, .int p3, .ref (zz_sheet p1), .int x8] h9) → ∀ (x8 : Int32) (h9 : zz_H), wX4_load_b62 p1 p2 p3 post K10 x8 h9 → zz_Go zz_C 2 cX4_load RX4 6 (some .int) post 62 [] [.ref 0, .null, .int p2, .int p3, .ref (zz_sheet p1), .int x8] h9 := by
            intro K10 ih62 x8 h9 hw
            unfold wX4_load_b62 at hw
            refine zr_iload dX4_load_62 rfl ?_
            refine zr_aload dX4_load_64 rfl ?_
            refine zr_getI zz_cX2 (zz_psO hq2) 2 (by decide) rfl zf_X4_247 dX4_load_66 ?_
            refine zr_icmp_ge 133 dX4_load_69 (by decide) (fun q => ?_) (fun q => ?_)
            · have hw := hw.1 q
              refine zr_iload dX4_load_133 rfl ?_
              exact zr_ret rfl rfl dX4_load_135 hw
            · have hw := hw.2 q
              refine zr_iload dX4_load_72 rfl ?_
              refine zr_bipush dX4_load_74 zbk_8 ?_
              refine zr_icmp_ge 133 dX4_load_76 (by decide) (fun q => ?_) (fun q => ?_)
              · have hw := hw.1 q
                refine zr_iload dX4_load_133 rfl ?_
                exact zr_ret rfl rfl dX4_load_135 hw
              · have hw := hw.2 q
                refine zr_aload dX4_load_79 rfl ?_
                refine zr_getR zz_cX2 (zz_psO hq2) 0 (by decide) rfl zf_X4_263 dX4_load_81 ?_
                refine zr_iload dX4_load_84 rfl ?_
                obtain ⟨hi, hw⟩ := hw
                refine zr_iald (zz_psA0 hq2) hi rfl dX4_load_86 ?_
                refine zr_iconst dX4_load_87 zqk_0 ?_
                refine zr_aload_n dX4_load_88 rfl rfl ?_
                refine zr_getR zz_cX4 zz_C0 0 (by decide) rfl zf_X4_12 dX4_load_89 ?_
                refine zr_getR zz_cX0 zz_C1 0 (by decide) rfl zf_X4_70 dX4_load_92 ?_
                refine zr_iload dX4_load_95 rfl ?_
                obtain ⟨hi, hw⟩ := hw
                refine zr_iald zz_C2 hi rfl dX4_load_97 ?_
                refine zr_pSi (ctX4_within (h9 ((zz_sheet p1) + 1) x8.toNatClampNeg) (0 : Int32) (h9 2 x8.toNatClampNeg) h9 _ hw) zy_X4_within zm_X4_61 (by decide) rfl rfl (Nat.le_of_ble_eq_true rfl) dX4_load_98 (fun r11 hw => ?_)
                refine zr_if_eq 133 dX4_load_101 (by decide) (fun q => ?_) (fun q => ?_)
                · have hw := hw.1 q
                  refine zr_iload dX4_load_133 rfl ?_
                  exact zr_ret rfl rfl dX4_load_135 hw
                · have hw := hw.2 q
                  refine zr_aload_n dX4_load_104 rfl rfl ?_
                  refine zr_getR zz_cX4 zz_C0 0 (by decide) rfl zf_X4_12 dX4_load_105 ?_
                  refine zr_getR zz_cX0 zz_C1 3 (by decide) rfl zf_X4_98 dX4_load_108 ?_
                  refine zr_iload_n dX4_load_111 rfl rfl ?_
                  refine zr_iload dX4_load_112 rfl ?_
                  refine zr_iload_n dX4_load_114 rfl rfl ?_
                  refine zr_pSi (ctX4_spotOfPoint p2 x8 p3 h9 _ hw) zy_X4_spotOfPoint zm_X4_94 (by decide) rfl rfl (Nat.le_of_ble_eq_true rfl) dX4_load_115 (fun r12 hw => ?_)
                  refine zr_aload dX4_load_118 rfl ?_
                  refine zr_getR zz_cX2 (zz_psO hq2) 0 (by decide) rfl zf_X4_263 dX4_load_120 ?_
                  refine zr_iload dX4_load_123 rfl ?_
                  obtain ⟨hi, hw⟩ := hw
                  refine zr_iald (zz_psA0 hq2) hi rfl dX4_load_125 ?_
                  obtain ⟨hi, hw⟩ := hw
                  refine zr_iast zz_C5 hi rfl dX4_load_126 hw (fun h13 hw => ?_)
                  refine zr_iinc (x8 + 1) [.ref 0, .null, .int p2, .int p3, .ref (zz_sheet p1), .int (x8 + 1)] dX4_load_127 rfl (zok_1 _) (by decide) rfl rfl ?_
                  refine zr_goto 62 dX4_load_130 (by decide) ?_
                  exact ih62 _ _ hw
          have key62 : ∀ (t9 : Nat) (x8 : Int32) (h9 : zz_H), zz_lp (fun K (s : Int32 × zz_H) => wX4_load_b62 p1 p2 p3 post K s.1 s.2) t9 (x8, h9) → zz_Go zz_C 2 cX4_load RX4 6 (some .int) post 62 [] [.ref 0, .null, .int p2, .int p3, .ref (zz_sheet p1), .int x8] h9 := by
            intro t9
            induction t9 with
            | zero => intro x8 h9 hw; exact hw.elim
            | succ t9 ih => intro x8 h9 hw; exact step62 _ ih _ _ hw
          exact key62 t9 _ _ hw
        · have hw := hw.2 q
          refine zr_aload_n dX4_load_52 rfl rfl ?_
          refine zr_ldc zk_X4_65 dX4_load_53 ?_
          refine zr_callVi zz_cX4 zz_C0 (ctX4_tell ((-1000001) : Int32) h0 _ hw) zy_X4_tell zm_X4_66 (by decide) rfl rfl (Nat.le_of_ble_eq_true rfl) dX4_load_55 (fun r15 h14 hw => ?_)
          exact zr_ret rfl rfl dX4_load_58 hw
    · have hw := hw.2 q
      refine zr_aload_n dX4_load_30 rfl rfl ?_
      refine zr_ldc zk_X4_234 dX4_load_31 ?_
      refine zr_callVi zz_cX4 zz_C0 (ctX4_tell ((-1000006) : Int32) h0 _ hw) zy_X4_tell zm_X4_66 (by decide) rfl rfl (Nat.le_of_ble_eq_true rfl) dX4_load_33 (fun r17 h16 hw => ?_)
      exact zr_ret rfl rfl dX4_load_36 hw
  · have hw := hw.2 q
    refine zr_aload_n dX4_load_7 rfl rfl ?_
    refine zr_ldc zk_X4_65 dX4_load_8 ?_
    refine zr_callVi zz_cX4 zz_C0 (ctX4_tell ((-1000001) : Int32) h0 _ hw) zy_X4_tell zm_X4_66 (by decide) rfl rfl (Nat.le_of_ble_eq_true rfl) dX4_load_10 (fun r19 h18 hw => ?_)
    exact zr_ret rfl rfl dX4_load_13 hw
