section
-- ===== PART A: goes FIRST, ahead of the names: the tables' words, and 'selects' of the private methods out of them =====
/-- a private method of a class that the tables say can be made, by its rows of tables_1 -/
def lw_okq (q : MethodName × Nat) : Prop := (q.1.cls ≠ "java/lang/invoke/MethodHandle" ∧ q.1.cls ≠ "java/lang/invoke/VarHandle") ∧ Cond.instantiable q.1.cls q.2 ∈ tables_1 ∧ Cond.privateMethod q.1 ∈ tables_1 ∧ Cond.instanceMethod q.1 ∈ tables_1
theorem lw_p0 : lw_okq (⟨"MarkCurves", "tell", "(I)I"⟩, 10) := ⟨⟨by decide +kernel, by decide +kernel⟩, List.mem_of_getElem? (i := 16) (by decide +kernel), List.mem_of_getElem? (i := 205) (by decide +kernel), List.mem_of_getElem? (i := 206) (by decide +kernel)⟩
theorem lw_p1 : lw_okq (⟨"MarkCurves", "isPupil", "(I)Z"⟩, 10) := ⟨⟨by decide +kernel, by decide +kernel⟩, List.mem_of_getElem? (i := 16) (by decide +kernel), List.mem_of_getElem? (i := 240) (by decide +kernel), List.mem_of_getElem? (i := 241) (by decide +kernel)⟩
theorem lw_p2 : lw_okq (⟨"MarkCurves", "isCurve", "(I)Z"⟩, 10) := ⟨⟨by decide +kernel, by decide +kernel⟩, List.mem_of_getElem? (i := 16) (by decide +kernel), List.mem_of_getElem? (i := 334) (by decide +kernel), List.mem_of_getElem? (i := 335) (by decide +kernel)⟩
theorem lw_p3 : lw_okq (⟨"MarkCurves", "workOut", "(I)V"⟩, 10) := ⟨⟨by decide +kernel, by decide +kernel⟩, List.mem_of_getElem? (i := 16) (by decide +kernel), List.mem_of_getElem? (i := 380) (by decide +kernel), List.mem_of_getElem? (i := 381) (by decide +kernel)⟩
theorem lw_p4 : lw_okq (⟨"MarkCurves", "marksFrom", "(I)I"⟩, 10) := ⟨⟨by decide +kernel, by decide +kernel⟩, List.mem_of_getElem? (i := 16) (by decide +kernel), List.mem_of_getElem? (i := 389) (by decide +kernel), List.mem_of_getElem? (i := 390) (by decide +kernel)⟩
theorem lw_p5 : lw_okq (⟨"MarkCurves", "greatestReachedBy", "(I)I"⟩, 10) := ⟨⟨by decide +kernel, by decide +kernel⟩, List.mem_of_getElem? (i := 16) (by decide +kernel), List.mem_of_getElem? (i := 401) (by decide +kernel), List.mem_of_getElem? (i := 402) (by decide +kernel)⟩
theorem lw_p6 : lw_okq (⟨"MarkCurves", "firstBreak", "(I)I"⟩, 10) := ⟨⟨by decide +kernel, by decide +kernel⟩, List.mem_of_getElem? (i := 16) (by decide +kernel), List.mem_of_getElem? (i := 409) (by decide +kernel), List.mem_of_getElem? (i := 410) (by decide +kernel)⟩
theorem lw_p7 : lw_okq (⟨"MarkCurves", "gainOf", "(II)I"⟩, 10) := ⟨⟨by decide +kernel, by decide +kernel⟩, List.mem_of_getElem? (i := 16) (by decide +kernel), List.mem_of_getElem? (i := 425) (by decide +kernel), List.mem_of_getElem? (i := 426) (by decide +kernel)⟩
theorem lw_p8 : lw_okq (⟨"MarkCurves", "leastGainfulLoss", "(IIII)I"⟩, 10) := ⟨⟨by decide +kernel, by decide +kernel⟩, List.mem_of_getElem? (i := 16) (by decide +kernel), List.mem_of_getElem? (i := 429) (by decide +kernel), List.mem_of_getElem? (i := 430) (by decide +kernel)⟩
theorem lw_p9 : lw_okq (⟨"MarkCurvesModel", "finds", "(I)I"⟩, 16) := ⟨⟨by decide +kernel, by decide +kernel⟩, List.mem_of_getElem? (i := 755) (by decide +kernel), List.mem_of_getElem? (i := 823) (by decide +kernel), List.mem_of_getElem? (i := 824) (by decide +kernel)⟩
theorem lw_p10 : lw_okq (⟨"MarkCurvesModel", "worths", "(II)V"⟩, 16) := ⟨⟨by decide +kernel, by decide +kernel⟩, List.mem_of_getElem? (i := 755) (by decide +kernel), List.mem_of_getElem? (i := 827) (by decide +kernel), List.mem_of_getElem? (i := 828) (by decide +kernel)⟩
theorem lw_p11 : lw_okq (⟨"MarkCurvesModel", "newPupil", "(I)I"⟩, 16) := ⟨⟨by decide +kernel, by decide +kernel⟩, List.mem_of_getElem? (i := 755) (by decide +kernel), List.mem_of_getElem? (i := 846) (by decide +kernel), List.mem_of_getElem? (i := 847) (by decide +kernel)⟩
theorem lw_p12 : lw_okq (⟨"MarkCurvesModel", "isPupil", "(I)Z"⟩, 16) := ⟨⟨by decide +kernel, by decide +kernel⟩, List.mem_of_getElem? (i := 755) (by decide +kernel), List.mem_of_getElem? (i := 854) (by decide +kernel), List.mem_of_getElem? (i := 855) (by decide +kernel)⟩
theorem lw_p13 : lw_okq (⟨"MarkCurvesModel", "raw", "(I)I"⟩, 16) := ⟨⟨by decide +kernel, by decide +kernel⟩, List.mem_of_getElem? (i := 755) (by decide +kernel), List.mem_of_getElem? (i := 863) (by decide +kernel), List.mem_of_getElem? (i := 864) (by decide +kernel)⟩
theorem lw_p14 : lw_okq (⟨"MarkCurvesModel", "score", "(II)I"⟩, 16) := ⟨⟨by decide +kernel, by decide +kernel⟩, List.mem_of_getElem? (i := 755) (by decide +kernel), List.mem_of_getElem? (i := 867) (by decide +kernel), List.mem_of_getElem? (i := 868) (by decide +kernel)⟩
theorem lw_p15 : lw_okq (⟨"MarkCurvesModel", "full", "()I"⟩, 16) := ⟨⟨by decide +kernel, by decide +kernel⟩, List.mem_of_getElem? (i := 755) (by decide +kernel), List.mem_of_getElem? (i := 877) (by decide +kernel), List.mem_of_getElem? (i := 878) (by decide +kernel)⟩
def lw_privs_1 : List (MethodName × Nat) := [(⟨"MarkCurves", "tell", "(I)I"⟩, 10), (⟨"MarkCurves", "isPupil", "(I)Z"⟩, 10), (⟨"MarkCurves", "isCurve", "(I)Z"⟩, 10), (⟨"MarkCurves", "workOut", "(I)V"⟩, 10), (⟨"MarkCurves", "marksFrom", "(I)I"⟩, 10), (⟨"MarkCurves", "greatestReachedBy", "(I)I"⟩, 10), (⟨"MarkCurves", "firstBreak", "(I)I"⟩, 10), (⟨"MarkCurves", "gainOf", "(II)I"⟩, 10), (⟨"MarkCurves", "leastGainfulLoss", "(IIII)I"⟩, 10), (⟨"MarkCurvesModel", "finds", "(I)I"⟩, 16), (⟨"MarkCurvesModel", "worths", "(II)V"⟩, 16), (⟨"MarkCurvesModel", "newPupil", "(I)I"⟩, 16), (⟨"MarkCurvesModel", "isPupil", "(I)Z"⟩, 16), (⟨"MarkCurvesModel", "raw", "(I)I"⟩, 16), (⟨"MarkCurvesModel", "score", "(II)I"⟩, 16), (⟨"MarkCurvesModel", "full", "()I"⟩, 16)]
theorem lw_r1 : ∀ q ∈ lw_privs_1, lw_okq q := List.forall_mem_cons.mpr ⟨lw_p0, List.forall_mem_cons.mpr ⟨lw_p1, List.forall_mem_cons.mpr ⟨lw_p2, List.forall_mem_cons.mpr ⟨lw_p3, List.forall_mem_cons.mpr ⟨lw_p4, List.forall_mem_cons.mpr ⟨lw_p5, List.forall_mem_cons.mpr ⟨lw_p6, List.forall_mem_cons.mpr ⟨lw_p7, List.forall_mem_cons.mpr ⟨lw_p8, List.forall_mem_cons.mpr ⟨lw_p9, List.forall_mem_cons.mpr ⟨lw_p10, List.forall_mem_cons.mpr ⟨lw_p11, List.forall_mem_cons.mpr ⟨lw_p12, List.forall_mem_cons.mpr ⟨lw_p13, List.forall_mem_cons.mpr ⟨lw_p14, List.forall_mem_cons.mpr ⟨lw_p15, fun _ h => absurd h List.not_mem_nil⟩⟩⟩⟩⟩⟩⟩⟩⟩⟩⟩⟩⟩⟩⟩⟩
theorem lw_p16 : lw_okq (⟨"MarkCurvesModel", "greatest", "()I"⟩, 16) := ⟨⟨by decide +kernel, by decide +kernel⟩, List.mem_of_getElem? (i := 755) (by decide +kernel), List.mem_of_getElem? (i := 881) (by decide +kernel), List.mem_of_getElem? (i := 882) (by decide +kernel)⟩
theorem lw_p17 : lw_okq (⟨"MarkCurvesModel", "oldMean", "()I"⟩, 16) := ⟨⟨by decide +kernel, by decide +kernel⟩, List.mem_of_getElem? (i := 755) (by decide +kernel), List.mem_of_getElem? (i := 885) (by decide +kernel), List.mem_of_getElem? (i := 886) (by decide +kernel)⟩
theorem lw_p18 : lw_okq (⟨"MarkCurvesModel", "newMean", "()I"⟩, 16) := ⟨⟨by decide +kernel, by decide +kernel⟩, List.mem_of_getElem? (i := 755) (by decide +kernel), List.mem_of_getElem? (i := 889) (by decide +kernel), List.mem_of_getElem? (i := 890) (by decide +kernel)⟩
theorem lw_p19 : lw_okq (⟨"MarkCurvesModel", "commons", "()I"⟩, 16) := ⟨⟨by decide +kernel, by decide +kernel⟩, List.mem_of_getElem? (i := 755) (by decide +kernel), List.mem_of_getElem? (i := 893) (by decide +kernel), List.mem_of_getElem? (i := 894) (by decide +kernel)⟩
theorem lw_p20 : lw_okq (⟨"MarkCurvesModel", "newCurve", "(II)I"⟩, 16) := ⟨⟨by decide +kernel, by decide +kernel⟩, List.mem_of_getElem? (i := 755) (by decide +kernel), List.mem_of_getElem? (i := 912) (by decide +kernel), List.mem_of_getElem? (i := 913) (by decide +kernel)⟩
theorem lw_p21 : lw_okq (⟨"MarkCurvesModel", "isCurve", "(I)Z"⟩, 16) := ⟨⟨by decide +kernel, by decide +kernel⟩, List.mem_of_getElem? (i := 755) (by decide +kernel), List.mem_of_getElem? (i := 920) (by decide +kernel), List.mem_of_getElem? (i := 921) (by decide +kernel)⟩
theorem lw_p22 : lw_okq (⟨"MarkCurvesModel", "markOf", "(II)I"⟩, 16) := ⟨⟨by decide +kernel, by decide +kernel⟩, List.mem_of_getElem? (i := 755) (by decide +kernel), List.mem_of_getElem? (i := 936) (by decide +kernel), List.mem_of_getElem? (i := 937) (by decide +kernel)⟩
theorem lw_p23 : lw_okq (⟨"MarkCurvesModel", "stretched", "(I)I"⟩, 16) := ⟨⟨by decide +kernel, by decide +kernel⟩, List.mem_of_getElem? (i := 755) (by decide +kernel), List.mem_of_getElem? (i := 940) (by decide +kernel), List.mem_of_getElem? (i := 941) (by decide +kernel)⟩
theorem lw_p24 : lw_okq (⟨"MarkCurvesModel", "shared", "(II)I"⟩, 16) := ⟨⟨by decide +kernel, by decide +kernel⟩, List.mem_of_getElem? (i := 755) (by decide +kernel), List.mem_of_getElem? (i := 947) (by decide +kernel), List.mem_of_getElem? (i := 948) (by decide +kernel)⟩
theorem lw_p25 : lw_okq (⟨"MarkCurvesModel", "linked", "(I)I"⟩, 16) := ⟨⟨by decide +kernel, by decide +kernel⟩, List.mem_of_getElem? (i := 755) (by decide +kernel), List.mem_of_getElem? (i := 951) (by decide +kernel), List.mem_of_getElem? (i := 952) (by decide +kernel)⟩
theorem lw_p26 : lw_okq (⟨"MarkCurvesModel", "dropped", "(II)I"⟩, 16) := ⟨⟨by decide +kernel, by decide +kernel⟩, List.mem_of_getElem? (i := 755) (by decide +kernel), List.mem_of_getElem? (i := 955) (by decide +kernel), List.mem_of_getElem? (i := 956) (by decide +kernel)⟩
theorem lw_p27 : lw_okq (⟨"MarkCurvesModel", "findMarks", "(I)V"⟩, 16) := ⟨⟨by decide +kernel, by decide +kernel⟩, List.mem_of_getElem? (i := 755) (by decide +kernel), List.mem_of_getElem? (i := 963) (by decide +kernel), List.mem_of_getElem? (i := 964) (by decide +kernel)⟩
theorem lw_p28 : lw_okq (⟨"MarkCurvesModel", "breaking", "(I)I"⟩, 16) := ⟨⟨by decide +kernel, by decide +kernel⟩, List.mem_of_getElem? (i := 755) (by decide +kernel), List.mem_of_getElem? (i := 979) (by decide +kernel), List.mem_of_getElem? (i := 980) (by decide +kernel)⟩
theorem lw_p29 : lw_okq (⟨"MarkCurvesModel", "gaining", "(II)I"⟩, 16) := ⟨⟨by decide +kernel, by decide +kernel⟩, List.mem_of_getElem? (i := 755) (by decide +kernel), List.mem_of_getElem? (i := 995) (by decide +kernel), List.mem_of_getElem? (i := 996) (by decide +kernel)⟩
theorem lw_p30 : lw_okq (⟨"MarkCurvesModel", "puts", "()V"⟩, 16) := ⟨⟨by decide +kernel, by decide +kernel⟩, List.mem_of_getElem? (i := 755) (by decide +kernel), List.mem_of_getElem? (i := 1012) (by decide +kernel), List.mem_of_getElem? (i := 1013) (by decide +kernel)⟩
theorem lw_p31 : lw_okq (⟨"MarkCurvesModel", "putsBack", "()V"⟩, 16) := ⟨⟨by decide +kernel, by decide +kernel⟩, List.mem_of_getElem? (i := 755) (by decide +kernel), List.mem_of_getElem? (i := 1016) (by decide +kernel), List.mem_of_getElem? (i := 1017) (by decide +kernel)⟩
def lw_privs_2 : List (MethodName × Nat) := [(⟨"MarkCurvesModel", "greatest", "()I"⟩, 16), (⟨"MarkCurvesModel", "oldMean", "()I"⟩, 16), (⟨"MarkCurvesModel", "newMean", "()I"⟩, 16), (⟨"MarkCurvesModel", "commons", "()I"⟩, 16), (⟨"MarkCurvesModel", "newCurve", "(II)I"⟩, 16), (⟨"MarkCurvesModel", "isCurve", "(I)Z"⟩, 16), (⟨"MarkCurvesModel", "markOf", "(II)I"⟩, 16), (⟨"MarkCurvesModel", "stretched", "(I)I"⟩, 16), (⟨"MarkCurvesModel", "shared", "(II)I"⟩, 16), (⟨"MarkCurvesModel", "linked", "(I)I"⟩, 16), (⟨"MarkCurvesModel", "dropped", "(II)I"⟩, 16), (⟨"MarkCurvesModel", "findMarks", "(I)V"⟩, 16), (⟨"MarkCurvesModel", "breaking", "(I)I"⟩, 16), (⟨"MarkCurvesModel", "gaining", "(II)I"⟩, 16), (⟨"MarkCurvesModel", "puts", "()V"⟩, 16), (⟨"MarkCurvesModel", "putsBack", "()V"⟩, 16)]
theorem lw_r2 : ∀ q ∈ lw_privs_2, lw_okq q := List.forall_mem_cons.mpr ⟨lw_p16, List.forall_mem_cons.mpr ⟨lw_p17, List.forall_mem_cons.mpr ⟨lw_p18, List.forall_mem_cons.mpr ⟨lw_p19, List.forall_mem_cons.mpr ⟨lw_p20, List.forall_mem_cons.mpr ⟨lw_p21, List.forall_mem_cons.mpr ⟨lw_p22, List.forall_mem_cons.mpr ⟨lw_p23, List.forall_mem_cons.mpr ⟨lw_p24, List.forall_mem_cons.mpr ⟨lw_p25, List.forall_mem_cons.mpr ⟨lw_p26, List.forall_mem_cons.mpr ⟨lw_p27, List.forall_mem_cons.mpr ⟨lw_p28, List.forall_mem_cons.mpr ⟨lw_p29, List.forall_mem_cons.mpr ⟨lw_p30, List.forall_mem_cons.mpr ⟨lw_p31, fun _ h => absurd h List.not_mem_nil⟩⟩⟩⟩⟩⟩⟩⟩⟩⟩⟩⟩⟩⟩⟩⟩
theorem lw_p32 : lw_okq (⟨"MarkCurvesModel", "passing", "(II)I"⟩, 16) := ⟨⟨by decide +kernel, by decide +kernel⟩, List.mem_of_getElem? (i := 755) (by decide +kernel), List.mem_of_getElem? (i := 1027) (by decide +kernel), List.mem_of_getElem? (i := 1028) (by decide +kernel)⟩
theorem lw_p33 : lw_okq (⟨"MarkCurvesModel", "between", "(III)I"⟩, 16) := ⟨⟨by decide +kernel, by decide +kernel⟩, List.mem_of_getElem? (i := 755) (by decide +kernel), List.mem_of_getElem? (i := 1043) (by decide +kernel), List.mem_of_getElem? (i := 1044) (by decide +kernel)⟩
theorem lw_p34 : lw_okq (⟨"MarkCurvesModel", "apart", "(II)I"⟩, 16) := ⟨⟨by decide +kernel, by decide +kernel⟩, List.mem_of_getElem? (i := 755) (by decide +kernel), List.mem_of_getElem? (i := 1063) (by decide +kernel), List.mem_of_getElem? (i := 1064) (by decide +kernel)⟩
theorem lw_p35 : lw_okq (⟨"MarkCurvesModel", "countsOf", "(I)I"⟩, 16) := ⟨⟨by decide +kernel, by decide +kernel⟩, List.mem_of_getElem? (i := 755) (by decide +kernel), List.mem_of_getElem? (i := 1082) (by decide +kernel), List.mem_of_getElem? (i := 1083) (by decide +kernel)⟩
theorem lw_p36 : lw_okq (⟨"MarkCurvesModel", "token", "()V"⟩, 16) := ⟨⟨by decide +kernel, by decide +kernel⟩, List.mem_of_getElem? (i := 755) (by decide +kernel), List.mem_of_getElem? (i := 1107) (by decide +kernel), List.mem_of_getElem? (i := 1108) (by decide +kernel)⟩
theorem lw_p37 : lw_okq (⟨"MarkCurvesModel", "byteAt", "(I)I"⟩, 16) := ⟨⟨by decide +kernel, by decide +kernel⟩, List.mem_of_getElem? (i := 755) (by decide +kernel), List.mem_of_getElem? (i := 1111) (by decide +kernel), List.mem_of_getElem? (i := 1112) (by decide +kernel)⟩
theorem lw_p38 : lw_okq (⟨"MarkCurvesModel", "item", "()V"⟩, 16) := ⟨⟨by decide +kernel, by decide +kernel⟩, List.mem_of_getElem? (i := 755) (by decide +kernel), List.mem_of_getElem? (i := 1125) (by decide +kernel), List.mem_of_getElem? (i := 1126) (by decide +kernel)⟩
theorem lw_p39 : lw_okq (⟨"MarkCurvesModel", "kindHere", "()I"⟩, 16) := ⟨⟨by decide +kernel, by decide +kernel⟩, List.mem_of_getElem? (i := 755) (by decide +kernel), List.mem_of_getElem? (i := 1129) (by decide +kernel), List.mem_of_getElem? (i := 1130) (by decide +kernel)⟩
theorem lw_p40 : lw_okq (⟨"MarkCurvesModel", "isWord", "(IIIIIIIII)Z"⟩, 16) := ⟨⟨by decide +kernel, by decide +kernel⟩, List.mem_of_getElem? (i := 755) (by decide +kernel), List.mem_of_getElem? (i := 1133) (by decide +kernel), List.mem_of_getElem? (i := 1134) (by decide +kernel)⟩
theorem lw_p41 : lw_okq (⟨"MarkCurvesModel", "isLetterAt", "(II)Z"⟩, 16) := ⟨⟨by decide +kernel, by decide +kernel⟩, List.mem_of_getElem? (i := 755) (by decide +kernel), List.mem_of_getElem? (i := 1137) (by decide +kernel), List.mem_of_getElem? (i := 1138) (by decide +kernel)⟩
theorem lw_p42 : lw_okq (⟨"MarkCurvesModel", "curveItem", "(I)V"⟩, 16) := ⟨⟨by decide +kernel, by decide +kernel⟩, List.mem_of_getElem? (i := 755) (by decide +kernel), List.mem_of_getElem? (i := 1141) (by decide +kernel), List.mem_of_getElem? (i := 1142) (by decide +kernel)⟩
theorem lw_p43 : lw_okq (⟨"MarkCurvesModel", "needs", "(Z)V"⟩, 16) := ⟨⟨by decide +kernel, by decide +kernel⟩, List.mem_of_getElem? (i := 755) (by decide +kernel), List.mem_of_getElem? (i := 1145) (by decide +kernel), List.mem_of_getElem? (i := 1146) (by decide +kernel)⟩
theorem lw_p44 : lw_okq (⟨"MarkCurvesModel", "number", "(II)V"⟩, 16) := ⟨⟨by decide +kernel, by decide +kernel⟩, List.mem_of_getElem? (i := 755) (by decide +kernel), List.mem_of_getElem? (i := 1149) (by decide +kernel), List.mem_of_getElem? (i := 1150) (by decide +kernel)⟩
theorem lw_p45 : lw_okq (⟨"MarkCurvesModel", "pupilItem", "()V"⟩, 16) := ⟨⟨by decide +kernel, by decide +kernel⟩, List.mem_of_getElem? (i := 755) (by decide +kernel), List.mem_of_getElem? (i := 1153) (by decide +kernel), List.mem_of_getElem? (i := 1154) (by decide +kernel)⟩
theorem lw_p46 : lw_okq (⟨"MarkCurvesModel", "wrong", "(I)I"⟩, 16) := ⟨⟨by decide +kernel, by decide +kernel⟩, List.mem_of_getElem? (i := 755) (by decide +kernel), List.mem_of_getElem? (i := 1179) (by decide +kernel), List.mem_of_getElem? (i := 1180) (by decide +kernel)⟩
def lw_privs_3 : List (MethodName × Nat) := [(⟨"MarkCurvesModel", "passing", "(II)I"⟩, 16), (⟨"MarkCurvesModel", "between", "(III)I"⟩, 16), (⟨"MarkCurvesModel", "apart", "(II)I"⟩, 16), (⟨"MarkCurvesModel", "countsOf", "(I)I"⟩, 16), (⟨"MarkCurvesModel", "token", "()V"⟩, 16), (⟨"MarkCurvesModel", "byteAt", "(I)I"⟩, 16), (⟨"MarkCurvesModel", "item", "()V"⟩, 16), (⟨"MarkCurvesModel", "kindHere", "()I"⟩, 16), (⟨"MarkCurvesModel", "isWord", "(IIIIIIIII)Z"⟩, 16), (⟨"MarkCurvesModel", "isLetterAt", "(II)Z"⟩, 16), (⟨"MarkCurvesModel", "curveItem", "(I)V"⟩, 16), (⟨"MarkCurvesModel", "needs", "(Z)V"⟩, 16), (⟨"MarkCurvesModel", "number", "(II)V"⟩, 16), (⟨"MarkCurvesModel", "pupilItem", "()V"⟩, 16), (⟨"MarkCurvesModel", "wrong", "(I)I"⟩, 16)]
theorem lw_r3 : ∀ q ∈ lw_privs_3, lw_okq q := List.forall_mem_cons.mpr ⟨lw_p32, List.forall_mem_cons.mpr ⟨lw_p33, List.forall_mem_cons.mpr ⟨lw_p34, List.forall_mem_cons.mpr ⟨lw_p35, List.forall_mem_cons.mpr ⟨lw_p36, List.forall_mem_cons.mpr ⟨lw_p37, List.forall_mem_cons.mpr ⟨lw_p38, List.forall_mem_cons.mpr ⟨lw_p39, List.forall_mem_cons.mpr ⟨lw_p40, List.forall_mem_cons.mpr ⟨lw_p41, List.forall_mem_cons.mpr ⟨lw_p42, List.forall_mem_cons.mpr ⟨lw_p43, List.forall_mem_cons.mpr ⟨lw_p44, List.forall_mem_cons.mpr ⟨lw_p45, List.forall_mem_cons.mpr ⟨lw_p46, fun _ h => absurd h List.not_mem_nil⟩⟩⟩⟩⟩⟩⟩⟩⟩⟩⟩⟩⟩⟩⟩
def lw_privs : List (MethodName × Nat) := lw_privs_1 ++ (lw_privs_2 ++ (lw_privs_3))
def lw_tbl : List Cond := k2_sels lw_privs ++ tables_1
theorem lw_privs_ok : ∀ q ∈ lw_privs, lw_okq q := by
  show ∀ q ∈ lw_privs_1 ++ (lw_privs_2 ++ (lw_privs_3)), lw_okq q
  exact List.forall_mem_append.mpr ⟨lw_r1, List.forall_mem_append.mpr ⟨lw_r2, lw_r3⟩⟩
end
section
def RX0 : String := "MarkCurves$Paper"
def TX0 : u_T := fun k => match k with
  | 0 => ("MarkCurves$Paper", "worths", "[I", true)
  | 1 => ("MarkCurves$Paper", "olds", "[I", true)
  | 2 => ("MarkCurves$Paper", "classes", "[I", true)
  | 3 => ("MarkCurves$Paper", "points", "[I", true)
  | 4 => ("MarkCurves$Paper", "kinds", "[I", true)
  | 5 => ("MarkCurves$Paper", "bys", "[I", true)
  | 6 => ("MarkCurves$Paper", "spots", "[I", true)
  | 7 => ("MarkCurves$Paper", "pupils", "I", false)
  | 8 => ("MarkCurves$Paper", "curves", "I", false)
  | _ => ("MarkCurves$Paper", "z", "I", false)
def tyX0 : Nat → FieldType := fun k => match k with
  | 0 => .array .int
  | 1 => .array .int
  | 2 => .array .int
  | 3 => .array .int
  | 4 => .array .int
  | 5 => .array .int
  | 6 => .array .int
  | 7 => .int
  | 8 => .int
  | _ => .int
theorem nmX0 : ∀ a, a < 10 → ∀ b, b < 10 → a ≠ b → (TX0 a).2.1 ≠ (TX0 b).2.1 := by decide +kernel
theorem tyX0_ok : ∀ k, k < 10 → parseFieldDescriptor (TX0 k).2.2.1 = some (tyX0 k) := by decide +kernel
abbrev cX0_init : ByteArray := prog_2_method_1_code
def yX0_init : MethodName := ⟨RX0, "<init>", "()V"⟩
abbrev cX0_takeFrom : ByteArray := prog_2_method_2_code
def yX0_takeFrom : MethodName := ⟨RX0, "takeFrom", "(LMarkCurves$Paper;)V"⟩
abbrev cX0_setWorth : ByteArray := prog_2_method_3_code
def yX0_setWorth : MethodName := ⟨RX0, "setWorth", "(II)V"⟩
abbrev cX0_addPupil : ByteArray := prog_2_method_4_code
def yX0_addPupil : MethodName := ⟨RX0, "addPupil", "(I)I"⟩
abbrev cX0_addCurve : ByteArray := prog_2_method_5_code
def yX0_addCurve : MethodName := ⟨RX0, "addCurve", "(II)I"⟩
abbrev cX0_setBoth : ByteArray := prog_2_method_6_code
def yX0_setBoth : MethodName := ⟨RX0, "setBoth", "(III)V"⟩
abbrev cX0_scoreOf : ByteArray := prog_2_method_7_code
def yX0_scoreOf : MethodName := ⟨RX0, "scoreOf", "(II)I"⟩
abbrev cX0_rawOf : ByteArray := prog_2_method_8_code
def yX0_rawOf : MethodName := ⟨RX0, "rawOf", "(I)I"⟩
abbrev cX0_leanIn : ByteArray := prog_2_method_9_code
def yX0_leanIn : MethodName := ⟨RX0, "leanIn", "(II)I"⟩
abbrev cX0_markersApart : ByteArray := prog_2_method_10_code
def yX0_markersApart : MethodName := ⟨RX0, "markersApart", "(I)I"⟩
abbrev cX0_commonSet : ByteArray := prog_2_method_11_code
def yX0_commonSet : MethodName := ⟨RX0, "commonSet", "()I"⟩
abbrev cX0_spotsInUse : ByteArray := prog_2_method_12_code
def yX0_spotsInUse : MethodName := ⟨RX0, "spotsInUse", "()I"⟩
abbrev cX0_nextDraw : ByteArray := prog_2_method_13_code
def yX0_nextDraw : MethodName := ⟨RX0, "nextDraw", "()I"⟩
def RX1 : String := "MarkCurves$Scores"
def TX1 : u_T := fun k => match k with
  | 0 => ("MarkCurves$Scores", "worths", "[I", true)
  | 1 => ("MarkCurves$Scores", "scores", "[I", true)
  | 2 => ("MarkCurves$Scores", "raws", "[I", true)
  | 3 => ("MarkCurves$Scores", "pupils", "I", false)
  | 4 => ("MarkCurves$Scores", "full", "I", false)
  | 5 => ("MarkCurves$Scores", "commons", "I", false)
  | 6 => ("MarkCurves$Scores", "oldMean", "I", false)
  | _ => ("MarkCurves$Scores", "commonSum", "I", false)
def tyX1 : Nat → FieldType := fun k => match k with
  | 0 => .array .int
  | 1 => .array .int
  | 2 => .array .int
  | 3 => .int
  | 4 => .int
  | 5 => .int
  | 6 => .int
  | _ => .int
theorem nmX1 : ∀ a, a < 8 → ∀ b, b < 8 → a ≠ b → (TX1 a).2.1 ≠ (TX1 b).2.1 := by decide +kernel
theorem tyX1_ok : ∀ k, k < 8 → parseFieldDescriptor (TX1 k).2.2.1 = some (tyX1 k) := by decide +kernel
abbrev cX1_init : ByteArray := prog_3_method_1_code
def yX1_init : MethodName := ⟨RX1, "<init>", "()V"⟩
abbrev cX1_read : ByteArray := prog_3_method_2_code
def yX1_read : MethodName := ⟨RX1, "read", "(LMarkCurves$Paper;)V"⟩
abbrev cX1_isCommon : ByteArray := prog_3_method_3_code
def yX1_isCommon : MethodName := ⟨RX1, "isCommon", "(I)Z"⟩
abbrev cX1_scoreOf : ByteArray := prog_3_method_4_code
def yX1_scoreOf : MethodName := ⟨RX1, "scoreOf", "(II)I"⟩
abbrev cX1_setScore : ByteArray := prog_3_method_5_code
def yX1_setScore : MethodName := ⟨RX1, "setScore", "(III)V"⟩
abbrev cX1_strike : ByteArray := prog_3_method_6_code
def yX1_strike : MethodName := ⟨RX1, "strike", "(I)V"⟩
abbrev cX1_join : ByteArray := prog_3_method_7_code
def yX1_join : MethodName := ⟨RX1, "join", "(I)V"⟩
abbrev cX1_greatestRaw : ByteArray := prog_3_method_8_code
def yX1_greatestRaw : MethodName := ⟨RX1, "greatestRaw", "()I"⟩
abbrev cX1_sumOfRaws : ByteArray := prog_3_method_9_code
def yX1_sumOfRaws : MethodName := ⟨RX1, "sumOfRaws", "()I"⟩
abbrev cX1_newMean : ByteArray := prog_3_method_10_code
def yX1_newMean : MethodName := ⟨RX1, "newMean", "()I"⟩
abbrev cX1_spreadIn : ByteArray := prog_3_method_11_code
def yX1_spreadIn : MethodName := ⟨RX1, "spreadIn", "(I)I"⟩
abbrev cX1_markAll : ByteArray := prog_3_method_12_code
def yX1_markAll : MethodName := ⟨RX1, "markAll", "(II[I)V"⟩
abbrev cX1_markOf : ByteArray := prog_3_method_13_code
def yX1_markOf : MethodName := ⟨RX1, "markOf", "(III)I"⟩
abbrev cX1_stretched : ByteArray := prog_3_method_14_code
def yX1_stretched : MethodName := ⟨RX1, "stretched", "(I)I"⟩
abbrev cX1_rootOf : ByteArray := prog_3_method_15_code
def yX1_rootOf : MethodName := ⟨RX1, "rootOf", "(I)I"⟩
abbrev cX1_shared : ByteArray := prog_3_method_16_code
def yX1_shared : MethodName := ⟨RX1, "shared", "(II)I"⟩
abbrev cX1_linked : ByteArray := prog_3_method_17_code
def yX1_linked : MethodName := ⟨RX1, "linked", "(I)I"⟩
abbrev cX1_leavingOut : ByteArray := prog_3_method_18_code
def yX1_leavingOut : MethodName := ⟨RX1, "leavingOut", "(II)I"⟩
def RX2 : String := "MarkCurves$Sheet"
def TX2 : u_T := fun k => match k with
  | 0 => ("MarkCurves$Sheet", "numbers", "[I", true)
  | 1 => ("MarkCurves$Sheet", "bits", "I", false)
  | _ => ("MarkCurves$Sheet", "size", "I", false)
def tyX2 : Nat → FieldType := fun k => match k with
  | 0 => .array .int
  | 1 => .int
  | _ => .int
theorem nmX2 : ∀ a, a < 3 → ∀ b, b < 3 → a ≠ b → (TX2 a).2.1 ≠ (TX2 b).2.1 := by decide +kernel
theorem tyX2_ok : ∀ k, k < 3 → parseFieldDescriptor (TX2 k).2.2.1 = some (tyX2 k) := by decide +kernel
abbrev cX2_init : ByteArray := prog_4_method_1_code
def yX2_init : MethodName := ⟨RX2, "<init>", "()V"⟩
abbrev cX2_isMissing : ByteArray := prog_4_method_2_code
def yX2_isMissing : MethodName := ⟨RX2, "isMissing", "()Z"⟩
abbrev cX2_renew : ByteArray := prog_4_method_3_code
def yX2_renew : MethodName := ⟨RX2, "renew", "(II)V"⟩
abbrev cX2_put : ByteArray := prog_4_method_4_code
def yX2_put : MethodName := ⟨RX2, "put", "(II)V"⟩
abbrev cX2_hasRun : ByteArray := prog_4_method_5_code
def yX2_hasRun : MethodName := ⟨RX2, "hasRun", "(II)Z"⟩
def RX3 : String := "MarkCurves$Tape"
def TX3 : u_T := fun k => match k with
  | 0 => ("MarkCurves$Tape", "bytes", "[I", true)
  | 1 => ("MarkCurves$Tape", "length", "I", false)
  | 2 => ("MarkCurves$Tape", "token", "I", false)
  | 3 => ("MarkCurves$Tape", "begin", "I", false)
  | 4 => ("MarkCurves$Tape", "behind", "I", false)
  | _ => ("MarkCurves$Tape", "value", "I", false)
def tyX3 : Nat → FieldType := fun k => match k with
  | 0 => .array .int
  | 1 => .int
  | 2 => .int
  | 3 => .int
  | 4 => .int
  | _ => .int
theorem nmX3 : ∀ a, a < 6 → ∀ b, b < 6 → a ≠ b → (TX3 a).2.1 ≠ (TX3 b).2.1 := by decide +kernel
theorem tyX3_ok : ∀ k, k < 6 → parseFieldDescriptor (TX3 k).2.2.1 = some (tyX3 k) := by decide +kernel
abbrev cX3_init : ByteArray := prog_5_method_1_code
def yX3_init : MethodName := ⟨RX3, "<init>", "()V"⟩
abbrev cX3_add : ByteArray := prog_5_method_2_code
def yX3_add : MethodName := ⟨RX3, "add", "(I)V"⟩
abbrev cX3_readInto : ByteArray := prog_5_method_3_code
def yX3_readInto : MethodName := ⟨RX3, "readInto", "(LMarkCurves$Paper;)I"⟩
abbrev cX3_readItem : ByteArray := prog_5_method_4_code
def yX3_readItem : MethodName := ⟨RX3, "readItem", "(LMarkCurves$Paper;)Z"⟩
abbrev cX3_readQuestion : ByteArray := prog_5_method_5_code
def yX3_readQuestion : MethodName := ⟨RX3, "readQuestion", "(LMarkCurves$Paper;)Z"⟩
abbrev cX3_readCommon : ByteArray := prog_5_method_6_code
def yX3_readCommon : MethodName := ⟨RX3, "readCommon", "(LMarkCurves$Paper;)Z"⟩
abbrev cX3_readPupil : ByteArray := prog_5_method_7_code
def yX3_readPupil : MethodName := ⟨RX3, "readPupil", "(LMarkCurves$Paper;)Z"⟩
abbrev cX3_readCurve : ByteArray := prog_5_method_8_code
def yX3_readCurve : MethodName := ⟨RX3, "readCurve", "(LMarkCurves$Paper;I)Z"⟩
abbrev cX3_kindOfWord : ByteArray := prog_5_method_9_code
def yX3_kindOfWord : MethodName := ⟨RX3, "kindOfWord", "()I"⟩
abbrev cX3_isNumber : ByteArray := prog_5_method_10_code
def yX3_isNumber : MethodName := ⟨RX3, "isNumber", "(I)Z"⟩
abbrev cX3_isWord : ByteArray := prog_5_method_11_code
def yX3_isWord : MethodName := ⟨RX3, "isWord", "(Ljava/lang/String;)Z"⟩
abbrev cX3_step : ByteArray := prog_5_method_12_code
def yX3_step : MethodName := ⟨RX3, "step", "()V"⟩
abbrev cX3_stepOverDigits : ByteArray := prog_5_method_13_code
def yX3_stepOverDigits : MethodName := ⟨RX3, "stepOverDigits", "()V"⟩
abbrev cX3_isLetter : ByteArray := prog_5_method_14_code
def yX3_isLetter : MethodName := ⟨RX3, "isLetter", "(I)Z"⟩
abbrev cX3_isDigit : ByteArray := prog_5_method_15_code
def yX3_isDigit : MethodName := ⟨RX3, "isDigit", "(I)Z"⟩
def RX4 : String := "MarkCurves"
def TX4 : u_T := fun k => match k with
  | 0 => ("MarkCurves", "now", "LMarkCurves$Paper;", true)
  | 1 => ("MarkCurves", "kept", "LMarkCurves$Paper;", true)
  | 2 => ("MarkCurves", "draft", "LMarkCurves$Paper;", true)
  | 3 => ("MarkCurves", "scores", "LMarkCurves$Scores;", true)
  | 4 => ("MarkCurves", "tape", "LMarkCurves$Tape;", true)
  | 5 => ("MarkCurves", "sheets", "[LMarkCurves$Sheet;", true)
  | 6 => ("MarkCurves", "marks", "[I", true)
  | 7 => ("MarkCurves", "others", "[I", true)
  | 8 => ("MarkCurves", "findings", "[I", true)
  | _ => ("MarkCurves", "somethingKept", "Z", false)
def tyX4 : Nat → FieldType := fun k => match k with
  | 0 => .object "MarkCurves$Paper"
  | 1 => .object "MarkCurves$Paper"
  | 2 => .object "MarkCurves$Paper"
  | 3 => .object "MarkCurves$Scores"
  | 4 => .object "MarkCurves$Tape"
  | 5 => .array (.object "MarkCurves$Sheet")
  | 6 => .array .int
  | 7 => .array .int
  | 8 => .array .int
  | _ => .boolean
theorem nmX4 : ∀ a, a < 10 → ∀ b, b < 10 → a ≠ b → (TX4 a).2.1 ≠ (TX4 b).2.1 := by decide +kernel
theorem tyX4_ok : ∀ k, k < 10 → parseFieldDescriptor (TX4 k).2.2.1 = some (tyX4 k) := by decide +kernel
abbrev cX4_init : ByteArray := prog_1_method_1_code
def yX4_init : MethodName := ⟨RX4, "<init>", "()V"⟩
abbrev cX4_worth : ByteArray := prog_1_method_2_code
def yX4_worth : MethodName := ⟨RX4, "worth", "(II)I"⟩
abbrev cX4_common : ByteArray := prog_1_method_3_code
def yX4_common : MethodName := ⟨RX4, "common", "(II)I"⟩
abbrev cX4_pupil : ByteArray := prog_1_method_4_code
def yX4_pupil : MethodName := ⟨RX4, "pupil", "(I)I"⟩
abbrev cX4_point : ByteArray := prog_1_method_5_code
def yX4_point : MethodName := ⟨RX4, "point", "(IIII)I"⟩
abbrev cX4_pupilOf : ByteArray := prog_1_method_6_code
def yX4_pupilOf : MethodName := ⟨RX4, "pupilOf", "(II)I"⟩
abbrev cX4_paper : ByteArray := prog_1_method_7_code
def yX4_paper : MethodName := ⟨RX4, "paper", "(I)I"⟩
abbrev cX4_drawn : ByteArray := prog_1_method_8_code
def yX4_drawn : MethodName := ⟨RX4, "drawn", "(II)I"⟩
abbrev cX4_drop : ByteArray := prog_1_method_9_code
def yX4_drop : MethodName := ⟨RX4, "drop", "()I"⟩
abbrev cX4_curve : ByteArray := prog_1_method_10_code
def yX4_curve : MethodName := ⟨RX4, "curve", "(II)I"⟩
abbrev cX4_curveOf : ByteArray := prog_1_method_11_code
def yX4_curveOf : MethodName := ⟨RX4, "curveOf", "(II)I"⟩
abbrev cX4_turn : ByteArray := prog_1_method_12_code
def yX4_turn : MethodName := ⟨RX4, "turn", "(II)I"⟩
abbrev cX4_by : ByteArray := prog_1_method_13_code
def yX4_by : MethodName := ⟨RX4, "by", "(II)I"⟩
abbrev cX4_mark : ByteArray := prog_1_method_14_code
def yX4_mark : MethodName := ⟨RX4, "mark", "(II)I"⟩
abbrev cX4_place : ByteArray := prog_1_method_15_code
def yX4_place : MethodName := ⟨RX4, "place", "(II)I"⟩
abbrev cX4_sum : ByteArray := prog_1_method_16_code
def yX4_sum : MethodName := ⟨RX4, "sum", "(II)I"⟩
abbrev cX4_middle : ByteArray := prog_1_method_17_code
def yX4_middle : MethodName := ⟨RX4, "middle", "(I)I"⟩
abbrev cX4_keeps : ByteArray := prog_1_method_18_code
def yX4_keeps : MethodName := ⟨RX4, "keeps", "(I)I"⟩
abbrev cX4_breaks : ByteArray := prog_1_method_19_code
def yX4_breaks : MethodName := ⟨RX4, "breaks", "(I)I"⟩
abbrev cX4_heaped : ByteArray := prog_1_method_20_code
def yX4_heaped : MethodName := ⟨RX4, "heaped", "(I)I"⟩
abbrev cX4_gains : ByteArray := prog_1_method_21_code
def yX4_gains : MethodName := ⟨RX4, "gains", "(I)I"⟩
abbrev cX4_gainsBy : ByteArray := prog_1_method_22_code
def yX4_gainsBy : MethodName := ⟨RX4, "gainsBy", "(II)I"⟩
abbrev cX4_moves : ByteArray := prog_1_method_23_code
def yX4_moves : MethodName := ⟨RX4, "moves", "(II)I"⟩
abbrev cX4_without : ByteArray := prog_1_method_24_code
def yX4_without : MethodName := ⟨RX4, "without", "(II)I"⟩
abbrev cX4_pass : ByteArray := prog_1_method_25_code
def yX4_pass : MethodName := ⟨RX4, "pass", "(II)I"⟩
abbrev cX4_line : ByteArray := prog_1_method_26_code
def yX4_line : MethodName := ⟨RX4, "line", "(II)I"⟩
abbrev cX4_heap : ByteArray := prog_1_method_27_code
def yX4_heap : MethodName := ⟨RX4, "heap", "(II)I"⟩
abbrev cX4_kindest : ByteArray := prog_1_method_28_code
def yX4_kindest : MethodName := ⟨RX4, "kindest", "(I)I"⟩
abbrev cX4_byFor : ByteArray := prog_1_method_29_code
def yX4_byFor : MethodName := ⟨RX4, "byFor", "(II)I"⟩
abbrev cX4_letters : ByteArray := prog_1_method_30_code
def yX4_letters : MethodName := ⟨RX4, "letters", "(III)I"⟩
abbrev cX4_lean : ByteArray := prog_1_method_31_code
def yX4_lean : MethodName := ⟨RX4, "lean", "()I"⟩
abbrev cX4_right : ByteArray := prog_1_method_32_code
def yX4_right : MethodName := ⟨RX4, "right", "(I)I"⟩
abbrev cX4_unlike : ByteArray := prog_1_method_33_code
def yX4_unlike : MethodName := ⟨RX4, "unlike", "(I)I"⟩
abbrev cX4_counts : ByteArray := prog_1_method_34_code
def yX4_counts : MethodName := ⟨RX4, "counts", "(I)I"⟩
abbrev cX4_heavy : ByteArray := prog_1_method_35_code
def yX4_heavy : MethodName := ⟨RX4, "heavy", "()I"⟩
abbrev cX4_seed : ByteArray := prog_1_method_36_code
def yX4_seed : MethodName := ⟨RX4, "seed", "(I)I"⟩
abbrev cX4_feed : ByteArray := prog_1_method_37_code
def yX4_feed : MethodName := ⟨RX4, "feed", "(II)I"⟩
abbrev cX4_wipe : ByteArray := prog_1_method_38_code
def yX4_wipe : MethodName := ⟨RX4, "wipe", "()I"⟩
abbrev cX4_text : ByteArray := prog_1_method_39_code
def yX4_text : MethodName := ⟨RX4, "text", "()I"⟩
abbrev cX4_hold : ByteArray := prog_1_method_40_code
def yX4_hold : MethodName := ⟨RX4, "hold", "(II)I"⟩
abbrev cX4_as : ByteArray := prog_1_method_41_code
def yX4_as : MethodName := ⟨RX4, "as", "(II)I"⟩
abbrev cX4_sheet : ByteArray := prog_1_method_42_code
def yX4_sheet : MethodName := ⟨RX4, "sheet", "(III)I"⟩
abbrev cX4_write : ByteArray := prog_1_method_43_code
def yX4_write : MethodName := ⟨RX4, "write", "(III)I"⟩
abbrev cX4_copy : ByteArray := prog_1_method_44_code
def yX4_copy : MethodName := ⟨RX4, "copy", "(IIIII)I"⟩
abbrev cX4_load : ByteArray := prog_1_method_45_code
def yX4_load : MethodName := ⟨RX4, "load", "(III)I"⟩
abbrev cX4_judge : ByteArray := prog_1_method_46_code
def yX4_judge : MethodName := ⟨RX4, "judge", "(II)I"⟩
abbrev cX4_image : ByteArray := prog_1_method_47_code
def yX4_image : MethodName := ⟨RX4, "image", "()I"⟩
abbrev cX4_undo : ByteArray := prog_1_method_48_code
def yX4_undo : MethodName := ⟨RX4, "undo", "()I"⟩
abbrev cX4_tear : ByteArray := prog_1_method_49_code
def yX4_tear : MethodName := ⟨RX4, "tear", "()I"⟩
abbrev cX4_count : ByteArray := prog_1_method_50_code
def yX4_count : MethodName := ⟨RX4, "count", "(I)I"⟩
abbrev cX4_status : ByteArray := prog_1_method_51_code
def yX4_status : MethodName := ⟨RX4, "status", "(I)I"⟩
abbrev cX4_tell : ByteArray := prog_1_method_52_code
def yX4_tell : MethodName := ⟨RX4, "tell", "(I)I"⟩
abbrev cX4_within : ByteArray := prog_1_method_53_code
def yX4_within : MethodName := ⟨RX4, "within", "(III)Z"⟩
abbrev cX4_isQuestion : ByteArray := prog_1_method_54_code
def yX4_isQuestion : MethodName := ⟨RX4, "isQuestion", "(I)Z"⟩
abbrev cX4_isMarker : ByteArray := prog_1_method_55_code
def yX4_isMarker : MethodName := ⟨RX4, "isMarker", "(I)Z"⟩
abbrev cX4_isKind : ByteArray := prog_1_method_56_code
def yX4_isKind : MethodName := ⟨RX4, "isKind", "(I)Z"⟩
abbrev cX4_isBy : ByteArray := prog_1_method_57_code
def yX4_isBy : MethodName := ⟨RX4, "isBy", "(I)Z"⟩
abbrev cX4_isLine : ByteArray := prog_1_method_58_code
def yX4_isLine : MethodName := ⟨RX4, "isLine", "(I)Z"⟩
abbrev cX4_isSpot : ByteArray := prog_1_method_59_code
def yX4_isSpot : MethodName := ⟨RX4, "isSpot", "(I)Z"⟩
abbrev cX4_isSheet : ByteArray := prog_1_method_60_code
def yX4_isSheet : MethodName := ⟨RX4, "isSheet", "(I)Z"⟩
abbrev cX4_isPupil : ByteArray := prog_1_method_61_code
def yX4_isPupil : MethodName := ⟨RX4, "isPupil", "(I)Z"⟩
abbrev cX4_isCurve : ByteArray := prog_1_method_62_code
def yX4_isCurve : MethodName := ⟨RX4, "isCurve", "(I)Z"⟩
abbrev cX4_spotOfPoint : ByteArray := prog_1_method_63_code
def yX4_spotOfPoint : MethodName := ⟨RX4, "spotOfPoint", "(III)I"⟩
abbrev cX4_isUnder : ByteArray := prog_1_method_64_code
def yX4_isUnder : MethodName := ⟨RX4, "isUnder", "(II)Z"⟩
abbrev cX4_workOut : ByteArray := prog_1_method_65_code
def yX4_workOut : MethodName := ⟨RX4, "workOut", "(I)V"⟩
abbrev cX4_marksFrom : ByteArray := prog_1_method_66_code
def yX4_marksFrom : MethodName := ⟨RX4, "marksFrom", "(I)I"⟩
abbrev cX4_greatestReachedBy : ByteArray := prog_1_method_67_code
def yX4_greatestReachedBy : MethodName := ⟨RX4, "greatestReachedBy", "(I)I"⟩
abbrev cX4_firstBreak : ByteArray := prog_1_method_68_code
def yX4_firstBreak : MethodName := ⟨RX4, "firstBreak", "(I)I"⟩
abbrev cX4_gainOf : ByteArray := prog_1_method_69_code
def yX4_gainOf : MethodName := ⟨RX4, "gainOf", "(II)I"⟩
abbrev cX4_leastGainfulLoss : ByteArray := prog_1_method_70_code
def yX4_leastGainfulLoss : MethodName := ⟨RX4, "leastGainfulLoss", "(IIII)I"⟩
def RX5 : String := "MarkCurvesModel"
def TX5 : u_T := fun k => match k with
  | 0 => ("MarkCurvesModel", "s", "[I", true)
  | 1 => ("MarkCurvesModel", "keptS", "[I", true)
  | 2 => ("MarkCurvesModel", "other", "[I", true)
  | 3 => ("MarkCurvesModel", "statuses", "[I", true)
  | 4 => ("MarkCurvesModel", "isKept", "Z", false)
  | 5 => ("MarkCurvesModel", "marks", "[I", true)
  | 6 => ("MarkCurvesModel", "tape", "[I", true)
  | 7 => ("MarkCurvesModel", "taped", "I", false)
  | 8 => ("MarkCurvesModel", "from", "I", false)
  | 9 => ("MarkCurvesModel", "to", "I", false)
  | 10 => ("MarkCurvesModel", "value", "I", false)
  | 11 => ("MarkCurvesModel", "isWrong", "Z", false)
  | 12 => ("MarkCurvesModel", "bitsOf", "[I", true)
  | 13 => ("MarkCurvesModel", "sizeOf", "[I", true)
  | 14 => ("MarkCurvesModel", "number", "[I", true)
  | _ => ("MarkCurvesModel", "moved", "[I", true)
def tyX5 : Nat → FieldType := fun k => match k with
  | 0 => .array .int
  | 1 => .array .int
  | 2 => .array .int
  | 3 => .array .int
  | 4 => .boolean
  | 5 => .array .int
  | 6 => .array .int
  | 7 => .int
  | 8 => .int
  | 9 => .int
  | 10 => .int
  | 11 => .boolean
  | 12 => .array .int
  | 13 => .array .int
  | 14 => .array .int
  | _ => .array .int
theorem nmX5 : ∀ a, a < 16 → ∀ b, b < 16 → a ≠ b → (TX5 a).2.1 ≠ (TX5 b).2.1 := by decide +kernel
theorem tyX5_ok : ∀ k, k < 16 → parseFieldDescriptor (TX5 k).2.2.1 = some (tyX5 k) := by decide +kernel
abbrev cX5_init : ByteArray := prog_7_method_1_code
def yX5_init : MethodName := ⟨RX5, "<init>", "()V"⟩
abbrev cX5_in : ByteArray := prog_7_method_2_code
def yX5_in : MethodName := ⟨RX5, "in", "(JJJ)Z"⟩
abbrev cX5_finds : ByteArray := prog_7_method_3_code
def yX5_finds : MethodName := ⟨RX5, "finds", "(I)I"⟩
abbrev cX5_isQuestion : ByteArray := prog_7_method_4_code
def yX5_isQuestion : MethodName := ⟨RX5, "isQuestion", "(I)Z"⟩
abbrev cX5_isPupil : ByteArray := prog_7_method_5_code
def yX5_isPupil : MethodName := ⟨RX5, "isPupil", "(I)Z"⟩
abbrev cX5_isCurve : ByteArray := prog_7_method_6_code
def yX5_isCurve : MethodName := ⟨RX5, "isCurve", "(I)Z"⟩
abbrev cX5_isLine : ByteArray := prog_7_method_7_code
def yX5_isLine : MethodName := ⟨RX5, "isLine", "(I)Z"⟩
abbrev cX5_at : ByteArray := prog_7_method_8_code
def yX5_at : MethodName := ⟨RX5, "at", "(III)I"⟩
abbrev cX5_puts : ByteArray := prog_7_method_9_code
def yX5_puts : MethodName := ⟨RX5, "puts", "()V"⟩
abbrev cX5_putsBack : ByteArray := prog_7_method_10_code
def yX5_putsBack : MethodName := ⟨RX5, "putsBack", "()V"⟩
abbrev cX5_worths : ByteArray := prog_7_method_11_code
def yX5_worths : MethodName := ⟨RX5, "worths", "(II)V"⟩
abbrev cX5_worth : ByteArray := prog_7_method_12_code
def yX5_worth : MethodName := ⟨RX5, "worth", "(II)I"⟩
abbrev cX5_common : ByteArray := prog_7_method_13_code
def yX5_common : MethodName := ⟨RX5, "common", "(II)I"⟩
abbrev cX5_newPupil : ByteArray := prog_7_method_14_code
def yX5_newPupil : MethodName := ⟨RX5, "newPupil", "(I)I"⟩
abbrev cX5_pupil : ByteArray := prog_7_method_15_code
def yX5_pupil : MethodName := ⟨RX5, "pupil", "(I)I"⟩
abbrev cX5_point : ByteArray := prog_7_method_16_code
def yX5_point : MethodName := ⟨RX5, "point", "(IIII)I"⟩
abbrev cX5_score : ByteArray := prog_7_method_17_code
def yX5_score : MethodName := ⟨RX5, "score", "(II)I"⟩
abbrev cX5_raw : ByteArray := prog_7_method_18_code
def yX5_raw : MethodName := ⟨RX5, "raw", "(I)I"⟩
abbrev cX5_full : ByteArray := prog_7_method_19_code
def yX5_full : MethodName := ⟨RX5, "full", "()I"⟩
abbrev cX5_pupilOf : ByteArray := prog_7_method_20_code
def yX5_pupilOf : MethodName := ⟨RX5, "pupilOf", "(II)I"⟩
abbrev cX5_greatest : ByteArray := prog_7_method_21_code
def yX5_greatest : MethodName := ⟨RX5, "greatest", "()I"⟩
abbrev cX5_oldMean : ByteArray := prog_7_method_22_code
def yX5_oldMean : MethodName := ⟨RX5, "oldMean", "()I"⟩
abbrev cX5_newMean : ByteArray := prog_7_method_23_code
def yX5_newMean : MethodName := ⟨RX5, "newMean", "()I"⟩
abbrev cX5_commons : ByteArray := prog_7_method_24_code
def yX5_commons : MethodName := ⟨RX5, "commons", "()I"⟩
abbrev cX5_paper : ByteArray := prog_7_method_25_code
def yX5_paper : MethodName := ⟨RX5, "paper", "(I)I"⟩
abbrev cX5_drawn : ByteArray := prog_7_method_26_code
def yX5_drawn : MethodName := ⟨RX5, "drawn", "(II)I"⟩
abbrev cX5_drop : ByteArray := prog_7_method_27_code
def yX5_drop : MethodName := ⟨RX5, "drop", "()I"⟩
abbrev cX5_newCurve : ByteArray := prog_7_method_28_code
def yX5_newCurve : MethodName := ⟨RX5, "newCurve", "(II)I"⟩
abbrev cX5_curve : ByteArray := prog_7_method_29_code
def yX5_curve : MethodName := ⟨RX5, "curve", "(II)I"⟩
abbrev cX5_curveOf : ByteArray := prog_7_method_30_code
def yX5_curveOf : MethodName := ⟨RX5, "curveOf", "(II)I"⟩
abbrev cX5_turn : ByteArray := prog_7_method_31_code
def yX5_turn : MethodName := ⟨RX5, "turn", "(II)I"⟩
abbrev cX5_by : ByteArray := prog_7_method_32_code
def yX5_by : MethodName := ⟨RX5, "by", "(II)I"⟩
abbrev cX5_stretched : ByteArray := prog_7_method_33_code
def yX5_stretched : MethodName := ⟨RX5, "stretched", "(I)I"⟩
abbrev cX5_root : ByteArray := prog_7_method_34_code
def yX5_root : MethodName := ⟨RX5, "root", "(I)I"⟩
abbrev cX5_shared : ByteArray := prog_7_method_35_code
def yX5_shared : MethodName := ⟨RX5, "shared", "(II)I"⟩
abbrev cX5_linked : ByteArray := prog_7_method_36_code
def yX5_linked : MethodName := ⟨RX5, "linked", "(I)I"⟩
abbrev cX5_dropped : ByteArray := prog_7_method_37_code
def yX5_dropped : MethodName := ⟨RX5, "dropped", "(II)I"⟩
abbrev cX5_markOf : ByteArray := prog_7_method_38_code
def yX5_markOf : MethodName := ⟨RX5, "markOf", "(II)I"⟩
abbrev cX5_findMarks : ByteArray := prog_7_method_39_code
def yX5_findMarks : MethodName := ⟨RX5, "findMarks", "(I)V"⟩
abbrev cX5_mark : ByteArray := prog_7_method_40_code
def yX5_mark : MethodName := ⟨RX5, "mark", "(II)I"⟩
abbrev cX5_place : ByteArray := prog_7_method_41_code
def yX5_place : MethodName := ⟨RX5, "place", "(II)I"⟩
abbrev cX5_sum : ByteArray := prog_7_method_42_code
def yX5_sum : MethodName := ⟨RX5, "sum", "(II)I"⟩
abbrev cX5_middle : ByteArray := prog_7_method_43_code
def yX5_middle : MethodName := ⟨RX5, "middle", "(I)I"⟩
abbrev cX5_breaking : ByteArray := prog_7_method_44_code
def yX5_breaking : MethodName := ⟨RX5, "breaking", "(I)I"⟩
abbrev cX5_keeps : ByteArray := prog_7_method_45_code
def yX5_keeps : MethodName := ⟨RX5, "keeps", "(I)I"⟩
abbrev cX5_breaks : ByteArray := prog_7_method_46_code
def yX5_breaks : MethodName := ⟨RX5, "breaks", "(I)I"⟩
abbrev cX5_heaped : ByteArray := prog_7_method_47_code
def yX5_heaped : MethodName := ⟨RX5, "heaped", "(I)I"⟩
abbrev cX5_gaining : ByteArray := prog_7_method_48_code
def yX5_gaining : MethodName := ⟨RX5, "gaining", "(II)I"⟩
abbrev cX5_gains : ByteArray := prog_7_method_49_code
def yX5_gains : MethodName := ⟨RX5, "gains", "(I)I"⟩
abbrev cX5_gainsBy : ByteArray := prog_7_method_50_code
def yX5_gainsBy : MethodName := ⟨RX5, "gainsBy", "(II)I"⟩
abbrev cX5_moves : ByteArray := prog_7_method_51_code
def yX5_moves : MethodName := ⟨RX5, "moves", "(II)I"⟩
abbrev cX5_without : ByteArray := prog_7_method_52_code
def yX5_without : MethodName := ⟨RX5, "without", "(II)I"⟩
abbrev cX5_passing : ByteArray := prog_7_method_53_code
def yX5_passing : MethodName := ⟨RX5, "passing", "(II)I"⟩
abbrev cX5_ones : ByteArray := prog_7_method_54_code
def yX5_ones : MethodName := ⟨RX5, "ones", "(I)I"⟩
abbrev cX5_pass : ByteArray := prog_7_method_55_code
def yX5_pass : MethodName := ⟨RX5, "pass", "(II)I"⟩
abbrev cX5_line : ByteArray := prog_7_method_56_code
def yX5_line : MethodName := ⟨RX5, "line", "(II)I"⟩
abbrev cX5_between : ByteArray := prog_7_method_57_code
def yX5_between : MethodName := ⟨RX5, "between", "(III)I"⟩
abbrev cX5_heap : ByteArray := prog_7_method_58_code
def yX5_heap : MethodName := ⟨RX5, "heap", "(II)I"⟩
abbrev cX5_kindest : ByteArray := prog_7_method_59_code
def yX5_kindest : MethodName := ⟨RX5, "kindest", "(I)I"⟩
abbrev cX5_byFor : ByteArray := prog_7_method_60_code
def yX5_byFor : MethodName := ⟨RX5, "byFor", "(II)I"⟩
abbrev cX5_letters : ByteArray := prog_7_method_61_code
def yX5_letters : MethodName := ⟨RX5, "letters", "(III)I"⟩
abbrev cX5_apart : ByteArray := prog_7_method_62_code
def yX5_apart : MethodName := ⟨RX5, "apart", "(II)I"⟩
abbrev cX5_size : ByteArray := prog_7_method_63_code
def yX5_size : MethodName := ⟨RX5, "size", "(I)I"⟩
abbrev cX5_lean : ByteArray := prog_7_method_64_code
def yX5_lean : MethodName := ⟨RX5, "lean", "()I"⟩
abbrev cX5_right : ByteArray := prog_7_method_65_code
def yX5_right : MethodName := ⟨RX5, "right", "(I)I"⟩
abbrev cX5_unlike : ByteArray := prog_7_method_66_code
def yX5_unlike : MethodName := ⟨RX5, "unlike", "(I)I"⟩
abbrev cX5_countsOf : ByteArray := prog_7_method_67_code
def yX5_countsOf : MethodName := ⟨RX5, "countsOf", "(I)I"⟩
abbrev cX5_counts : ByteArray := prog_7_method_68_code
def yX5_counts : MethodName := ⟨RX5, "counts", "(I)I"⟩
abbrev cX5_heavy : ByteArray := prog_7_method_69_code
def yX5_heavy : MethodName := ⟨RX5, "heavy", "()I"⟩
abbrev cX5_seed : ByteArray := prog_7_method_70_code
def yX5_seed : MethodName := ⟨RX5, "seed", "(I)I"⟩
abbrev cX5_feed : ByteArray := prog_7_method_71_code
def yX5_feed : MethodName := ⟨RX5, "feed", "(II)I"⟩
abbrev cX5_wipe : ByteArray := prog_7_method_72_code
def yX5_wipe : MethodName := ⟨RX5, "wipe", "()I"⟩
abbrev cX5_byteAt : ByteArray := prog_7_method_73_code
def yX5_byteAt : MethodName := ⟨RX5, "byteAt", "(I)I"⟩
abbrev cX5_isLetter : ByteArray := prog_7_method_74_code
def yX5_isLetter : MethodName := ⟨RX5, "isLetter", "(I)Z"⟩
abbrev cX5_isDigit : ByteArray := prog_7_method_75_code
def yX5_isDigit : MethodName := ⟨RX5, "isDigit", "(I)Z"⟩
abbrev cX5_token : ByteArray := prog_7_method_76_code
def yX5_token : MethodName := ⟨RX5, "token", "()V"⟩
abbrev cX5_needs : ByteArray := prog_7_method_77_code
def yX5_needs : MethodName := ⟨RX5, "needs", "(Z)V"⟩
abbrev cX5_isLetterAt : ByteArray := prog_7_method_78_code
def yX5_isLetterAt : MethodName := ⟨RX5, "isLetterAt", "(II)Z"⟩
abbrev cX5_isWord : ByteArray := prog_7_method_79_code
def yX5_isWord : MethodName := ⟨RX5, "isWord", "(IIIIIIIII)Z"⟩
abbrev cX5_number : ByteArray := prog_7_method_80_code
def yX5_number : MethodName := ⟨RX5, "number", "(II)V"⟩
abbrev cX5_kindHere : ByteArray := prog_7_method_81_code
def yX5_kindHere : MethodName := ⟨RX5, "kindHere", "()I"⟩
abbrev cX5_curveItem : ByteArray := prog_7_method_82_code
def yX5_curveItem : MethodName := ⟨RX5, "curveItem", "(I)V"⟩
abbrev cX5_pupilItem : ByteArray := prog_7_method_83_code
def yX5_pupilItem : MethodName := ⟨RX5, "pupilItem", "()V"⟩
abbrev cX5_item : ByteArray := prog_7_method_84_code
def yX5_item : MethodName := ⟨RX5, "item", "()V"⟩
abbrev cX5_text : ByteArray := prog_7_method_85_code
def yX5_text : MethodName := ⟨RX5, "text", "()I"⟩
abbrev cX5_hold : ByteArray := prog_7_method_86_code
def yX5_hold : MethodName := ⟨RX5, "hold", "(II)I"⟩
abbrev cX5_as : ByteArray := prog_7_method_87_code
def yX5_as : MethodName := ⟨RX5, "as", "(II)I"⟩
abbrev cX5_isOne : ByteArray := prog_7_method_88_code
def yX5_isOne : MethodName := ⟨RX5, "isOne", "(I)Z"⟩
abbrev cX5_sheet : ByteArray := prog_7_method_89_code
def yX5_sheet : MethodName := ⟨RX5, "sheet", "(III)I"⟩
abbrev cX5_narrowed : ByteArray := prog_7_method_90_code
def yX5_narrowed : MethodName := ⟨RX5, "narrowed", "(II)I"⟩
abbrev cX5_wrong : ByteArray := prog_7_method_91_code
def yX5_wrong : MethodName := ⟨RX5, "wrong", "(I)I"⟩
abbrev cX5_write : ByteArray := prog_7_method_92_code
def yX5_write : MethodName := ⟨RX5, "write", "(III)I"⟩
abbrev cX5_copy : ByteArray := prog_7_method_93_code
def yX5_copy : MethodName := ⟨RX5, "copy", "(IIIII)I"⟩
abbrev cX5_load : ByteArray := prog_7_method_94_code
def yX5_load : MethodName := ⟨RX5, "load", "(III)I"⟩
abbrev cX5_judge : ByteArray := prog_7_method_95_code
def yX5_judge : MethodName := ⟨RX5, "judge", "(II)I"⟩
abbrev cX5_image : ByteArray := prog_7_method_96_code
def yX5_image : MethodName := ⟨RX5, "image", "()I"⟩
abbrev cX5_undo : ByteArray := prog_7_method_97_code
def yX5_undo : MethodName := ⟨RX5, "undo", "()I"⟩
abbrev cX5_tear : ByteArray := prog_7_method_98_code
def yX5_tear : MethodName := ⟨RX5, "tear", "()I"⟩
abbrev cX5_count : ByteArray := prog_7_method_99_code
def yX5_count : MethodName := ⟨RX5, "count", "(I)I"⟩
abbrev cX5_status : ByteArray := prog_7_method_100_code
def yX5_status : MethodName := ⟨RX5, "status", "(I)I"⟩
def RJx145de : String := "java/io/Serializable"
def TJx145de : u_T := fun k => match k with
  | _ => ("", "", "", false)
def tyJx145de : Nat → FieldType := fun k => match k with
  | _ => .int
theorem nmJx145de : ∀ a, a < 0 → ∀ b, b < 0 → a ≠ b → (TJx145de a).2.1 ≠ (TJx145de b).2.1 := by decide +kernel
theorem tyJx145de_ok : ∀ k, k < 0 → parseFieldDescriptor (TJx145de k).2.2.1 = some (tyJx145de k) := by decide +kernel
def RJx9f9b0 : String := "java/lang/CharSequence"
def TJx9f9b0 : u_T := fun k => match k with
  | _ => ("", "", "", false)
def tyJx9f9b0 : Nat → FieldType := fun k => match k with
  | _ => .int
theorem nmJx9f9b0 : ∀ a, a < 0 → ∀ b, b < 0 → a ≠ b → (TJx9f9b0 a).2.1 ≠ (TJx9f9b0 b).2.1 := by decide +kernel
theorem tyJx9f9b0_ok : ∀ k, k < 0 → parseFieldDescriptor (TJx9f9b0 k).2.2.1 = some (tyJx9f9b0 k) := by decide +kernel
def RJxb160c : String := "java/lang/Comparable"
def TJxb160c : u_T := fun k => match k with
  | _ => ("", "", "", false)
def tyJxb160c : Nat → FieldType := fun k => match k with
  | _ => .int
theorem nmJxb160c : ∀ a, a < 0 → ∀ b, b < 0 → a ≠ b → (TJxb160c a).2.1 ≠ (TJxb160c b).2.1 := by decide +kernel
theorem tyJxb160c_ok : ∀ k, k < 0 → parseFieldDescriptor (TJxb160c k).2.2.1 = some (tyJxb160c k) := by decide +kernel
def RJ6 : String := "java/lang/Integer"
def TJ6 : u_T := fun k => match k with
  | _ => ("", "", "", false)
def tyJ6 : Nat → FieldType := fun k => match k with
  | _ => .int
theorem nmJ6 : ∀ a, a < 0 → ∀ b, b < 0 → a ≠ b → (TJ6 a).2.1 ≠ (TJ6 b).2.1 := by decide +kernel
theorem tyJ6_ok : ∀ k, k < 0 → parseFieldDescriptor (TJ6 k).2.2.1 = some (tyJ6 k) := by decide +kernel
abbrev cJ6_bitCount_0f7a4 : ByteArray := prog_8_method_49_code
def yJ6_bitCount_0f7a4 : MethodName := ⟨RJ6, "bitCount", "(I)I"⟩
def RJ9 : String := "java/lang/Math"
def TJ9 : u_T := fun k => match k with
  | _ => ("", "", "", false)
def tyJ9 : Nat → FieldType := fun k => match k with
  | _ => .int
theorem nmJ9 : ∀ a, a < 0 → ∀ b, b < 0 → a ≠ b → (TJ9 a).2.1 ≠ (TJ9 b).2.1 := by decide +kernel
theorem tyJ9_ok : ∀ k, k < 0 → parseFieldDescriptor (TJ9 k).2.2.1 = some (tyJ9 k) := by decide +kernel
abbrev cJ9_abs_0f7a4 : ByteArray := prog_9_method_59_code
def yJ9_abs_0f7a4 : MethodName := ⟨RJ9, "abs", "(I)I"⟩
abbrev cJ9_max_7cf53 : ByteArray := prog_9_method_65_code
def yJ9_max_7cf53 : MethodName := ⟨RJ9, "max", "(II)I"⟩
abbrev cJ9_min_7cf53 : ByteArray := prog_9_method_69_code
def yJ9_min_7cf53 : MethodName := ⟨RJ9, "min", "(II)I"⟩
def RJ0 : String := "java/lang/String"
def TJ0 : u_T := fun k => match k with
  | _ => ("", "", "", false)
def tyJ0 : Nat → FieldType := fun k => match k with
  | _ => .int
theorem nmJ0 : ∀ a, a < 0 → ∀ b, b < 0 → a ≠ b → (TJ0 a).2.1 ≠ (TJ0 b).2.1 := by decide +kernel
theorem tyJ0_ok : ∀ k, k < 0 → parseFieldDescriptor (TJ0 k).2.2.1 = some (tyJ0 k) := by decide +kernel
abbrev cJ0_length_8abf5 : ByteArray := prog_10_method_54_code
def yJ0_length_8abf5 : MethodName := ⟨RJ0, "length", "()I"⟩
abbrev cJ0_charAt_5068e : ByteArray := prog_10_method_56_code
def yJ0_charAt_5068e : MethodName := ⟨RJ0, "charAt", "(I)C"⟩
abbrev cJ0_coder_7d493 : ByteArray := prog_10_method_152_code
def yJ0_coder_7d493 : MethodName := ⟨RJ0, "coder", "()B"⟩
abbrev cJ0_isLatin1_aae02 : ByteArray := prog_10_method_154_code
def yJ0_isLatin1_aae02 : MethodName := ⟨RJ0, "isLatin1", "()Z"⟩
abbrev cJ0_checkIndex_df160 : ByteArray := prog_10_method_155_code
def yJ0_checkIndex_df160 : MethodName := ⟨RJ0, "checkIndex", "(II)V"⟩
def RJ1 : String := "java/lang/StringLatin1"
def TJ1 : u_T := fun k => match k with
  | _ => ("", "", "", false)
def tyJ1 : Nat → FieldType := fun k => match k with
  | _ => .int
theorem nmJ1 : ∀ a, a < 0 → ∀ b, b < 0 → a ≠ b → (TJ1 a).2.1 ≠ (TJ1 b).2.1 := by decide +kernel
theorem tyJ1_ok : ∀ k, k < 0 → parseFieldDescriptor (TJ1 k).2.2.1 = some (tyJ1 k) := by decide +kernel
abbrev cJ1_charAt_3b067 : ByteArray := prog_11_method_2_code
def yJ1_charAt_3b067 : MethodName := ⟨RJ1, "charAt", "([BI)C"⟩
def RJ2 : String := "java/lang/StringUTF16"
def TJ2 : u_T := fun k => match k with
  | _ => ("", "", "", false)
def tyJ2 : Nat → FieldType := fun k => match k with
  | _ => .int
theorem nmJ2 : ∀ a, a < 0 → ∀ b, b < 0 → a ≠ b → (TJ2 a).2.1 ≠ (TJ2 b).2.1 := by decide +kernel
theorem tyJ2_ok : ∀ k, k < 0 → parseFieldDescriptor (TJ2 k).2.2.1 = some (tyJ2 k) := by decide +kernel
abbrev cJ2_getChar_3b067 : ByteArray := prog_12_method_5_code
def yJ2_getChar_3b067 : MethodName := ⟨RJ2, "getChar", "([BI)C"⟩
abbrev cJ2_length_9d52b : ByteArray := prog_12_method_6_code
def yJ2_length_9d52b : MethodName := ⟨RJ2, "length", "([B)I"⟩
abbrev cJ2_charAt_3b067 : ByteArray := prog_12_method_83_code
def yJ2_charAt_3b067 : MethodName := ⟨RJ2, "charAt", "([BI)C"⟩
abbrev cJ2_checkIndex_2214a : ByteArray := prog_12_method_91_code
def yJ2_checkIndex_2214a : MethodName := ⟨RJ2, "checkIndex", "(I[B)V"⟩
def RJ10 : String := "java/lang/System"
def TJ10 : u_T := fun k => match k with
  | _ => ("", "", "", false)
def tyJ10 : Nat → FieldType := fun k => match k with
  | _ => .int
theorem nmJ10 : ∀ a, a < 0 → ∀ b, b < 0 → a ≠ b → (TJ10 a).2.1 ≠ (TJ10 b).2.1 := by decide +kernel
theorem tyJ10_ok : ∀ k, k < 0 → parseFieldDescriptor (TJ10 k).2.2.1 = some (tyJ10 k) := by decide +kernel
def RJxfd54e : String := "java/lang/constant/Constable"
def TJxfd54e : u_T := fun k => match k with
  | _ => ("", "", "", false)
def tyJxfd54e : Nat → FieldType := fun k => match k with
  | _ => .int
theorem nmJxfd54e : ∀ a, a < 0 → ∀ b, b < 0 → a ≠ b → (TJxfd54e a).2.1 ≠ (TJxfd54e b).2.1 := by decide +kernel
theorem tyJxfd54e_ok : ∀ k, k < 0 → parseFieldDescriptor (TJxfd54e k).2.2.1 = some (tyJxfd54e k) := by decide +kernel
def RJx3cf43 : String := "java/lang/constant/ConstantDesc"
def TJx3cf43 : u_T := fun k => match k with
  | _ => ("", "", "", false)
def tyJx3cf43 : Nat → FieldType := fun k => match k with
  | _ => .int
theorem nmJx3cf43 : ∀ a, a < 0 → ∀ b, b < 0 → a ≠ b → (TJx3cf43 a).2.1 ≠ (TJx3cf43 b).2.1 := by decide +kernel
theorem tyJx3cf43_ok : ∀ k, k < 0 → parseFieldDescriptor (TJx3cf43 k).2.2.1 = some (tyJx3cf43 k) := by decide +kernel
def RJ7 : String := "java/util/Arrays"
def TJ7 : u_T := fun k => match k with
  | _ => ("", "", "", false)
def tyJ7 : Nat → FieldType := fun k => match k with
  | _ => .int
theorem nmJ7 : ∀ a, a < 0 → ∀ b, b < 0 → a ≠ b → (TJ7 a).2.1 ≠ (TJ7 b).2.1 := by decide +kernel
theorem tyJ7_ok : ∀ k, k < 0 → parseFieldDescriptor (TJ7 k).2.2.1 = some (tyJ7 k) := by decide +kernel
abbrev cJ7_fill_53178 : ByteArray := prog_14_method_103_code
def yJ7_fill_53178 : MethodName := ⟨RJ7, "fill", "([II)V"⟩
def RJ3 : String := "jdk/internal/util/Preconditions"
def TJ3 : u_T := fun k => match k with
  | _ => ("", "", "", false)
def tyJ3 : Nat → FieldType := fun k => match k with
  | _ => .int
theorem nmJ3 : ∀ a, a < 0 → ∀ b, b < 0 → a ≠ b → (TJ3 a).2.1 ≠ (TJ3 b).2.1 := by decide +kernel
theorem tyJ3_ok : ∀ k, k < 0 → parseFieldDescriptor (TJ3 k).2.2.1 = some (tyJ3 k) := by decide +kernel
abbrev cJ3_checkIndex_8e157 : ByteArray := prog_15_method_11_code
def yJ3_checkIndex_8e157 : MethodName := ⟨RJ3, "checkIndex", "(IILjava/util/function/BiFunction;)I"⟩
def RL : String := "MarkCurvesLaw"
abbrev cL_law : ByteArray := code
def yL_law : MethodName := ⟨RL, "law", "([I)Z"⟩
abbrev vwCl : List vw_C := [(RX0, TX0, 10), (RX1, TX1, 8), (RX2, TX2, 3), (RX3, TX3, 6), (RX4, TX4, 10), (RX5, TX5, 16)]
end
section
theorem dX0_init_0 : decode cX0_init 0 = .ok (.aload_n 0, 1) := by decide +kernel
theorem dX0_init_1 : decode cX0_init 1 = .ok (.invokespecial 3, 3) := by decide +kernel
theorem dX0_init_4 : decode cX0_init 4 = .ok (.aload_n 0, 1) := by decide +kernel
theorem dX0_init_5 : decode cX0_init 5 = .ok (.bipush 8, 2) := by decide +kernel
theorem dX0_init_7 : decode cX0_init 7 = .ok (.newarray .int, 2) := by decide +kernel
theorem dX0_init_9 : decode cX0_init 9 = .ok (.putfield 9, 3) := by decide +kernel
theorem dX0_init_12 : decode cX0_init 12 = .ok (.aload_n 0, 1) := by decide +kernel
theorem dX0_init_13 : decode cX0_init 13 = .ok (.bipush 8, 2) := by decide +kernel
theorem dX0_init_15 : decode cX0_init 15 = .ok (.newarray .int, 2) := by decide +kernel
theorem dX0_init_17 : decode cX0_init 17 = .ok (.putfield 15, 3) := by decide +kernel
theorem dX0_init_20 : decode cX0_init 20 = .ok (.aload_n 0, 1) := by decide +kernel
theorem dX0_init_21 : decode cX0_init 21 = .ok (.bipush 12, 2) := by decide +kernel
theorem dX0_init_23 : decode cX0_init 23 = .ok (.newarray .int, 2) := by decide +kernel
theorem dX0_init_25 : decode cX0_init 25 = .ok (.putfield 18, 3) := by decide +kernel
theorem dX0_init_28 : decode cX0_init 28 = .ok (.aload_n 0, 1) := by decide +kernel
theorem dX0_init_29 : decode cX0_init 29 = .ok (.sipush 192, 3) := by decide +kernel
theorem dX0_init_32 : decode cX0_init 32 = .ok (.newarray .int, 2) := by decide +kernel
theorem dX0_init_34 : decode cX0_init 34 = .ok (.putfield 21, 3) := by decide +kernel
theorem dX0_init_37 : decode cX0_init 37 = .ok (.aload_n 0, 1) := by decide +kernel
theorem dX0_init_38 : decode cX0_init 38 = .ok (.bipush 6, 2) := by decide +kernel
theorem dX0_init_40 : decode cX0_init 40 = .ok (.newarray .int, 2) := by decide +kernel
theorem dX0_init_42 : decode cX0_init 42 = .ok (.putfield 24, 3) := by decide +kernel
theorem dX0_init_45 : decode cX0_init 45 = .ok (.aload_n 0, 1) := by decide +kernel
theorem dX0_init_46 : decode cX0_init 46 = .ok (.bipush 6, 2) := by decide +kernel
theorem dX0_init_48 : decode cX0_init 48 = .ok (.newarray .int, 2) := by decide +kernel
theorem dX0_init_50 : decode cX0_init 50 = .ok (.putfield 27, 3) := by decide +kernel
theorem dX0_init_53 : decode cX0_init 53 = .ok (.aload_n 0, 1) := by decide +kernel
theorem dX0_init_54 : decode cX0_init 54 = .ok (.bipush 10, 2) := by decide +kernel
theorem dX0_init_56 : decode cX0_init 56 = .ok (.newarray .int, 2) := by decide +kernel
theorem dX0_init_58 : decode cX0_init 58 = .ok (.putfield 30, 3) := by decide +kernel
theorem dX0_init_61 : decode cX0_init 61 = .ok (.aload_n 0, 1) := by decide +kernel
theorem dX0_init_62 : decode cX0_init 62 = .ok (.iconst 0, 1) := by decide +kernel
theorem dX0_init_63 : decode cX0_init 63 = .ok (.putfield 33, 3) := by decide +kernel
theorem dX0_init_66 : decode cX0_init 66 = .ok (.aload_n 0, 1) := by decide +kernel
theorem dX0_init_67 : decode cX0_init 67 = .ok (.iconst 0, 1) := by decide +kernel
theorem dX0_init_68 : decode cX0_init 68 = .ok (.putfield 37, 3) := by decide +kernel
theorem dX0_init_71 : decode cX0_init 71 = .ok (.aload_n 0, 1) := by decide +kernel
theorem dX0_init_72 : decode cX0_init 72 = .ok (.iconst 1, 1) := by decide +kernel
theorem dX0_init_73 : decode cX0_init 73 = .ok (.putfield 40, 3) := by decide +kernel
theorem dX0_init_76 : decode cX0_init 76 = .ok (.aload_n 0, 1) := by decide +kernel
theorem dX0_init_77 : decode cX0_init 77 = .ok (.getfield 9, 3) := by decide +kernel
theorem dX0_init_80 : decode cX0_init 80 = .ok (.bipush 10, 2) := by decide +kernel
theorem dX0_init_82 : decode cX0_init 82 = .ok (.invokestatic 43, 3) := by decide +kernel
theorem dX0_init_85 : decode cX0_init 85 = .ok (.aload_n 0, 1) := by decide +kernel
theorem dX0_init_86 : decode cX0_init 86 = .ok (.getfield 15, 3) := by decide +kernel
theorem dX0_init_89 : decode cX0_init 89 = .ok (.iconst (-1), 1) := by decide +kernel
theorem dX0_init_90 : decode cX0_init 90 = .ok (.invokestatic 43, 3) := by decide +kernel
theorem dX0_init_93 : decode cX0_init 93 = .ok (.aload_n 0, 1) := by decide +kernel
theorem dX0_init_94 : decode cX0_init 94 = .ok (.getfield 30, 3) := by decide +kernel
theorem dX0_init_97 : decode cX0_init 97 = .ok (.iconst (-1), 1) := by decide +kernel
theorem dX0_init_98 : decode cX0_init 98 = .ok (.invokestatic 43, 3) := by decide +kernel
theorem dX0_init_101 : decode cX0_init 101 = .ok (.return_, 1) := by decide +kernel
theorem dX0_takeFrom_0 : decode cX0_takeFrom 0 = .ok (.aload_n 1, 1) := by decide +kernel
theorem dX0_takeFrom_1 : decode cX0_takeFrom 1 = .ok (.getfield 9, 3) := by decide +kernel
theorem dX0_takeFrom_4 : decode cX0_takeFrom 4 = .ok (.iconst 0, 1) := by decide +kernel
theorem dX0_takeFrom_5 : decode cX0_takeFrom 5 = .ok (.aload_n 0, 1) := by decide +kernel
theorem dX0_takeFrom_6 : decode cX0_takeFrom 6 = .ok (.getfield 9, 3) := by decide +kernel
theorem dX0_takeFrom_9 : decode cX0_takeFrom 9 = .ok (.iconst 0, 1) := by decide +kernel
theorem dX0_takeFrom_10 : decode cX0_takeFrom 10 = .ok (.bipush 8, 2) := by decide +kernel
theorem dX0_takeFrom_12 : decode cX0_takeFrom 12 = .ok (.invokestatic 49, 3) := by decide +kernel
theorem dX0_takeFrom_15 : decode cX0_takeFrom 15 = .ok (.aload_n 1, 1) := by decide +kernel
theorem dX0_takeFrom_16 : decode cX0_takeFrom 16 = .ok (.getfield 15, 3) := by decide +kernel
theorem dX0_takeFrom_19 : decode cX0_takeFrom 19 = .ok (.iconst 0, 1) := by decide +kernel
theorem dX0_takeFrom_20 : decode cX0_takeFrom 20 = .ok (.aload_n 0, 1) := by decide +kernel
theorem dX0_takeFrom_21 : decode cX0_takeFrom 21 = .ok (.getfield 15, 3) := by decide +kernel
theorem dX0_takeFrom_24 : decode cX0_takeFrom 24 = .ok (.iconst 0, 1) := by decide +kernel
theorem dX0_takeFrom_25 : decode cX0_takeFrom 25 = .ok (.bipush 8, 2) := by decide +kernel
theorem dX0_takeFrom_27 : decode cX0_takeFrom 27 = .ok (.invokestatic 49, 3) := by decide +kernel
theorem dX0_takeFrom_30 : decode cX0_takeFrom 30 = .ok (.aload_n 1, 1) := by decide +kernel
theorem dX0_takeFrom_31 : decode cX0_takeFrom 31 = .ok (.getfield 18, 3) := by decide +kernel
theorem dX0_takeFrom_34 : decode cX0_takeFrom 34 = .ok (.iconst 0, 1) := by decide +kernel
theorem dX0_takeFrom_35 : decode cX0_takeFrom 35 = .ok (.aload_n 0, 1) := by decide +kernel
theorem dX0_takeFrom_36 : decode cX0_takeFrom 36 = .ok (.getfield 18, 3) := by decide +kernel
theorem dX0_takeFrom_39 : decode cX0_takeFrom 39 = .ok (.iconst 0, 1) := by decide +kernel
theorem dX0_takeFrom_40 : decode cX0_takeFrom 40 = .ok (.bipush 12, 2) := by decide +kernel
theorem dX0_takeFrom_42 : decode cX0_takeFrom 42 = .ok (.invokestatic 49, 3) := by decide +kernel
theorem dX0_takeFrom_45 : decode cX0_takeFrom 45 = .ok (.aload_n 1, 1) := by decide +kernel
theorem dX0_takeFrom_46 : decode cX0_takeFrom 46 = .ok (.getfield 21, 3) := by decide +kernel
theorem dX0_takeFrom_49 : decode cX0_takeFrom 49 = .ok (.iconst 0, 1) := by decide +kernel
theorem dX0_takeFrom_50 : decode cX0_takeFrom 50 = .ok (.aload_n 0, 1) := by decide +kernel
theorem dX0_takeFrom_51 : decode cX0_takeFrom 51 = .ok (.getfield 21, 3) := by decide +kernel
theorem dX0_takeFrom_54 : decode cX0_takeFrom 54 = .ok (.iconst 0, 1) := by decide +kernel
theorem dX0_takeFrom_55 : decode cX0_takeFrom 55 = .ok (.sipush 192, 3) := by decide +kernel
theorem dX0_takeFrom_58 : decode cX0_takeFrom 58 = .ok (.invokestatic 49, 3) := by decide +kernel
theorem dX0_takeFrom_61 : decode cX0_takeFrom 61 = .ok (.aload_n 1, 1) := by decide +kernel
theorem dX0_takeFrom_62 : decode cX0_takeFrom 62 = .ok (.getfield 24, 3) := by decide +kernel
theorem dX0_takeFrom_65 : decode cX0_takeFrom 65 = .ok (.iconst 0, 1) := by decide +kernel
theorem dX0_takeFrom_66 : decode cX0_takeFrom 66 = .ok (.aload_n 0, 1) := by decide +kernel
theorem dX0_takeFrom_67 : decode cX0_takeFrom 67 = .ok (.getfield 24, 3) := by decide +kernel
theorem dX0_takeFrom_70 : decode cX0_takeFrom 70 = .ok (.iconst 0, 1) := by decide +kernel
theorem dX0_takeFrom_71 : decode cX0_takeFrom 71 = .ok (.bipush 6, 2) := by decide +kernel
theorem dX0_takeFrom_73 : decode cX0_takeFrom 73 = .ok (.invokestatic 49, 3) := by decide +kernel
theorem dX0_takeFrom_76 : decode cX0_takeFrom 76 = .ok (.aload_n 1, 1) := by decide +kernel
theorem dX0_takeFrom_77 : decode cX0_takeFrom 77 = .ok (.getfield 27, 3) := by decide +kernel
theorem dX0_takeFrom_80 : decode cX0_takeFrom 80 = .ok (.iconst 0, 1) := by decide +kernel
theorem dX0_takeFrom_81 : decode cX0_takeFrom 81 = .ok (.aload_n 0, 1) := by decide +kernel
theorem dX0_takeFrom_82 : decode cX0_takeFrom 82 = .ok (.getfield 27, 3) := by decide +kernel
theorem dX0_takeFrom_85 : decode cX0_takeFrom 85 = .ok (.iconst 0, 1) := by decide +kernel
theorem dX0_takeFrom_86 : decode cX0_takeFrom 86 = .ok (.bipush 6, 2) := by decide +kernel
theorem dX0_takeFrom_88 : decode cX0_takeFrom 88 = .ok (.invokestatic 49, 3) := by decide +kernel
theorem dX0_takeFrom_91 : decode cX0_takeFrom 91 = .ok (.aload_n 1, 1) := by decide +kernel
theorem dX0_takeFrom_92 : decode cX0_takeFrom 92 = .ok (.getfield 30, 3) := by decide +kernel
theorem dX0_takeFrom_95 : decode cX0_takeFrom 95 = .ok (.iconst 0, 1) := by decide +kernel
theorem dX0_takeFrom_96 : decode cX0_takeFrom 96 = .ok (.aload_n 0, 1) := by decide +kernel
theorem dX0_takeFrom_97 : decode cX0_takeFrom 97 = .ok (.getfield 30, 3) := by decide +kernel
theorem dX0_takeFrom_100 : decode cX0_takeFrom 100 = .ok (.iconst 0, 1) := by decide +kernel
theorem dX0_takeFrom_101 : decode cX0_takeFrom 101 = .ok (.bipush 10, 2) := by decide +kernel
theorem dX0_takeFrom_103 : decode cX0_takeFrom 103 = .ok (.invokestatic 49, 3) := by decide +kernel
theorem dX0_takeFrom_106 : decode cX0_takeFrom 106 = .ok (.aload_n 0, 1) := by decide +kernel
theorem dX0_takeFrom_107 : decode cX0_takeFrom 107 = .ok (.aload_n 1, 1) := by decide +kernel
theorem dX0_takeFrom_108 : decode cX0_takeFrom 108 = .ok (.getfield 33, 3) := by decide +kernel
theorem dX0_takeFrom_111 : decode cX0_takeFrom 111 = .ok (.putfield 33, 3) := by decide +kernel
theorem dX0_takeFrom_114 : decode cX0_takeFrom 114 = .ok (.aload_n 0, 1) := by decide +kernel
theorem dX0_takeFrom_115 : decode cX0_takeFrom 115 = .ok (.aload_n 1, 1) := by decide +kernel
theorem dX0_takeFrom_116 : decode cX0_takeFrom 116 = .ok (.getfield 37, 3) := by decide +kernel
theorem dX0_takeFrom_119 : decode cX0_takeFrom 119 = .ok (.putfield 37, 3) := by decide +kernel
theorem dX0_takeFrom_122 : decode cX0_takeFrom 122 = .ok (.aload_n 0, 1) := by decide +kernel
theorem dX0_takeFrom_123 : decode cX0_takeFrom 123 = .ok (.aload_n 1, 1) := by decide +kernel
theorem dX0_takeFrom_124 : decode cX0_takeFrom 124 = .ok (.getfield 40, 3) := by decide +kernel
theorem dX0_takeFrom_127 : decode cX0_takeFrom 127 = .ok (.putfield 40, 3) := by decide +kernel
theorem dX0_takeFrom_130 : decode cX0_takeFrom 130 = .ok (.return_, 1) := by decide +kernel
theorem dX0_setWorth_0 : decode cX0_setWorth 0 = .ok (.aload_n 0, 1) := by decide +kernel
theorem dX0_setWorth_1 : decode cX0_setWorth 1 = .ok (.getfield 9, 3) := by decide +kernel
theorem dX0_setWorth_4 : decode cX0_setWorth 4 = .ok (.iload_n 1, 1) := by decide +kernel
theorem dX0_setWorth_5 : decode cX0_setWorth 5 = .ok (.iload_n 2, 1) := by decide +kernel
theorem dX0_setWorth_6 : decode cX0_setWorth 6 = .ok (.iastore, 1) := by decide +kernel
theorem dX0_setWorth_7 : decode cX0_setWorth 7 = .ok (.iconst 0, 1) := by decide +kernel
theorem dX0_setWorth_8 : decode cX0_setWorth 8 = .ok (.istore_n 3, 1) := by decide +kernel
theorem dX0_setWorth_9 : decode cX0_setWorth 9 = .ok (.iload_n 3, 1) := by decide +kernel
theorem dX0_setWorth_10 : decode cX0_setWorth 10 = .ok (.aload_n 0, 1) := by decide +kernel
theorem dX0_setWorth_11 : decode cX0_setWorth 11 = .ok (.getfield 33, 3) := by decide +kernel
theorem dX0_setWorth_14 : decode cX0_setWorth 14 = .ok (.if_icmp .ge 51, 3) := by decide +kernel
theorem dX0_setWorth_17 : decode cX0_setWorth 17 = .ok (.iconst 0, 1) := by decide +kernel
theorem dX0_setWorth_18 : decode cX0_setWorth 18 = .ok (.istore 4, 2) := by decide +kernel
theorem dX0_setWorth_20 : decode cX0_setWorth 20 = .ok (.iload 4, 2) := by decide +kernel
theorem dX0_setWorth_22 : decode cX0_setWorth 22 = .ok (.iconst 2, 1) := by decide +kernel
theorem dX0_setWorth_23 : decode cX0_setWorth 23 = .ok (.if_icmp .ge 36, 3) := by decide +kernel
theorem dX0_setWorth_26 : decode cX0_setWorth 26 = .ok (.iload_n 3, 1) := by decide +kernel
theorem dX0_setWorth_27 : decode cX0_setWorth 27 = .ok (.iload_n 1, 1) := by decide +kernel
theorem dX0_setWorth_28 : decode cX0_setWorth 28 = .ok (.iload 4, 2) := by decide +kernel
theorem dX0_setWorth_30 : decode cX0_setWorth 30 = .ok (.invokestatic 55, 3) := by decide +kernel
theorem dX0_setWorth_33 : decode cX0_setWorth 33 = .ok (.istore 5, 2) := by decide +kernel
theorem dX0_setWorth_35 : decode cX0_setWorth 35 = .ok (.aload_n 0, 1) := by decide +kernel
theorem dX0_setWorth_36 : decode cX0_setWorth 36 = .ok (.getfield 21, 3) := by decide +kernel
theorem dX0_setWorth_39 : decode cX0_setWorth 39 = .ok (.iload 5, 2) := by decide +kernel
theorem dX0_setWorth_41 : decode cX0_setWorth 41 = .ok (.aload_n 0, 1) := by decide +kernel
theorem dX0_setWorth_42 : decode cX0_setWorth 42 = .ok (.getfield 21, 3) := by decide +kernel
theorem dX0_setWorth_45 : decode cX0_setWorth 45 = .ok (.iload 5, 2) := by decide +kernel
theorem dX0_setWorth_47 : decode cX0_setWorth 47 = .ok (.iaload, 1) := by decide +kernel
theorem dX0_setWorth_48 : decode cX0_setWorth 48 = .ok (.iload_n 2, 1) := by decide +kernel
theorem dX0_setWorth_49 : decode cX0_setWorth 49 = .ok (.invokestatic 59, 3) := by decide +kernel
theorem dX0_setWorth_52 : decode cX0_setWorth 52 = .ok (.iastore, 1) := by decide +kernel
theorem dX0_setWorth_53 : decode cX0_setWorth 53 = .ok (.iinc 4 1, 3) := by decide +kernel
theorem dX0_setWorth_56 : decode cX0_setWorth 56 = .ok (.goto (-36), 3) := by decide +kernel
theorem dX0_setWorth_59 : decode cX0_setWorth 59 = .ok (.iinc 3 1, 3) := by decide +kernel
theorem dX0_setWorth_62 : decode cX0_setWorth 62 = .ok (.goto (-53), 3) := by decide +kernel
theorem dX0_setWorth_65 : decode cX0_setWorth 65 = .ok (.return_, 1) := by decide +kernel
theorem dX0_addPupil_0 : decode cX0_addPupil 0 = .ok (.aload_n 0, 1) := by decide +kernel
theorem dX0_addPupil_1 : decode cX0_addPupil 1 = .ok (.getfield 33, 3) := by decide +kernel
theorem dX0_addPupil_4 : decode cX0_addPupil 4 = .ok (.istore_n 2, 1) := by decide +kernel
theorem dX0_addPupil_5 : decode cX0_addPupil 5 = .ok (.iconst 0, 1) := by decide +kernel
theorem dX0_addPupil_6 : decode cX0_addPupil 6 = .ok (.istore_n 3, 1) := by decide +kernel
theorem dX0_addPupil_7 : decode cX0_addPupil 7 = .ok (.iload_n 3, 1) := by decide +kernel
theorem dX0_addPupil_8 : decode cX0_addPupil 8 = .ok (.bipush 8, 2) := by decide +kernel
theorem dX0_addPupil_10 : decode cX0_addPupil 10 = .ok (.if_icmp .ge 16, 3) := by decide +kernel
theorem dX0_addPupil_13 : decode cX0_addPupil 13 = .ok (.aload_n 0, 1) := by decide +kernel
theorem dX0_addPupil_14 : decode cX0_addPupil 14 = .ok (.iload_n 2, 1) := by decide +kernel
theorem dX0_addPupil_15 : decode cX0_addPupil 15 = .ok (.iload_n 3, 1) := by decide +kernel
theorem dX0_addPupil_16 : decode cX0_addPupil 16 = .ok (.iconst 0, 1) := by decide +kernel
theorem dX0_addPupil_17 : decode cX0_addPupil 17 = .ok (.invokevirtual 65, 3) := by decide +kernel
theorem dX0_addPupil_20 : decode cX0_addPupil 20 = .ok (.iinc 3 1, 3) := by decide +kernel
theorem dX0_addPupil_23 : decode cX0_addPupil 23 = .ok (.goto (-16), 3) := by decide +kernel
theorem dX0_addPupil_26 : decode cX0_addPupil 26 = .ok (.aload_n 0, 1) := by decide +kernel
theorem dX0_addPupil_27 : decode cX0_addPupil 27 = .ok (.getfield 18, 3) := by decide +kernel
theorem dX0_addPupil_30 : decode cX0_addPupil 30 = .ok (.iload_n 2, 1) := by decide +kernel
theorem dX0_addPupil_31 : decode cX0_addPupil 31 = .ok (.iload_n 1, 1) := by decide +kernel
theorem dX0_addPupil_32 : decode cX0_addPupil 32 = .ok (.iastore, 1) := by decide +kernel
theorem dX0_addPupil_33 : decode cX0_addPupil 33 = .ok (.aload_n 0, 1) := by decide +kernel
theorem dX0_addPupil_34 : decode cX0_addPupil 34 = .ok (.dup, 1) := by decide +kernel
theorem dX0_addPupil_35 : decode cX0_addPupil 35 = .ok (.getfield 33, 3) := by decide +kernel
theorem dX0_addPupil_38 : decode cX0_addPupil 38 = .ok (.iconst 1, 1) := by decide +kernel
theorem dX0_addPupil_39 : decode cX0_addPupil 39 = .ok (.iadd, 1) := by decide +kernel
theorem dX0_addPupil_40 : decode cX0_addPupil 40 = .ok (.putfield 33, 3) := by decide +kernel
theorem dX0_addPupil_43 : decode cX0_addPupil 43 = .ok (.iload_n 2, 1) := by decide +kernel
theorem dX0_addPupil_44 : decode cX0_addPupil 44 = .ok (.ireturn, 1) := by decide +kernel
theorem dX0_addCurve_0 : decode cX0_addCurve 0 = .ok (.aload_n 0, 1) := by decide +kernel
theorem dX0_addCurve_1 : decode cX0_addCurve 1 = .ok (.getfield 37, 3) := by decide +kernel
theorem dX0_addCurve_4 : decode cX0_addCurve 4 = .ok (.istore_n 3, 1) := by decide +kernel
theorem dX0_addCurve_5 : decode cX0_addCurve 5 = .ok (.aload_n 0, 1) := by decide +kernel
theorem dX0_addCurve_6 : decode cX0_addCurve 6 = .ok (.getfield 24, 3) := by decide +kernel
theorem dX0_addCurve_9 : decode cX0_addCurve 9 = .ok (.iload_n 3, 1) := by decide +kernel
theorem dX0_addCurve_10 : decode cX0_addCurve 10 = .ok (.iload_n 1, 1) := by decide +kernel
theorem dX0_addCurve_11 : decode cX0_addCurve 11 = .ok (.iastore, 1) := by decide +kernel
theorem dX0_addCurve_12 : decode cX0_addCurve 12 = .ok (.aload_n 0, 1) := by decide +kernel
theorem dX0_addCurve_13 : decode cX0_addCurve 13 = .ok (.getfield 27, 3) := by decide +kernel
theorem dX0_addCurve_16 : decode cX0_addCurve 16 = .ok (.iload_n 3, 1) := by decide +kernel
theorem dX0_addCurve_17 : decode cX0_addCurve 17 = .ok (.iload_n 2, 1) := by decide +kernel
theorem dX0_addCurve_18 : decode cX0_addCurve 18 = .ok (.iastore, 1) := by decide +kernel
theorem dX0_addCurve_19 : decode cX0_addCurve 19 = .ok (.aload_n 0, 1) := by decide +kernel
theorem dX0_addCurve_20 : decode cX0_addCurve 20 = .ok (.dup, 1) := by decide +kernel
theorem dX0_addCurve_21 : decode cX0_addCurve 21 = .ok (.getfield 37, 3) := by decide +kernel
theorem dX0_addCurve_24 : decode cX0_addCurve 24 = .ok (.iconst 1, 1) := by decide +kernel
theorem dX0_addCurve_25 : decode cX0_addCurve 25 = .ok (.iadd, 1) := by decide +kernel
theorem dX0_addCurve_26 : decode cX0_addCurve 26 = .ok (.putfield 37, 3) := by decide +kernel
theorem dX0_addCurve_29 : decode cX0_addCurve 29 = .ok (.iload_n 3, 1) := by decide +kernel
theorem dX0_addCurve_30 : decode cX0_addCurve 30 = .ok (.ireturn, 1) := by decide +kernel
theorem dX0_setBoth_0 : decode cX0_setBoth 0 = .ok (.iconst 0, 1) := by decide +kernel
theorem dX0_setBoth_1 : decode cX0_setBoth 1 = .ok (.istore 4, 2) := by decide +kernel
theorem dX0_setBoth_3 : decode cX0_setBoth 3 = .ok (.iload 4, 2) := by decide +kernel
theorem dX0_setBoth_5 : decode cX0_setBoth 5 = .ok (.iconst 2, 1) := by decide +kernel
theorem dX0_setBoth_6 : decode cX0_setBoth 6 = .ok (.if_icmp .ge 22, 3) := by decide +kernel
theorem dX0_setBoth_9 : decode cX0_setBoth 9 = .ok (.aload_n 0, 1) := by decide +kernel
theorem dX0_setBoth_10 : decode cX0_setBoth 10 = .ok (.getfield 21, 3) := by decide +kernel
theorem dX0_setBoth_13 : decode cX0_setBoth 13 = .ok (.iload_n 1, 1) := by decide +kernel
theorem dX0_setBoth_14 : decode cX0_setBoth 14 = .ok (.iload_n 2, 1) := by decide +kernel
theorem dX0_setBoth_15 : decode cX0_setBoth 15 = .ok (.iload 4, 2) := by decide +kernel
theorem dX0_setBoth_17 : decode cX0_setBoth 17 = .ok (.invokestatic 55, 3) := by decide +kernel
theorem dX0_setBoth_20 : decode cX0_setBoth 20 = .ok (.iload_n 3, 1) := by decide +kernel
theorem dX0_setBoth_21 : decode cX0_setBoth 21 = .ok (.iastore, 1) := by decide +kernel
theorem dX0_setBoth_22 : decode cX0_setBoth 22 = .ok (.iinc 4 1, 3) := by decide +kernel
theorem dX0_setBoth_25 : decode cX0_setBoth 25 = .ok (.goto (-22), 3) := by decide +kernel
theorem dX0_setBoth_28 : decode cX0_setBoth 28 = .ok (.return_, 1) := by decide +kernel
theorem dX0_scoreOf_0 : decode cX0_scoreOf 0 = .ok (.aload_n 0, 1) := by decide +kernel
theorem dX0_scoreOf_1 : decode cX0_scoreOf 1 = .ok (.getfield 21, 3) := by decide +kernel
theorem dX0_scoreOf_4 : decode cX0_scoreOf 4 = .ok (.iload_n 1, 1) := by decide +kernel
theorem dX0_scoreOf_5 : decode cX0_scoreOf 5 = .ok (.iload_n 2, 1) := by decide +kernel
theorem dX0_scoreOf_6 : decode cX0_scoreOf 6 = .ok (.iconst 0, 1) := by decide +kernel
theorem dX0_scoreOf_7 : decode cX0_scoreOf 7 = .ok (.invokestatic 55, 3) := by decide +kernel
theorem dX0_scoreOf_10 : decode cX0_scoreOf 10 = .ok (.iaload, 1) := by decide +kernel
theorem dX0_scoreOf_11 : decode cX0_scoreOf 11 = .ok (.aload_n 0, 1) := by decide +kernel
theorem dX0_scoreOf_12 : decode cX0_scoreOf 12 = .ok (.getfield 21, 3) := by decide +kernel
theorem dX0_scoreOf_15 : decode cX0_scoreOf 15 = .ok (.iload_n 1, 1) := by decide +kernel
theorem dX0_scoreOf_16 : decode cX0_scoreOf 16 = .ok (.iload_n 2, 1) := by decide +kernel
theorem dX0_scoreOf_17 : decode cX0_scoreOf 17 = .ok (.iconst 1, 1) := by decide +kernel
theorem dX0_scoreOf_18 : decode cX0_scoreOf 18 = .ok (.invokestatic 55, 3) := by decide +kernel
theorem dX0_scoreOf_21 : decode cX0_scoreOf 21 = .ok (.iaload, 1) := by decide +kernel
theorem dX0_scoreOf_22 : decode cX0_scoreOf 22 = .ok (.iadd, 1) := by decide +kernel
theorem dX0_scoreOf_23 : decode cX0_scoreOf 23 = .ok (.iconst 2, 1) := by decide +kernel
theorem dX0_scoreOf_24 : decode cX0_scoreOf 24 = .ok (.idiv, 1) := by decide +kernel
theorem dX0_scoreOf_25 : decode cX0_scoreOf 25 = .ok (.ireturn, 1) := by decide +kernel
theorem dX0_rawOf_0 : decode cX0_rawOf 0 = .ok (.iconst 0, 1) := by decide +kernel
theorem dX0_rawOf_1 : decode cX0_rawOf 1 = .ok (.istore_n 2, 1) := by decide +kernel
theorem dX0_rawOf_2 : decode cX0_rawOf 2 = .ok (.iconst 0, 1) := by decide +kernel
theorem dX0_rawOf_3 : decode cX0_rawOf 3 = .ok (.istore_n 3, 1) := by decide +kernel
theorem dX0_rawOf_4 : decode cX0_rawOf 4 = .ok (.iload_n 3, 1) := by decide +kernel
theorem dX0_rawOf_5 : decode cX0_rawOf 5 = .ok (.bipush 8, 2) := by decide +kernel
theorem dX0_rawOf_7 : decode cX0_rawOf 7 = .ok (.if_icmp .ge 18, 3) := by decide +kernel
theorem dX0_rawOf_10 : decode cX0_rawOf 10 = .ok (.iload_n 2, 1) := by decide +kernel
theorem dX0_rawOf_11 : decode cX0_rawOf 11 = .ok (.aload_n 0, 1) := by decide +kernel
theorem dX0_rawOf_12 : decode cX0_rawOf 12 = .ok (.iload_n 1, 1) := by decide +kernel
theorem dX0_rawOf_13 : decode cX0_rawOf 13 = .ok (.iload_n 3, 1) := by decide +kernel
theorem dX0_rawOf_14 : decode cX0_rawOf 14 = .ok (.invokevirtual 69, 3) := by decide +kernel
theorem dX0_rawOf_17 : decode cX0_rawOf 17 = .ok (.iadd, 1) := by decide +kernel
theorem dX0_rawOf_18 : decode cX0_rawOf 18 = .ok (.istore_n 2, 1) := by decide +kernel
theorem dX0_rawOf_19 : decode cX0_rawOf 19 = .ok (.iinc 3 1, 3) := by decide +kernel
theorem dX0_rawOf_22 : decode cX0_rawOf 22 = .ok (.goto (-18), 3) := by decide +kernel
theorem dX0_rawOf_25 : decode cX0_rawOf 25 = .ok (.iload_n 2, 1) := by decide +kernel
theorem dX0_rawOf_26 : decode cX0_rawOf 26 = .ok (.ireturn, 1) := by decide +kernel
theorem dX0_leanIn_0 : decode cX0_leanIn 0 = .ok (.aload_n 0, 1) := by decide +kernel
theorem dX0_leanIn_1 : decode cX0_leanIn 1 = .ok (.getfield 21, 3) := by decide +kernel
theorem dX0_leanIn_4 : decode cX0_leanIn 4 = .ok (.iload_n 1, 1) := by decide +kernel
theorem dX0_leanIn_5 : decode cX0_leanIn 5 = .ok (.iload_n 2, 1) := by decide +kernel
theorem dX0_leanIn_6 : decode cX0_leanIn 6 = .ok (.iconst 1, 1) := by decide +kernel
theorem dX0_leanIn_7 : decode cX0_leanIn 7 = .ok (.invokestatic 55, 3) := by decide +kernel
theorem dX0_leanIn_10 : decode cX0_leanIn 10 = .ok (.iaload, 1) := by decide +kernel
theorem dX0_leanIn_11 : decode cX0_leanIn 11 = .ok (.aload_n 0, 1) := by decide +kernel
theorem dX0_leanIn_12 : decode cX0_leanIn 12 = .ok (.getfield 21, 3) := by decide +kernel
theorem dX0_leanIn_15 : decode cX0_leanIn 15 = .ok (.iload_n 1, 1) := by decide +kernel
theorem dX0_leanIn_16 : decode cX0_leanIn 16 = .ok (.iload_n 2, 1) := by decide +kernel
theorem dX0_leanIn_17 : decode cX0_leanIn 17 = .ok (.iconst 0, 1) := by decide +kernel
theorem dX0_leanIn_18 : decode cX0_leanIn 18 = .ok (.invokestatic 55, 3) := by decide +kernel
theorem dX0_leanIn_21 : decode cX0_leanIn 21 = .ok (.iaload, 1) := by decide +kernel
theorem dX0_leanIn_22 : decode cX0_leanIn 22 = .ok (.isub, 1) := by decide +kernel
theorem dX0_leanIn_23 : decode cX0_leanIn 23 = .ok (.ireturn, 1) := by decide +kernel
theorem dX0_markersApart_0 : decode cX0_markersApart 0 = .ok (.iconst 0, 1) := by decide +kernel
theorem dX0_markersApart_1 : decode cX0_markersApart 1 = .ok (.istore_n 2, 1) := by decide +kernel
theorem dX0_markersApart_2 : decode cX0_markersApart 2 = .ok (.iconst 0, 1) := by decide +kernel
theorem dX0_markersApart_3 : decode cX0_markersApart 3 = .ok (.istore_n 3, 1) := by decide +kernel
theorem dX0_markersApart_4 : decode cX0_markersApart 4 = .ok (.iload_n 3, 1) := by decide +kernel
theorem dX0_markersApart_5 : decode cX0_markersApart 5 = .ok (.bipush 8, 2) := by decide +kernel
theorem dX0_markersApart_7 : decode cX0_markersApart 7 = .ok (.if_icmp .ge 21, 3) := by decide +kernel
theorem dX0_markersApart_10 : decode cX0_markersApart 10 = .ok (.iload_n 2, 1) := by decide +kernel
theorem dX0_markersApart_11 : decode cX0_markersApart 11 = .ok (.aload_n 0, 1) := by decide +kernel
theorem dX0_markersApart_12 : decode cX0_markersApart 12 = .ok (.iload_n 1, 1) := by decide +kernel
theorem dX0_markersApart_13 : decode cX0_markersApart 13 = .ok (.iload_n 3, 1) := by decide +kernel
theorem dX0_markersApart_14 : decode cX0_markersApart 14 = .ok (.invokevirtual 72, 3) := by decide +kernel
theorem dX0_markersApart_17 : decode cX0_markersApart 17 = .ok (.invokestatic 75, 3) := by decide +kernel
theorem dX0_markersApart_20 : decode cX0_markersApart 20 = .ok (.iadd, 1) := by decide +kernel
theorem dX0_markersApart_21 : decode cX0_markersApart 21 = .ok (.istore_n 2, 1) := by decide +kernel
theorem dX0_markersApart_22 : decode cX0_markersApart 22 = .ok (.iinc 3 1, 3) := by decide +kernel
theorem dX0_markersApart_25 : decode cX0_markersApart 25 = .ok (.goto (-21), 3) := by decide +kernel
theorem dX0_markersApart_28 : decode cX0_markersApart 28 = .ok (.iload_n 2, 1) := by decide +kernel
theorem dX0_markersApart_29 : decode cX0_markersApart 29 = .ok (.ireturn, 1) := by decide +kernel
theorem dX0_commonSet_0 : decode cX0_commonSet 0 = .ok (.iconst 0, 1) := by decide +kernel
theorem dX0_commonSet_1 : decode cX0_commonSet 1 = .ok (.istore_n 1, 1) := by decide +kernel
theorem dX0_commonSet_2 : decode cX0_commonSet 2 = .ok (.iconst 0, 1) := by decide +kernel
theorem dX0_commonSet_3 : decode cX0_commonSet 3 = .ok (.istore_n 2, 1) := by decide +kernel
theorem dX0_commonSet_4 : decode cX0_commonSet 4 = .ok (.iload_n 2, 1) := by decide +kernel
theorem dX0_commonSet_5 : decode cX0_commonSet 5 = .ok (.bipush 8, 2) := by decide +kernel
theorem dX0_commonSet_7 : decode cX0_commonSet 7 = .ok (.if_icmp .ge 24, 3) := by decide +kernel
theorem dX0_commonSet_10 : decode cX0_commonSet 10 = .ok (.aload_n 0, 1) := by decide +kernel
theorem dX0_commonSet_11 : decode cX0_commonSet 11 = .ok (.getfield 15, 3) := by decide +kernel
theorem dX0_commonSet_14 : decode cX0_commonSet 14 = .ok (.iload_n 2, 1) := by decide +kernel
theorem dX0_commonSet_15 : decode cX0_commonSet 15 = .ok (.iaload, 1) := by decide +kernel
theorem dX0_commonSet_16 : decode cX0_commonSet 16 = .ok (.ifCond .lt 9, 3) := by decide +kernel
theorem dX0_commonSet_19 : decode cX0_commonSet 19 = .ok (.iload_n 1, 1) := by decide +kernel
theorem dX0_commonSet_20 : decode cX0_commonSet 20 = .ok (.iconst 1, 1) := by decide +kernel
theorem dX0_commonSet_21 : decode cX0_commonSet 21 = .ok (.iload_n 2, 1) := by decide +kernel
theorem dX0_commonSet_22 : decode cX0_commonSet 22 = .ok (.ishl, 1) := by decide +kernel
theorem dX0_commonSet_23 : decode cX0_commonSet 23 = .ok (.ior, 1) := by decide +kernel
theorem dX0_commonSet_24 : decode cX0_commonSet 24 = .ok (.istore_n 1, 1) := by decide +kernel
theorem dX0_commonSet_25 : decode cX0_commonSet 25 = .ok (.iinc 2 1, 3) := by decide +kernel
theorem dX0_commonSet_28 : decode cX0_commonSet 28 = .ok (.goto (-24), 3) := by decide +kernel
theorem dX0_commonSet_31 : decode cX0_commonSet 31 = .ok (.iload_n 1, 1) := by decide +kernel
theorem dX0_commonSet_32 : decode cX0_commonSet 32 = .ok (.ireturn, 1) := by decide +kernel
theorem dX0_spotsInUse_0 : decode cX0_spotsInUse 0 = .ok (.iconst 0, 1) := by decide +kernel
theorem dX0_spotsInUse_1 : decode cX0_spotsInUse 1 = .ok (.istore_n 1, 1) := by decide +kernel
theorem dX0_spotsInUse_2 : decode cX0_spotsInUse 2 = .ok (.iconst 0, 1) := by decide +kernel
theorem dX0_spotsInUse_3 : decode cX0_spotsInUse 3 = .ok (.istore_n 2, 1) := by decide +kernel
theorem dX0_spotsInUse_4 : decode cX0_spotsInUse 4 = .ok (.iload_n 2, 1) := by decide +kernel
theorem dX0_spotsInUse_5 : decode cX0_spotsInUse 5 = .ok (.bipush 10, 2) := by decide +kernel
theorem dX0_spotsInUse_7 : decode cX0_spotsInUse 7 = .ok (.if_icmp .ge 21, 3) := by decide +kernel
theorem dX0_spotsInUse_10 : decode cX0_spotsInUse 10 = .ok (.aload_n 0, 1) := by decide +kernel
theorem dX0_spotsInUse_11 : decode cX0_spotsInUse 11 = .ok (.getfield 30, 3) := by decide +kernel
theorem dX0_spotsInUse_14 : decode cX0_spotsInUse 14 = .ok (.iload_n 2, 1) := by decide +kernel
theorem dX0_spotsInUse_15 : decode cX0_spotsInUse 15 = .ok (.iaload, 1) := by decide +kernel
theorem dX0_spotsInUse_16 : decode cX0_spotsInUse 16 = .ok (.ifCond .lt 6, 3) := by decide +kernel
theorem dX0_spotsInUse_19 : decode cX0_spotsInUse 19 = .ok (.iinc 1 1, 3) := by decide +kernel
theorem dX0_spotsInUse_22 : decode cX0_spotsInUse 22 = .ok (.iinc 2 1, 3) := by decide +kernel
theorem dX0_spotsInUse_25 : decode cX0_spotsInUse 25 = .ok (.goto (-21), 3) := by decide +kernel
theorem dX0_spotsInUse_28 : decode cX0_spotsInUse 28 = .ok (.iload_n 1, 1) := by decide +kernel
theorem dX0_spotsInUse_29 : decode cX0_spotsInUse 29 = .ok (.ireturn, 1) := by decide +kernel
theorem dX0_nextDraw_0 : decode cX0_nextDraw 0 = .ok (.aload_n 0, 1) := by decide +kernel
theorem dX0_nextDraw_1 : decode cX0_nextDraw 1 = .ok (.aload_n 0, 1) := by decide +kernel
theorem dX0_nextDraw_2 : decode cX0_nextDraw 2 = .ok (.getfield 40, 3) := by decide +kernel
theorem dX0_nextDraw_5 : decode cX0_nextDraw 5 = .ok (.ldc 79, 2) := by decide +kernel
theorem dX0_nextDraw_7 : decode cX0_nextDraw 7 = .ok (.imul, 1) := by decide +kernel
theorem dX0_nextDraw_8 : decode cX0_nextDraw 8 = .ok (.sipush 12345, 3) := by decide +kernel
theorem dX0_nextDraw_11 : decode cX0_nextDraw 11 = .ok (.iadd, 1) := by decide +kernel
theorem dX0_nextDraw_12 : decode cX0_nextDraw 12 = .ok (.putfield 40, 3) := by decide +kernel
theorem dX0_nextDraw_15 : decode cX0_nextDraw 15 = .ok (.aload_n 0, 1) := by decide +kernel
theorem dX0_nextDraw_16 : decode cX0_nextDraw 16 = .ok (.getfield 40, 3) := by decide +kernel
theorem dX0_nextDraw_19 : decode cX0_nextDraw 19 = .ok (.bipush 8, 2) := by decide +kernel
theorem dX0_nextDraw_21 : decode cX0_nextDraw 21 = .ok (.iushr, 1) := by decide +kernel
theorem dX0_nextDraw_22 : decode cX0_nextDraw 22 = .ok (.ireturn, 1) := by decide +kernel
theorem dX1_init_0 : decode cX1_init 0 = .ok (.aload_n 0, 1) := by decide +kernel
theorem dX1_init_1 : decode cX1_init 1 = .ok (.invokespecial 3, 3) := by decide +kernel
theorem dX1_init_4 : decode cX1_init 4 = .ok (.aload_n 0, 1) := by decide +kernel
theorem dX1_init_5 : decode cX1_init 5 = .ok (.bipush 8, 2) := by decide +kernel
theorem dX1_init_7 : decode cX1_init 7 = .ok (.newarray .int, 2) := by decide +kernel
theorem dX1_init_9 : decode cX1_init 9 = .ok (.putfield 9, 3) := by decide +kernel
theorem dX1_init_12 : decode cX1_init 12 = .ok (.aload_n 0, 1) := by decide +kernel
theorem dX1_init_13 : decode cX1_init 13 = .ok (.bipush 96, 2) := by decide +kernel
theorem dX1_init_15 : decode cX1_init 15 = .ok (.newarray .int, 2) := by decide +kernel
theorem dX1_init_17 : decode cX1_init 17 = .ok (.putfield 15, 3) := by decide +kernel
theorem dX1_init_20 : decode cX1_init 20 = .ok (.aload_n 0, 1) := by decide +kernel
theorem dX1_init_21 : decode cX1_init 21 = .ok (.bipush 12, 2) := by decide +kernel
theorem dX1_init_23 : decode cX1_init 23 = .ok (.newarray .int, 2) := by decide +kernel
theorem dX1_init_25 : decode cX1_init 25 = .ok (.putfield 18, 3) := by decide +kernel
theorem dX1_init_28 : decode cX1_init 28 = .ok (.aload_n 0, 1) := by decide +kernel
theorem dX1_init_29 : decode cX1_init 29 = .ok (.iconst 0, 1) := by decide +kernel
theorem dX1_init_30 : decode cX1_init 30 = .ok (.putfield 21, 3) := by decide +kernel
theorem dX1_init_33 : decode cX1_init 33 = .ok (.aload_n 0, 1) := by decide +kernel
theorem dX1_init_34 : decode cX1_init 34 = .ok (.iconst 0, 1) := by decide +kernel
theorem dX1_init_35 : decode cX1_init 35 = .ok (.putfield 25, 3) := by decide +kernel
theorem dX1_init_38 : decode cX1_init 38 = .ok (.aload_n 0, 1) := by decide +kernel
theorem dX1_init_39 : decode cX1_init 39 = .ok (.iconst 0, 1) := by decide +kernel
theorem dX1_init_40 : decode cX1_init 40 = .ok (.putfield 28, 3) := by decide +kernel
theorem dX1_init_43 : decode cX1_init 43 = .ok (.aload_n 0, 1) := by decide +kernel
theorem dX1_init_44 : decode cX1_init 44 = .ok (.iconst 0, 1) := by decide +kernel
theorem dX1_init_45 : decode cX1_init 45 = .ok (.putfield 31, 3) := by decide +kernel
theorem dX1_init_48 : decode cX1_init 48 = .ok (.aload_n 0, 1) := by decide +kernel
theorem dX1_init_49 : decode cX1_init 49 = .ok (.iconst 0, 1) := by decide +kernel
theorem dX1_init_50 : decode cX1_init 50 = .ok (.putfield 34, 3) := by decide +kernel
theorem dX1_init_53 : decode cX1_init 53 = .ok (.return_, 1) := by decide +kernel
theorem dX1_read_0 : decode cX1_read 0 = .ok (.aload_n 0, 1) := by decide +kernel
theorem dX1_read_1 : decode cX1_read 1 = .ok (.aload_n 1, 1) := by decide +kernel
theorem dX1_read_2 : decode cX1_read 2 = .ok (.getfield 37, 3) := by decide +kernel
theorem dX1_read_5 : decode cX1_read 5 = .ok (.putfield 21, 3) := by decide +kernel
theorem dX1_read_8 : decode cX1_read 8 = .ok (.aload_n 0, 1) := by decide +kernel
theorem dX1_read_9 : decode cX1_read 9 = .ok (.aload_n 1, 1) := by decide +kernel
theorem dX1_read_10 : decode cX1_read 10 = .ok (.invokevirtual 40, 3) := by decide +kernel
theorem dX1_read_13 : decode cX1_read 13 = .ok (.putfield 28, 3) := by decide +kernel
theorem dX1_read_16 : decode cX1_read 16 = .ok (.aload_n 0, 1) := by decide +kernel
theorem dX1_read_17 : decode cX1_read 17 = .ok (.iconst 0, 1) := by decide +kernel
theorem dX1_read_18 : decode cX1_read 18 = .ok (.putfield 25, 3) := by decide +kernel
theorem dX1_read_21 : decode cX1_read 21 = .ok (.aload_n 0, 1) := by decide +kernel
theorem dX1_read_22 : decode cX1_read 22 = .ok (.iconst 0, 1) := by decide +kernel
theorem dX1_read_23 : decode cX1_read 23 = .ok (.putfield 31, 3) := by decide +kernel
theorem dX1_read_26 : decode cX1_read 26 = .ok (.aload_n 0, 1) := by decide +kernel
theorem dX1_read_27 : decode cX1_read 27 = .ok (.iconst 0, 1) := by decide +kernel
theorem dX1_read_28 : decode cX1_read 28 = .ok (.putfield 34, 3) := by decide +kernel
theorem dX1_read_31 : decode cX1_read 31 = .ok (.iconst 0, 1) := by decide +kernel
theorem dX1_read_32 : decode cX1_read 32 = .ok (.istore_n 2, 1) := by decide +kernel
theorem dX1_read_33 : decode cX1_read 33 = .ok (.iload_n 2, 1) := by decide +kernel
theorem dX1_read_34 : decode cX1_read 34 = .ok (.bipush 8, 2) := by decide +kernel
theorem dX1_read_36 : decode cX1_read 36 = .ok (.if_icmp .ge 55, 3) := by decide +kernel
theorem dX1_read_39 : decode cX1_read 39 = .ok (.aload_n 0, 1) := by decide +kernel
theorem dX1_read_40 : decode cX1_read 40 = .ok (.getfield 9, 3) := by decide +kernel
theorem dX1_read_43 : decode cX1_read 43 = .ok (.iload_n 2, 1) := by decide +kernel
theorem dX1_read_44 : decode cX1_read 44 = .ok (.aload_n 1, 1) := by decide +kernel
theorem dX1_read_45 : decode cX1_read 45 = .ok (.getfield 44, 3) := by decide +kernel
theorem dX1_read_48 : decode cX1_read 48 = .ok (.iload_n 2, 1) := by decide +kernel
theorem dX1_read_49 : decode cX1_read 49 = .ok (.iaload, 1) := by decide +kernel
theorem dX1_read_50 : decode cX1_read 50 = .ok (.iastore, 1) := by decide +kernel
theorem dX1_read_51 : decode cX1_read 51 = .ok (.aload_n 0, 1) := by decide +kernel
theorem dX1_read_52 : decode cX1_read 52 = .ok (.dup, 1) := by decide +kernel
theorem dX1_read_53 : decode cX1_read 53 = .ok (.getfield 25, 3) := by decide +kernel
theorem dX1_read_56 : decode cX1_read 56 = .ok (.aload_n 0, 1) := by decide +kernel
theorem dX1_read_57 : decode cX1_read 57 = .ok (.getfield 9, 3) := by decide +kernel
theorem dX1_read_60 : decode cX1_read 60 = .ok (.iload_n 2, 1) := by decide +kernel
theorem dX1_read_61 : decode cX1_read 61 = .ok (.iaload, 1) := by decide +kernel
theorem dX1_read_62 : decode cX1_read 62 = .ok (.iadd, 1) := by decide +kernel
theorem dX1_read_63 : decode cX1_read 63 = .ok (.putfield 25, 3) := by decide +kernel
theorem dX1_read_66 : decode cX1_read 66 = .ok (.aload_n 0, 1) := by decide +kernel
theorem dX1_read_67 : decode cX1_read 67 = .ok (.dup, 1) := by decide +kernel
theorem dX1_read_68 : decode cX1_read 68 = .ok (.getfield 31, 3) := by decide +kernel
theorem dX1_read_71 : decode cX1_read 71 = .ok (.iconst 0, 1) := by decide +kernel
theorem dX1_read_72 : decode cX1_read 72 = .ok (.aload_n 1, 1) := by decide +kernel
theorem dX1_read_73 : decode cX1_read 73 = .ok (.getfield 45, 3) := by decide +kernel
theorem dX1_read_76 : decode cX1_read 76 = .ok (.iload_n 2, 1) := by decide +kernel
theorem dX1_read_77 : decode cX1_read 77 = .ok (.iaload, 1) := by decide +kernel
theorem dX1_read_78 : decode cX1_read 78 = .ok (.invokestatic 48, 3) := by decide +kernel
theorem dX1_read_81 : decode cX1_read 81 = .ok (.iadd, 1) := by decide +kernel
theorem dX1_read_82 : decode cX1_read 82 = .ok (.putfield 31, 3) := by decide +kernel
theorem dX1_read_85 : decode cX1_read 85 = .ok (.iinc 2 1, 3) := by decide +kernel
theorem dX1_read_88 : decode cX1_read 88 = .ok (.goto (-55), 3) := by decide +kernel
theorem dX1_read_91 : decode cX1_read 91 = .ok (.aload_n 0, 1) := by decide +kernel
theorem dX1_read_92 : decode cX1_read 92 = .ok (.getfield 15, 3) := by decide +kernel
theorem dX1_read_95 : decode cX1_read 95 = .ok (.iconst 0, 1) := by decide +kernel
theorem dX1_read_96 : decode cX1_read 96 = .ok (.invokestatic 54, 3) := by decide +kernel
theorem dX1_read_99 : decode cX1_read 99 = .ok (.aload_n 0, 1) := by decide +kernel
theorem dX1_read_100 : decode cX1_read 100 = .ok (.getfield 18, 3) := by decide +kernel
theorem dX1_read_103 : decode cX1_read 103 = .ok (.iconst 0, 1) := by decide +kernel
theorem dX1_read_104 : decode cX1_read 104 = .ok (.invokestatic 54, 3) := by decide +kernel
theorem dX1_read_107 : decode cX1_read 107 = .ok (.iconst 0, 1) := by decide +kernel
theorem dX1_read_108 : decode cX1_read 108 = .ok (.istore_n 2, 1) := by decide +kernel
theorem dX1_read_109 : decode cX1_read 109 = .ok (.iload_n 2, 1) := by decide +kernel
theorem dX1_read_110 : decode cX1_read 110 = .ok (.aload_n 0, 1) := by decide +kernel
theorem dX1_read_111 : decode cX1_read 111 = .ok (.getfield 21, 3) := by decide +kernel
theorem dX1_read_114 : decode cX1_read 114 = .ok (.if_icmp .ge 35, 3) := by decide +kernel
theorem dX1_read_117 : decode cX1_read 117 = .ok (.iconst 0, 1) := by decide +kernel
theorem dX1_read_118 : decode cX1_read 118 = .ok (.istore_n 3, 1) := by decide +kernel
theorem dX1_read_119 : decode cX1_read 119 = .ok (.iload_n 3, 1) := by decide +kernel
theorem dX1_read_120 : decode cX1_read 120 = .ok (.bipush 8, 2) := by decide +kernel
theorem dX1_read_122 : decode cX1_read 122 = .ok (.if_icmp .ge 21, 3) := by decide +kernel
theorem dX1_read_125 : decode cX1_read 125 = .ok (.aload_n 0, 1) := by decide +kernel
theorem dX1_read_126 : decode cX1_read 126 = .ok (.iload_n 2, 1) := by decide +kernel
theorem dX1_read_127 : decode cX1_read 127 = .ok (.iload_n 3, 1) := by decide +kernel
theorem dX1_read_128 : decode cX1_read 128 = .ok (.aload_n 1, 1) := by decide +kernel
theorem dX1_read_129 : decode cX1_read 129 = .ok (.iload_n 2, 1) := by decide +kernel
theorem dX1_read_130 : decode cX1_read 130 = .ok (.iload_n 3, 1) := by decide +kernel
theorem dX1_read_131 : decode cX1_read 131 = .ok (.invokevirtual 60, 3) := by decide +kernel
theorem dX1_read_134 : decode cX1_read 134 = .ok (.invokevirtual 63, 3) := by decide +kernel
theorem dX1_read_137 : decode cX1_read 137 = .ok (.iinc 3 1, 3) := by decide +kernel
theorem dX1_read_140 : decode cX1_read 140 = .ok (.goto (-21), 3) := by decide +kernel
theorem dX1_read_143 : decode cX1_read 143 = .ok (.iinc 2 1, 3) := by decide +kernel
theorem dX1_read_146 : decode cX1_read 146 = .ok (.goto (-37), 3) := by decide +kernel
theorem dX1_read_149 : decode cX1_read 149 = .ok (.return_, 1) := by decide +kernel
theorem dX1_isCommon_0 : decode cX1_isCommon 0 = .ok (.aload_n 0, 1) := by decide +kernel
theorem dX1_isCommon_1 : decode cX1_isCommon 1 = .ok (.getfield 28, 3) := by decide +kernel
theorem dX1_isCommon_4 : decode cX1_isCommon 4 = .ok (.iconst 1, 1) := by decide +kernel
theorem dX1_isCommon_5 : decode cX1_isCommon 5 = .ok (.iload_n 1, 1) := by decide +kernel
theorem dX1_isCommon_6 : decode cX1_isCommon 6 = .ok (.ishl, 1) := by decide +kernel
theorem dX1_isCommon_7 : decode cX1_isCommon 7 = .ok (.iand, 1) := by decide +kernel
theorem dX1_isCommon_8 : decode cX1_isCommon 8 = .ok (.ifCond .eq 7, 3) := by decide +kernel
theorem dX1_isCommon_11 : decode cX1_isCommon 11 = .ok (.iconst 1, 1) := by decide +kernel
theorem dX1_isCommon_12 : decode cX1_isCommon 12 = .ok (.goto 4, 3) := by decide +kernel
theorem dX1_isCommon_15 : decode cX1_isCommon 15 = .ok (.iconst 0, 1) := by decide +kernel
theorem dX1_isCommon_16 : decode cX1_isCommon 16 = .ok (.ireturn, 1) := by decide +kernel
theorem dX1_scoreOf_0 : decode cX1_scoreOf 0 = .ok (.aload_n 0, 1) := by decide +kernel
theorem dX1_scoreOf_1 : decode cX1_scoreOf 1 = .ok (.getfield 15, 3) := by decide +kernel
theorem dX1_scoreOf_4 : decode cX1_scoreOf 4 = .ok (.iload_n 1, 1) := by decide +kernel
theorem dX1_scoreOf_5 : decode cX1_scoreOf 5 = .ok (.bipush 8, 2) := by decide +kernel
theorem dX1_scoreOf_7 : decode cX1_scoreOf 7 = .ok (.imul, 1) := by decide +kernel
theorem dX1_scoreOf_8 : decode cX1_scoreOf 8 = .ok (.iload_n 2, 1) := by decide +kernel
theorem dX1_scoreOf_9 : decode cX1_scoreOf 9 = .ok (.iadd, 1) := by decide +kernel
theorem dX1_scoreOf_10 : decode cX1_scoreOf 10 = .ok (.iaload, 1) := by decide +kernel
theorem dX1_scoreOf_11 : decode cX1_scoreOf 11 = .ok (.ireturn, 1) := by decide +kernel
theorem dX1_setScore_0 : decode cX1_setScore 0 = .ok (.iload_n 3, 1) := by decide +kernel
theorem dX1_setScore_1 : decode cX1_setScore 1 = .ok (.aload_n 0, 1) := by decide +kernel
theorem dX1_setScore_2 : decode cX1_setScore 2 = .ok (.iload_n 1, 1) := by decide +kernel
theorem dX1_setScore_3 : decode cX1_setScore 3 = .ok (.iload_n 2, 1) := by decide +kernel
theorem dX1_setScore_4 : decode cX1_setScore 4 = .ok (.invokevirtual 67, 3) := by decide +kernel
theorem dX1_setScore_7 : decode cX1_setScore 7 = .ok (.isub, 1) := by decide +kernel
theorem dX1_setScore_8 : decode cX1_setScore 8 = .ok (.istore 4, 2) := by decide +kernel
theorem dX1_setScore_10 : decode cX1_setScore 10 = .ok (.aload_n 0, 1) := by decide +kernel
theorem dX1_setScore_11 : decode cX1_setScore 11 = .ok (.getfield 15, 3) := by decide +kernel
theorem dX1_setScore_14 : decode cX1_setScore 14 = .ok (.iload_n 1, 1) := by decide +kernel
theorem dX1_setScore_15 : decode cX1_setScore 15 = .ok (.bipush 8, 2) := by decide +kernel
theorem dX1_setScore_17 : decode cX1_setScore 17 = .ok (.imul, 1) := by decide +kernel
theorem dX1_setScore_18 : decode cX1_setScore 18 = .ok (.iload_n 2, 1) := by decide +kernel
theorem dX1_setScore_19 : decode cX1_setScore 19 = .ok (.iadd, 1) := by decide +kernel
theorem dX1_setScore_20 : decode cX1_setScore 20 = .ok (.iload_n 3, 1) := by decide +kernel
theorem dX1_setScore_21 : decode cX1_setScore 21 = .ok (.iastore, 1) := by decide +kernel
theorem dX1_setScore_22 : decode cX1_setScore 22 = .ok (.aload_n 0, 1) := by decide +kernel
theorem dX1_setScore_23 : decode cX1_setScore 23 = .ok (.getfield 18, 3) := by decide +kernel
theorem dX1_setScore_26 : decode cX1_setScore 26 = .ok (.iload_n 1, 1) := by decide +kernel
theorem dX1_setScore_27 : decode cX1_setScore 27 = .ok (.dup2, 1) := by decide +kernel
theorem dX1_setScore_28 : decode cX1_setScore 28 = .ok (.iaload, 1) := by decide +kernel
theorem dX1_setScore_29 : decode cX1_setScore 29 = .ok (.iload 4, 2) := by decide +kernel
theorem dX1_setScore_31 : decode cX1_setScore 31 = .ok (.iadd, 1) := by decide +kernel
theorem dX1_setScore_32 : decode cX1_setScore 32 = .ok (.iastore, 1) := by decide +kernel
theorem dX1_setScore_33 : decode cX1_setScore 33 = .ok (.aload_n 0, 1) := by decide +kernel
theorem dX1_setScore_34 : decode cX1_setScore 34 = .ok (.iload_n 2, 1) := by decide +kernel
theorem dX1_setScore_35 : decode cX1_setScore 35 = .ok (.invokevirtual 68, 3) := by decide +kernel
theorem dX1_setScore_38 : decode cX1_setScore 38 = .ok (.ifCond .eq 14, 3) := by decide +kernel
theorem dX1_setScore_41 : decode cX1_setScore 41 = .ok (.aload_n 0, 1) := by decide +kernel
theorem dX1_setScore_42 : decode cX1_setScore 42 = .ok (.dup, 1) := by decide +kernel
theorem dX1_setScore_43 : decode cX1_setScore 43 = .ok (.getfield 34, 3) := by decide +kernel
theorem dX1_setScore_46 : decode cX1_setScore 46 = .ok (.iload 4, 2) := by decide +kernel
theorem dX1_setScore_48 : decode cX1_setScore 48 = .ok (.iadd, 1) := by decide +kernel
theorem dX1_setScore_49 : decode cX1_setScore 49 = .ok (.putfield 34, 3) := by decide +kernel
theorem dX1_setScore_52 : decode cX1_setScore 52 = .ok (.return_, 1) := by decide +kernel
theorem dX1_strike_0 : decode cX1_strike 0 = .ok (.aload_n 0, 1) := by decide +kernel
theorem dX1_strike_1 : decode cX1_strike 1 = .ok (.dup, 1) := by decide +kernel
theorem dX1_strike_2 : decode cX1_strike 2 = .ok (.getfield 25, 3) := by decide +kernel
theorem dX1_strike_5 : decode cX1_strike 5 = .ok (.aload_n 0, 1) := by decide +kernel
theorem dX1_strike_6 : decode cX1_strike 6 = .ok (.getfield 9, 3) := by decide +kernel
theorem dX1_strike_9 : decode cX1_strike 9 = .ok (.iload_n 1, 1) := by decide +kernel
theorem dX1_strike_10 : decode cX1_strike 10 = .ok (.iaload, 1) := by decide +kernel
theorem dX1_strike_11 : decode cX1_strike 11 = .ok (.isub, 1) := by decide +kernel
theorem dX1_strike_12 : decode cX1_strike 12 = .ok (.putfield 25, 3) := by decide +kernel
theorem dX1_strike_15 : decode cX1_strike 15 = .ok (.aload_n 0, 1) := by decide +kernel
theorem dX1_strike_16 : decode cX1_strike 16 = .ok (.getfield 9, 3) := by decide +kernel
theorem dX1_strike_19 : decode cX1_strike 19 = .ok (.iload_n 1, 1) := by decide +kernel
theorem dX1_strike_20 : decode cX1_strike 20 = .ok (.iconst 0, 1) := by decide +kernel
theorem dX1_strike_21 : decode cX1_strike 21 = .ok (.iastore, 1) := by decide +kernel
theorem dX1_strike_22 : decode cX1_strike 22 = .ok (.iconst 0, 1) := by decide +kernel
theorem dX1_strike_23 : decode cX1_strike 23 = .ok (.istore_n 2, 1) := by decide +kernel
theorem dX1_strike_24 : decode cX1_strike 24 = .ok (.iload_n 2, 1) := by decide +kernel
theorem dX1_strike_25 : decode cX1_strike 25 = .ok (.aload_n 0, 1) := by decide +kernel
theorem dX1_strike_26 : decode cX1_strike 26 = .ok (.getfield 21, 3) := by decide +kernel
theorem dX1_strike_29 : decode cX1_strike 29 = .ok (.if_icmp .ge 16, 3) := by decide +kernel
theorem dX1_strike_32 : decode cX1_strike 32 = .ok (.aload_n 0, 1) := by decide +kernel
theorem dX1_strike_33 : decode cX1_strike 33 = .ok (.iload_n 2, 1) := by decide +kernel
theorem dX1_strike_34 : decode cX1_strike 34 = .ok (.iload_n 1, 1) := by decide +kernel
theorem dX1_strike_35 : decode cX1_strike 35 = .ok (.iconst 0, 1) := by decide +kernel
theorem dX1_strike_36 : decode cX1_strike 36 = .ok (.invokevirtual 63, 3) := by decide +kernel
theorem dX1_strike_39 : decode cX1_strike 39 = .ok (.iinc 2 1, 3) := by decide +kernel
theorem dX1_strike_42 : decode cX1_strike 42 = .ok (.goto (-18), 3) := by decide +kernel
theorem dX1_strike_45 : decode cX1_strike 45 = .ok (.return_, 1) := by decide +kernel
theorem dX1_join_0 : decode cX1_join 0 = .ok (.aload_n 0, 1) := by decide +kernel
theorem dX1_join_1 : decode cX1_join 1 = .ok (.getfield 21, 3) := by decide +kernel
theorem dX1_join_4 : decode cX1_join 4 = .ok (.istore_n 2, 1) := by decide +kernel
theorem dX1_join_5 : decode cX1_join 5 = .ok (.aload_n 0, 1) := by decide +kernel
theorem dX1_join_6 : decode cX1_join 6 = .ok (.dup, 1) := by decide +kernel
theorem dX1_join_7 : decode cX1_join 7 = .ok (.getfield 21, 3) := by decide +kernel
theorem dX1_join_10 : decode cX1_join 10 = .ok (.iconst 1, 1) := by decide +kernel
theorem dX1_join_11 : decode cX1_join 11 = .ok (.iadd, 1) := by decide +kernel
theorem dX1_join_12 : decode cX1_join 12 = .ok (.putfield 21, 3) := by decide +kernel
theorem dX1_join_15 : decode cX1_join 15 = .ok (.iconst 0, 1) := by decide +kernel
theorem dX1_join_16 : decode cX1_join 16 = .ok (.istore_n 3, 1) := by decide +kernel
theorem dX1_join_17 : decode cX1_join 17 = .ok (.iload_n 3, 1) := by decide +kernel
theorem dX1_join_18 : decode cX1_join 18 = .ok (.bipush 8, 2) := by decide +kernel
theorem dX1_join_20 : decode cX1_join 20 = .ok (.if_icmp .ge 25, 3) := by decide +kernel
theorem dX1_join_23 : decode cX1_join 23 = .ok (.aload_n 0, 1) := by decide +kernel
theorem dX1_join_24 : decode cX1_join 24 = .ok (.iload_n 2, 1) := by decide +kernel
theorem dX1_join_25 : decode cX1_join 25 = .ok (.iload_n 3, 1) := by decide +kernel
theorem dX1_join_26 : decode cX1_join 26 = .ok (.iload_n 1, 1) := by decide +kernel
theorem dX1_join_27 : decode cX1_join 27 = .ok (.aload_n 0, 1) := by decide +kernel
theorem dX1_join_28 : decode cX1_join 28 = .ok (.getfield 9, 3) := by decide +kernel
theorem dX1_join_31 : decode cX1_join 31 = .ok (.iload_n 3, 1) := by decide +kernel
theorem dX1_join_32 : decode cX1_join 32 = .ok (.iaload, 1) := by decide +kernel
theorem dX1_join_33 : decode cX1_join 33 = .ok (.invokestatic 72, 3) := by decide +kernel
theorem dX1_join_36 : decode cX1_join 36 = .ok (.invokevirtual 63, 3) := by decide +kernel
theorem dX1_join_39 : decode cX1_join 39 = .ok (.iinc 3 1, 3) := by decide +kernel
theorem dX1_join_42 : decode cX1_join 42 = .ok (.goto (-25), 3) := by decide +kernel
theorem dX1_join_45 : decode cX1_join 45 = .ok (.return_, 1) := by decide +kernel
theorem dX1_greatestRaw_0 : decode cX1_greatestRaw 0 = .ok (.iconst 0, 1) := by decide +kernel
theorem dX1_greatestRaw_1 : decode cX1_greatestRaw 1 = .ok (.istore_n 1, 1) := by decide +kernel
theorem dX1_greatestRaw_2 : decode cX1_greatestRaw 2 = .ok (.iconst 0, 1) := by decide +kernel
theorem dX1_greatestRaw_3 : decode cX1_greatestRaw 3 = .ok (.istore_n 2, 1) := by decide +kernel
theorem dX1_greatestRaw_4 : decode cX1_greatestRaw 4 = .ok (.iload_n 2, 1) := by decide +kernel
theorem dX1_greatestRaw_5 : decode cX1_greatestRaw 5 = .ok (.aload_n 0, 1) := by decide +kernel
theorem dX1_greatestRaw_6 : decode cX1_greatestRaw 6 = .ok (.getfield 21, 3) := by decide +kernel
theorem dX1_greatestRaw_9 : decode cX1_greatestRaw 9 = .ok (.if_icmp .ge 20, 3) := by decide +kernel
theorem dX1_greatestRaw_12 : decode cX1_greatestRaw 12 = .ok (.iload_n 1, 1) := by decide +kernel
theorem dX1_greatestRaw_13 : decode cX1_greatestRaw 13 = .ok (.aload_n 0, 1) := by decide +kernel
theorem dX1_greatestRaw_14 : decode cX1_greatestRaw 14 = .ok (.getfield 18, 3) := by decide +kernel
theorem dX1_greatestRaw_17 : decode cX1_greatestRaw 17 = .ok (.iload_n 2, 1) := by decide +kernel
theorem dX1_greatestRaw_18 : decode cX1_greatestRaw 18 = .ok (.iaload, 1) := by decide +kernel
theorem dX1_greatestRaw_19 : decode cX1_greatestRaw 19 = .ok (.invokestatic 48, 3) := by decide +kernel
theorem dX1_greatestRaw_22 : decode cX1_greatestRaw 22 = .ok (.istore_n 1, 1) := by decide +kernel
theorem dX1_greatestRaw_23 : decode cX1_greatestRaw 23 = .ok (.iinc 2 1, 3) := by decide +kernel
theorem dX1_greatestRaw_26 : decode cX1_greatestRaw 26 = .ok (.goto (-22), 3) := by decide +kernel
theorem dX1_greatestRaw_29 : decode cX1_greatestRaw 29 = .ok (.iload_n 1, 1) := by decide +kernel
theorem dX1_greatestRaw_30 : decode cX1_greatestRaw 30 = .ok (.ireturn, 1) := by decide +kernel
theorem dX1_sumOfRaws_0 : decode cX1_sumOfRaws 0 = .ok (.iconst 0, 1) := by decide +kernel
theorem dX1_sumOfRaws_1 : decode cX1_sumOfRaws 1 = .ok (.istore_n 1, 1) := by decide +kernel
theorem dX1_sumOfRaws_2 : decode cX1_sumOfRaws 2 = .ok (.iconst 0, 1) := by decide +kernel
theorem dX1_sumOfRaws_3 : decode cX1_sumOfRaws 3 = .ok (.istore_n 2, 1) := by decide +kernel
theorem dX1_sumOfRaws_4 : decode cX1_sumOfRaws 4 = .ok (.iload_n 2, 1) := by decide +kernel
theorem dX1_sumOfRaws_5 : decode cX1_sumOfRaws 5 = .ok (.aload_n 0, 1) := by decide +kernel
theorem dX1_sumOfRaws_6 : decode cX1_sumOfRaws 6 = .ok (.getfield 21, 3) := by decide +kernel
theorem dX1_sumOfRaws_9 : decode cX1_sumOfRaws 9 = .ok (.if_icmp .ge 18, 3) := by decide +kernel
theorem dX1_sumOfRaws_12 : decode cX1_sumOfRaws 12 = .ok (.iload_n 1, 1) := by decide +kernel
theorem dX1_sumOfRaws_13 : decode cX1_sumOfRaws 13 = .ok (.aload_n 0, 1) := by decide +kernel
theorem dX1_sumOfRaws_14 : decode cX1_sumOfRaws 14 = .ok (.getfield 18, 3) := by decide +kernel
theorem dX1_sumOfRaws_17 : decode cX1_sumOfRaws 17 = .ok (.iload_n 2, 1) := by decide +kernel
theorem dX1_sumOfRaws_18 : decode cX1_sumOfRaws 18 = .ok (.iaload, 1) := by decide +kernel
theorem dX1_sumOfRaws_19 : decode cX1_sumOfRaws 19 = .ok (.iadd, 1) := by decide +kernel
theorem dX1_sumOfRaws_20 : decode cX1_sumOfRaws 20 = .ok (.istore_n 1, 1) := by decide +kernel
theorem dX1_sumOfRaws_21 : decode cX1_sumOfRaws 21 = .ok (.iinc 2 1, 3) := by decide +kernel
theorem dX1_sumOfRaws_24 : decode cX1_sumOfRaws 24 = .ok (.goto (-20), 3) := by decide +kernel
theorem dX1_sumOfRaws_27 : decode cX1_sumOfRaws 27 = .ok (.iload_n 1, 1) := by decide +kernel
theorem dX1_sumOfRaws_28 : decode cX1_sumOfRaws 28 = .ok (.ireturn, 1) := by decide +kernel
theorem dX1_newMean_0 : decode cX1_newMean 0 = .ok (.aload_n 0, 1) := by decide +kernel
theorem dX1_newMean_1 : decode cX1_newMean 1 = .ok (.getfield 21, 3) := by decide +kernel
theorem dX1_newMean_4 : decode cX1_newMean 4 = .ok (.ifCond .le 18, 3) := by decide +kernel
theorem dX1_newMean_7 : decode cX1_newMean 7 = .ok (.bipush 10, 2) := by decide +kernel
theorem dX1_newMean_9 : decode cX1_newMean 9 = .ok (.aload_n 0, 1) := by decide +kernel
theorem dX1_newMean_10 : decode cX1_newMean 10 = .ok (.getfield 34, 3) := by decide +kernel
theorem dX1_newMean_13 : decode cX1_newMean 13 = .ok (.imul, 1) := by decide +kernel
theorem dX1_newMean_14 : decode cX1_newMean 14 = .ok (.aload_n 0, 1) := by decide +kernel
theorem dX1_newMean_15 : decode cX1_newMean 15 = .ok (.getfield 21, 3) := by decide +kernel
theorem dX1_newMean_18 : decode cX1_newMean 18 = .ok (.idiv, 1) := by decide +kernel
theorem dX1_newMean_19 : decode cX1_newMean 19 = .ok (.goto 4, 3) := by decide +kernel
theorem dX1_newMean_22 : decode cX1_newMean 22 = .ok (.iconst 0, 1) := by decide +kernel
theorem dX1_newMean_23 : decode cX1_newMean 23 = .ok (.ireturn, 1) := by decide +kernel
theorem dX1_spreadIn_0 : decode cX1_spreadIn 0 = .ok (.iconst 0, 1) := by decide +kernel
theorem dX1_spreadIn_1 : decode cX1_spreadIn 1 = .ok (.istore_n 2, 1) := by decide +kernel
theorem dX1_spreadIn_2 : decode cX1_spreadIn 2 = .ok (.iconst 0, 1) := by decide +kernel
theorem dX1_spreadIn_3 : decode cX1_spreadIn 3 = .ok (.istore_n 3, 1) := by decide +kernel
theorem dX1_spreadIn_4 : decode cX1_spreadIn 4 = .ok (.iload_n 3, 1) := by decide +kernel
theorem dX1_spreadIn_5 : decode cX1_spreadIn 5 = .ok (.aload_n 0, 1) := by decide +kernel
theorem dX1_spreadIn_6 : decode cX1_spreadIn 6 = .ok (.getfield 21, 3) := by decide +kernel
theorem dX1_spreadIn_9 : decode cX1_spreadIn 9 = .ok (.if_icmp .ge 49, 3) := by decide +kernel
theorem dX1_spreadIn_12 : decode cX1_spreadIn 12 = .ok (.iload_n 3, 1) := by decide +kernel
theorem dX1_spreadIn_13 : decode cX1_spreadIn 13 = .ok (.iconst 1, 1) := by decide +kernel
theorem dX1_spreadIn_14 : decode cX1_spreadIn 14 = .ok (.iadd, 1) := by decide +kernel
theorem dX1_spreadIn_15 : decode cX1_spreadIn 15 = .ok (.istore 4, 2) := by decide +kernel
theorem dX1_spreadIn_17 : decode cX1_spreadIn 17 = .ok (.iload 4, 2) := by decide +kernel
theorem dX1_spreadIn_19 : decode cX1_spreadIn 19 = .ok (.aload_n 0, 1) := by decide +kernel
theorem dX1_spreadIn_20 : decode cX1_spreadIn 20 = .ok (.getfield 21, 3) := by decide +kernel
theorem dX1_spreadIn_23 : decode cX1_spreadIn 23 = .ok (.if_icmp .ge 29, 3) := by decide +kernel
theorem dX1_spreadIn_26 : decode cX1_spreadIn 26 = .ok (.iload_n 2, 1) := by decide +kernel
theorem dX1_spreadIn_27 : decode cX1_spreadIn 27 = .ok (.aload_n 0, 1) := by decide +kernel
theorem dX1_spreadIn_28 : decode cX1_spreadIn 28 = .ok (.iload_n 3, 1) := by decide +kernel
theorem dX1_spreadIn_29 : decode cX1_spreadIn 29 = .ok (.iload_n 1, 1) := by decide +kernel
theorem dX1_spreadIn_30 : decode cX1_spreadIn 30 = .ok (.invokevirtual 67, 3) := by decide +kernel
theorem dX1_spreadIn_33 : decode cX1_spreadIn 33 = .ok (.aload_n 0, 1) := by decide +kernel
theorem dX1_spreadIn_34 : decode cX1_spreadIn 34 = .ok (.iload 4, 2) := by decide +kernel
theorem dX1_spreadIn_36 : decode cX1_spreadIn 36 = .ok (.iload_n 1, 1) := by decide +kernel
theorem dX1_spreadIn_37 : decode cX1_spreadIn 37 = .ok (.invokevirtual 67, 3) := by decide +kernel
theorem dX1_spreadIn_40 : decode cX1_spreadIn 40 = .ok (.isub, 1) := by decide +kernel
theorem dX1_spreadIn_41 : decode cX1_spreadIn 41 = .ok (.invokestatic 75, 3) := by decide +kernel
theorem dX1_spreadIn_44 : decode cX1_spreadIn 44 = .ok (.iadd, 1) := by decide +kernel
theorem dX1_spreadIn_45 : decode cX1_spreadIn 45 = .ok (.istore_n 2, 1) := by decide +kernel
theorem dX1_spreadIn_46 : decode cX1_spreadIn 46 = .ok (.iinc 4 1, 3) := by decide +kernel
theorem dX1_spreadIn_49 : decode cX1_spreadIn 49 = .ok (.goto (-32), 3) := by decide +kernel
theorem dX1_spreadIn_52 : decode cX1_spreadIn 52 = .ok (.iinc 3 1, 3) := by decide +kernel
theorem dX1_spreadIn_55 : decode cX1_spreadIn 55 = .ok (.goto (-51), 3) := by decide +kernel
theorem dX1_spreadIn_58 : decode cX1_spreadIn 58 = .ok (.iload_n 2, 1) := by decide +kernel
theorem dX1_spreadIn_59 : decode cX1_spreadIn 59 = .ok (.ireturn, 1) := by decide +kernel
theorem dX1_markAll_0 : decode cX1_markAll 0 = .ok (.iconst 0, 1) := by decide +kernel
theorem dX1_markAll_1 : decode cX1_markAll 1 = .ok (.istore 4, 2) := by decide +kernel
theorem dX1_markAll_3 : decode cX1_markAll 3 = .ok (.iload 4, 2) := by decide +kernel
theorem dX1_markAll_5 : decode cX1_markAll 5 = .ok (.aload_n 0, 1) := by decide +kernel
theorem dX1_markAll_6 : decode cX1_markAll 6 = .ok (.getfield 21, 3) := by decide +kernel
theorem dX1_markAll_9 : decode cX1_markAll 9 = .ok (.if_icmp .ge 21, 3) := by decide +kernel
theorem dX1_markAll_12 : decode cX1_markAll 12 = .ok (.aload_n 3, 1) := by decide +kernel
theorem dX1_markAll_13 : decode cX1_markAll 13 = .ok (.iload 4, 2) := by decide +kernel
theorem dX1_markAll_15 : decode cX1_markAll 15 = .ok (.aload_n 0, 1) := by decide +kernel
theorem dX1_markAll_16 : decode cX1_markAll 16 = .ok (.iload_n 1, 1) := by decide +kernel
theorem dX1_markAll_17 : decode cX1_markAll 17 = .ok (.iload_n 2, 1) := by decide +kernel
theorem dX1_markAll_18 : decode cX1_markAll 18 = .ok (.iload 4, 2) := by decide +kernel
theorem dX1_markAll_20 : decode cX1_markAll 20 = .ok (.invokevirtual 79, 3) := by decide +kernel
theorem dX1_markAll_23 : decode cX1_markAll 23 = .ok (.iastore, 1) := by decide +kernel
theorem dX1_markAll_24 : decode cX1_markAll 24 = .ok (.iinc 4 1, 3) := by decide +kernel
theorem dX1_markAll_27 : decode cX1_markAll 27 = .ok (.goto (-24), 3) := by decide +kernel
theorem dX1_markAll_30 : decode cX1_markAll 30 = .ok (.return_, 1) := by decide +kernel
theorem dX1_markOf_0 : decode cX1_markOf 0 = .ok (.iload_n 1, 1) := by decide +kernel
theorem dX1_markOf_1 : decode cX1_markOf 1 = .ok (.tableswitch 96 1 6 #[39, 55, 61, 73, 80, 86], 39) := by decide +kernel
theorem dX1_markOf_40 : decode cX1_markOf 40 = .ok (.aload_n 0, 1) := by decide +kernel
theorem dX1_markOf_41 : decode cX1_markOf 41 = .ok (.getfield 18, 3) := by decide +kernel
theorem dX1_markOf_44 : decode cX1_markOf 44 = .ok (.iload_n 3, 1) := by decide +kernel
theorem dX1_markOf_45 : decode cX1_markOf 45 = .ok (.iaload, 1) := by decide +kernel
theorem dX1_markOf_46 : decode cX1_markOf 46 = .ok (.iload_n 2, 1) := by decide +kernel
theorem dX1_markOf_47 : decode cX1_markOf 47 = .ok (.iadd, 1) := by decide +kernel
theorem dX1_markOf_48 : decode cX1_markOf 48 = .ok (.aload_n 0, 1) := by decide +kernel
theorem dX1_markOf_49 : decode cX1_markOf 49 = .ok (.getfield 25, 3) := by decide +kernel
theorem dX1_markOf_52 : decode cX1_markOf 52 = .ok (.invokestatic 72, 3) := by decide +kernel
theorem dX1_markOf_55 : decode cX1_markOf 55 = .ok (.ireturn, 1) := by decide +kernel
theorem dX1_markOf_56 : decode cX1_markOf 56 = .ok (.aload_n 0, 1) := by decide +kernel
theorem dX1_markOf_57 : decode cX1_markOf 57 = .ok (.iload_n 3, 1) := by decide +kernel
theorem dX1_markOf_58 : decode cX1_markOf 58 = .ok (.invokevirtual 83, 3) := by decide +kernel
theorem dX1_markOf_61 : decode cX1_markOf 61 = .ok (.ireturn, 1) := by decide +kernel
theorem dX1_markOf_62 : decode cX1_markOf 62 = .ok (.bipush 100, 2) := by decide +kernel
theorem dX1_markOf_64 : decode cX1_markOf 64 = .ok (.aload_n 0, 1) := by decide +kernel
theorem dX1_markOf_65 : decode cX1_markOf 65 = .ok (.iload_n 3, 1) := by decide +kernel
theorem dX1_markOf_66 : decode cX1_markOf 66 = .ok (.invokevirtual 83, 3) := by decide +kernel
theorem dX1_markOf_69 : decode cX1_markOf 69 = .ok (.imul, 1) := by decide +kernel
theorem dX1_markOf_70 : decode cX1_markOf 70 = .ok (.invokestatic 86, 3) := by decide +kernel
theorem dX1_markOf_73 : decode cX1_markOf 73 = .ok (.ireturn, 1) := by decide +kernel
theorem dX1_markOf_74 : decode cX1_markOf 74 = .ok (.aload_n 0, 1) := by decide +kernel
theorem dX1_markOf_75 : decode cX1_markOf 75 = .ok (.iload_n 2, 1) := by decide +kernel
theorem dX1_markOf_76 : decode cX1_markOf 76 = .ok (.iload_n 3, 1) := by decide +kernel
theorem dX1_markOf_77 : decode cX1_markOf 77 = .ok (.invokevirtual 89, 3) := by decide +kernel
theorem dX1_markOf_80 : decode cX1_markOf 80 = .ok (.ireturn, 1) := by decide +kernel
theorem dX1_markOf_81 : decode cX1_markOf 81 = .ok (.aload_n 0, 1) := by decide +kernel
theorem dX1_markOf_82 : decode cX1_markOf 82 = .ok (.iload_n 3, 1) := by decide +kernel
theorem dX1_markOf_83 : decode cX1_markOf 83 = .ok (.invokevirtual 92, 3) := by decide +kernel
theorem dX1_markOf_86 : decode cX1_markOf 86 = .ok (.ireturn, 1) := by decide +kernel
theorem dX1_markOf_87 : decode cX1_markOf 87 = .ok (.aload_n 0, 1) := by decide +kernel
theorem dX1_markOf_88 : decode cX1_markOf 88 = .ok (.iload_n 2, 1) := by decide +kernel
theorem dX1_markOf_89 : decode cX1_markOf 89 = .ok (.bipush 8, 2) := by decide +kernel
theorem dX1_markOf_91 : decode cX1_markOf 91 = .ok (.irem, 1) := by decide +kernel
theorem dX1_markOf_92 : decode cX1_markOf 92 = .ok (.iload_n 3, 1) := by decide +kernel
theorem dX1_markOf_93 : decode cX1_markOf 93 = .ok (.invokevirtual 95, 3) := by decide +kernel
theorem dX1_markOf_96 : decode cX1_markOf 96 = .ok (.ireturn, 1) := by decide +kernel
theorem dX1_markOf_97 : decode cX1_markOf 97 = .ok (.aload_n 0, 1) := by decide +kernel
theorem dX1_markOf_98 : decode cX1_markOf 98 = .ok (.getfield 18, 3) := by decide +kernel
theorem dX1_markOf_101 : decode cX1_markOf 101 = .ok (.iload_n 3, 1) := by decide +kernel
theorem dX1_markOf_102 : decode cX1_markOf 102 = .ok (.iaload, 1) := by decide +kernel
theorem dX1_markOf_103 : decode cX1_markOf 103 = .ok (.ireturn, 1) := by decide +kernel
theorem dX1_stretched_0 : decode cX1_stretched 0 = .ok (.aload_n 0, 1) := by decide +kernel
theorem dX1_stretched_1 : decode cX1_stretched 1 = .ok (.invokevirtual 98, 3) := by decide +kernel
theorem dX1_stretched_4 : decode cX1_stretched 4 = .ok (.istore_n 2, 1) := by decide +kernel
theorem dX1_stretched_5 : decode cX1_stretched 5 = .ok (.iload_n 2, 1) := by decide +kernel
theorem dX1_stretched_6 : decode cX1_stretched 6 = .ok (.ifCond .le 17, 3) := by decide +kernel
theorem dX1_stretched_9 : decode cX1_stretched 9 = .ok (.bipush 100, 2) := by decide +kernel
theorem dX1_stretched_11 : decode cX1_stretched 11 = .ok (.aload_n 0, 1) := by decide +kernel
theorem dX1_stretched_12 : decode cX1_stretched 12 = .ok (.getfield 18, 3) := by decide +kernel
theorem dX1_stretched_15 : decode cX1_stretched 15 = .ok (.iload_n 1, 1) := by decide +kernel
theorem dX1_stretched_16 : decode cX1_stretched 16 = .ok (.iaload, 1) := by decide +kernel
theorem dX1_stretched_17 : decode cX1_stretched 17 = .ok (.imul, 1) := by decide +kernel
theorem dX1_stretched_18 : decode cX1_stretched 18 = .ok (.iload_n 2, 1) := by decide +kernel
theorem dX1_stretched_19 : decode cX1_stretched 19 = .ok (.idiv, 1) := by decide +kernel
theorem dX1_stretched_20 : decode cX1_stretched 20 = .ok (.goto 4, 3) := by decide +kernel
theorem dX1_stretched_23 : decode cX1_stretched 23 = .ok (.iconst 0, 1) := by decide +kernel
theorem dX1_stretched_24 : decode cX1_stretched 24 = .ok (.ireturn, 1) := by decide +kernel
theorem dX1_rootOf_0 : decode cX1_rootOf 0 = .ok (.iconst 0, 1) := by decide +kernel
theorem dX1_rootOf_1 : decode cX1_rootOf 1 = .ok (.istore_n 1, 1) := by decide +kernel
theorem dX1_rootOf_2 : decode cX1_rootOf 2 = .ok (.iload_n 1, 1) := by decide +kernel
theorem dX1_rootOf_3 : decode cX1_rootOf 3 = .ok (.bipush 100, 2) := by decide +kernel
theorem dX1_rootOf_5 : decode cX1_rootOf 5 = .ok (.if_icmp .ge 20, 3) := by decide +kernel
theorem dX1_rootOf_8 : decode cX1_rootOf 8 = .ok (.iload_n 1, 1) := by decide +kernel
theorem dX1_rootOf_9 : decode cX1_rootOf 9 = .ok (.iconst 1, 1) := by decide +kernel
theorem dX1_rootOf_10 : decode cX1_rootOf 10 = .ok (.iadd, 1) := by decide +kernel
theorem dX1_rootOf_11 : decode cX1_rootOf 11 = .ok (.iload_n 1, 1) := by decide +kernel
theorem dX1_rootOf_12 : decode cX1_rootOf 12 = .ok (.iconst 1, 1) := by decide +kernel
theorem dX1_rootOf_13 : decode cX1_rootOf 13 = .ok (.iadd, 1) := by decide +kernel
theorem dX1_rootOf_14 : decode cX1_rootOf 14 = .ok (.imul, 1) := by decide +kernel
theorem dX1_rootOf_15 : decode cX1_rootOf 15 = .ok (.iload_n 0, 1) := by decide +kernel
theorem dX1_rootOf_16 : decode cX1_rootOf 16 = .ok (.if_icmp .gt 9, 3) := by decide +kernel
theorem dX1_rootOf_19 : decode cX1_rootOf 19 = .ok (.iinc 1 1, 3) := by decide +kernel
theorem dX1_rootOf_22 : decode cX1_rootOf 22 = .ok (.goto (-20), 3) := by decide +kernel
theorem dX1_rootOf_25 : decode cX1_rootOf 25 = .ok (.iload_n 1, 1) := by decide +kernel
theorem dX1_rootOf_26 : decode cX1_rootOf 26 = .ok (.ireturn, 1) := by decide +kernel
theorem dX1_shared_0 : decode cX1_shared 0 = .ok (.iconst 1, 1) := by decide +kernel
theorem dX1_shared_1 : decode cX1_shared 1 = .ok (.istore_n 3, 1) := by decide +kernel
theorem dX1_shared_2 : decode cX1_shared 2 = .ok (.iconst 0, 1) := by decide +kernel
theorem dX1_shared_3 : decode cX1_shared 3 = .ok (.istore 4, 2) := by decide +kernel
theorem dX1_shared_5 : decode cX1_shared 5 = .ok (.iload 4, 2) := by decide +kernel
theorem dX1_shared_7 : decode cX1_shared 7 = .ok (.aload_n 0, 1) := by decide +kernel
theorem dX1_shared_8 : decode cX1_shared 8 = .ok (.getfield 21, 3) := by decide +kernel
theorem dX1_shared_11 : decode cX1_shared 11 = .ok (.if_icmp .ge 28, 3) := by decide +kernel
theorem dX1_shared_14 : decode cX1_shared 14 = .ok (.aload_n 0, 1) := by decide +kernel
theorem dX1_shared_15 : decode cX1_shared 15 = .ok (.getfield 18, 3) := by decide +kernel
theorem dX1_shared_18 : decode cX1_shared 18 = .ok (.iload 4, 2) := by decide +kernel
theorem dX1_shared_20 : decode cX1_shared 20 = .ok (.iaload, 1) := by decide +kernel
theorem dX1_shared_21 : decode cX1_shared 21 = .ok (.aload_n 0, 1) := by decide +kernel
theorem dX1_shared_22 : decode cX1_shared 22 = .ok (.getfield 18, 3) := by decide +kernel
theorem dX1_shared_25 : decode cX1_shared 25 = .ok (.iload_n 2, 1) := by decide +kernel
theorem dX1_shared_26 : decode cX1_shared 26 = .ok (.iaload, 1) := by decide +kernel
theorem dX1_shared_27 : decode cX1_shared 27 = .ok (.if_icmp .le 6, 3) := by decide +kernel
theorem dX1_shared_30 : decode cX1_shared 30 = .ok (.iinc 3 1, 3) := by decide +kernel
theorem dX1_shared_33 : decode cX1_shared 33 = .ok (.iinc 4 1, 3) := by decide +kernel
theorem dX1_shared_36 : decode cX1_shared 36 = .ok (.goto (-31), 3) := by decide +kernel
theorem dX1_shared_39 : decode cX1_shared 39 = .ok (.bipush 100, 2) := by decide +kernel
theorem dX1_shared_41 : decode cX1_shared 41 = .ok (.iload_n 3, 1) := by decide +kernel
theorem dX1_shared_42 : decode cX1_shared 42 = .ok (.imul, 1) := by decide +kernel
theorem dX1_shared_43 : decode cX1_shared 43 = .ok (.iload_n 1, 1) := by decide +kernel
theorem dX1_shared_44 : decode cX1_shared 44 = .ok (.aload_n 0, 1) := by decide +kernel
theorem dX1_shared_45 : decode cX1_shared 45 = .ok (.getfield 21, 3) := by decide +kernel
theorem dX1_shared_48 : decode cX1_shared 48 = .ok (.imul, 1) := by decide +kernel
theorem dX1_shared_49 : decode cX1_shared 49 = .ok (.if_icmp .gt 6, 3) := by decide +kernel
theorem dX1_shared_52 : decode cX1_shared 52 = .ok (.bipush 100, 2) := by decide +kernel
theorem dX1_shared_54 : decode cX1_shared 54 = .ok (.ireturn, 1) := by decide +kernel
theorem dX1_shared_55 : decode cX1_shared 55 = .ok (.bipush 100, 2) := by decide +kernel
theorem dX1_shared_57 : decode cX1_shared 57 = .ok (.iload_n 3, 1) := by decide +kernel
theorem dX1_shared_58 : decode cX1_shared 58 = .ok (.imul, 1) := by decide +kernel
theorem dX1_shared_59 : decode cX1_shared 59 = .ok (.iload_n 1, 1) := by decide +kernel
theorem dX1_shared_60 : decode cX1_shared 60 = .ok (.bipush 100, 2) := by decide +kernel
theorem dX1_shared_62 : decode cX1_shared 62 = .ok (.iadd, 1) := by decide +kernel
theorem dX1_shared_63 : decode cX1_shared 63 = .ok (.iconst 2, 1) := by decide +kernel
theorem dX1_shared_64 : decode cX1_shared 64 = .ok (.idiv, 1) := by decide +kernel
theorem dX1_shared_65 : decode cX1_shared 65 = .ok (.aload_n 0, 1) := by decide +kernel
theorem dX1_shared_66 : decode cX1_shared 66 = .ok (.getfield 21, 3) := by decide +kernel
theorem dX1_shared_69 : decode cX1_shared 69 = .ok (.imul, 1) := by decide +kernel
theorem dX1_shared_70 : decode cX1_shared 70 = .ok (.if_icmp .gt 8, 3) := by decide +kernel
theorem dX1_shared_73 : decode cX1_shared 73 = .ok (.bipush 60, 2) := by decide +kernel
theorem dX1_shared_75 : decode cX1_shared 75 = .ok (.goto 5, 3) := by decide +kernel
theorem dX1_shared_78 : decode cX1_shared 78 = .ok (.bipush 30, 2) := by decide +kernel
theorem dX1_shared_80 : decode cX1_shared 80 = .ok (.ireturn, 1) := by decide +kernel
theorem dX1_linked_0 : decode cX1_linked 0 = .ok (.aload_n 0, 1) := by decide +kernel
theorem dX1_linked_1 : decode cX1_linked 1 = .ok (.getfield 18, 3) := by decide +kernel
theorem dX1_linked_4 : decode cX1_linked 4 = .ok (.iload_n 1, 1) := by decide +kernel
theorem dX1_linked_5 : decode cX1_linked 5 = .ok (.iaload, 1) := by decide +kernel
theorem dX1_linked_6 : decode cX1_linked 6 = .ok (.aload_n 0, 1) := by decide +kernel
theorem dX1_linked_7 : decode cX1_linked 7 = .ok (.getfield 31, 3) := by decide +kernel
theorem dX1_linked_10 : decode cX1_linked 10 = .ok (.aload_n 0, 1) := by decide +kernel
theorem dX1_linked_11 : decode cX1_linked 11 = .ok (.invokevirtual 101, 3) := by decide +kernel
theorem dX1_linked_14 : decode cX1_linked 14 = .ok (.isub, 1) := by decide +kernel
theorem dX1_linked_15 : decode cX1_linked 15 = .ok (.bipush 10, 2) := by decide +kernel
theorem dX1_linked_17 : decode cX1_linked 17 = .ok (.idiv, 1) := by decide +kernel
theorem dX1_linked_18 : decode cX1_linked 18 = .ok (.iadd, 1) := by decide +kernel
theorem dX1_linked_19 : decode cX1_linked 19 = .ok (.istore_n 2, 1) := by decide +kernel
theorem dX1_linked_20 : decode cX1_linked 20 = .ok (.iconst 0, 1) := by decide +kernel
theorem dX1_linked_21 : decode cX1_linked 21 = .ok (.aload_n 0, 1) := by decide +kernel
theorem dX1_linked_22 : decode cX1_linked 22 = .ok (.getfield 25, 3) := by decide +kernel
theorem dX1_linked_25 : decode cX1_linked 25 = .ok (.iload_n 2, 1) := by decide +kernel
theorem dX1_linked_26 : decode cX1_linked 26 = .ok (.invokestatic 72, 3) := by decide +kernel
theorem dX1_linked_29 : decode cX1_linked 29 = .ok (.invokestatic 48, 3) := by decide +kernel
theorem dX1_linked_32 : decode cX1_linked 32 = .ok (.ireturn, 1) := by decide +kernel
theorem dX1_leavingOut_0 : decode cX1_leavingOut 0 = .ok (.aload_n 0, 1) := by decide +kernel
theorem dX1_leavingOut_1 : decode cX1_leavingOut 1 = .ok (.getfield 25, 3) := by decide +kernel
theorem dX1_leavingOut_4 : decode cX1_leavingOut 4 = .ok (.aload_n 0, 1) := by decide +kernel
theorem dX1_leavingOut_5 : decode cX1_leavingOut 5 = .ok (.getfield 9, 3) := by decide +kernel
theorem dX1_leavingOut_8 : decode cX1_leavingOut 8 = .ok (.iload_n 1, 1) := by decide +kernel
theorem dX1_leavingOut_9 : decode cX1_leavingOut 9 = .ok (.iaload, 1) := by decide +kernel
theorem dX1_leavingOut_10 : decode cX1_leavingOut 10 = .ok (.isub, 1) := by decide +kernel
theorem dX1_leavingOut_11 : decode cX1_leavingOut 11 = .ok (.istore_n 3, 1) := by decide +kernel
theorem dX1_leavingOut_12 : decode cX1_leavingOut 12 = .ok (.aload_n 0, 1) := by decide +kernel
theorem dX1_leavingOut_13 : decode cX1_leavingOut 13 = .ok (.getfield 18, 3) := by decide +kernel
theorem dX1_leavingOut_16 : decode cX1_leavingOut 16 = .ok (.iload_n 2, 1) := by decide +kernel
theorem dX1_leavingOut_17 : decode cX1_leavingOut 17 = .ok (.iaload, 1) := by decide +kernel
theorem dX1_leavingOut_18 : decode cX1_leavingOut 18 = .ok (.aload_n 0, 1) := by decide +kernel
theorem dX1_leavingOut_19 : decode cX1_leavingOut 19 = .ok (.iload_n 2, 1) := by decide +kernel
theorem dX1_leavingOut_20 : decode cX1_leavingOut 20 = .ok (.iload_n 1, 1) := by decide +kernel
theorem dX1_leavingOut_21 : decode cX1_leavingOut 21 = .ok (.invokevirtual 67, 3) := by decide +kernel
theorem dX1_leavingOut_24 : decode cX1_leavingOut 24 = .ok (.isub, 1) := by decide +kernel
theorem dX1_leavingOut_25 : decode cX1_leavingOut 25 = .ok (.istore 4, 2) := by decide +kernel
theorem dX1_leavingOut_27 : decode cX1_leavingOut 27 = .ok (.iload_n 3, 1) := by decide +kernel
theorem dX1_leavingOut_28 : decode cX1_leavingOut 28 = .ok (.ifCond .le 15, 3) := by decide +kernel
theorem dX1_leavingOut_31 : decode cX1_leavingOut 31 = .ok (.aload_n 0, 1) := by decide +kernel
theorem dX1_leavingOut_32 : decode cX1_leavingOut 32 = .ok (.getfield 25, 3) := by decide +kernel
theorem dX1_leavingOut_35 : decode cX1_leavingOut 35 = .ok (.iload 4, 2) := by decide +kernel
theorem dX1_leavingOut_37 : decode cX1_leavingOut 37 = .ok (.imul, 1) := by decide +kernel
theorem dX1_leavingOut_38 : decode cX1_leavingOut 38 = .ok (.iload_n 3, 1) := by decide +kernel
theorem dX1_leavingOut_39 : decode cX1_leavingOut 39 = .ok (.idiv, 1) := by decide +kernel
theorem dX1_leavingOut_40 : decode cX1_leavingOut 40 = .ok (.goto 4, 3) := by decide +kernel
theorem dX1_leavingOut_43 : decode cX1_leavingOut 43 = .ok (.iconst 0, 1) := by decide +kernel
theorem dX1_leavingOut_44 : decode cX1_leavingOut 44 = .ok (.ireturn, 1) := by decide +kernel
theorem dX2_init_0 : decode cX2_init 0 = .ok (.aload_n 0, 1) := by decide +kernel
theorem dX2_init_1 : decode cX2_init 1 = .ok (.invokespecial 1, 3) := by decide +kernel
theorem dX2_init_4 : decode cX2_init 4 = .ok (.aload_n 0, 1) := by decide +kernel
theorem dX2_init_5 : decode cX2_init 5 = .ok (.bipush 40, 2) := by decide +kernel
theorem dX2_init_7 : decode cX2_init 7 = .ok (.newarray .int, 2) := by decide +kernel
theorem dX2_init_9 : decode cX2_init 9 = .ok (.putfield 9, 3) := by decide +kernel
theorem dX2_init_12 : decode cX2_init 12 = .ok (.aload_n 0, 1) := by decide +kernel
theorem dX2_init_13 : decode cX2_init 13 = .ok (.iconst 0, 1) := by decide +kernel
theorem dX2_init_14 : decode cX2_init 14 = .ok (.putfield 13, 3) := by decide +kernel
theorem dX2_init_17 : decode cX2_init 17 = .ok (.aload_n 0, 1) := by decide +kernel
theorem dX2_init_18 : decode cX2_init 18 = .ok (.iconst 0, 1) := by decide +kernel
theorem dX2_init_19 : decode cX2_init 19 = .ok (.putfield 17, 3) := by decide +kernel
theorem dX2_init_22 : decode cX2_init 22 = .ok (.return_, 1) := by decide +kernel
theorem dX2_isMissing_0 : decode cX2_isMissing 0 = .ok (.aload_n 0, 1) := by decide +kernel
theorem dX2_isMissing_1 : decode cX2_isMissing 1 = .ok (.getfield 13, 3) := by decide +kernel
theorem dX2_isMissing_4 : decode cX2_isMissing 4 = .ok (.ifCond .ne 7, 3) := by decide +kernel
theorem dX2_isMissing_7 : decode cX2_isMissing 7 = .ok (.iconst 1, 1) := by decide +kernel
theorem dX2_isMissing_8 : decode cX2_isMissing 8 = .ok (.goto 4, 3) := by decide +kernel
theorem dX2_isMissing_11 : decode cX2_isMissing 11 = .ok (.iconst 0, 1) := by decide +kernel
theorem dX2_isMissing_12 : decode cX2_isMissing 12 = .ok (.ireturn, 1) := by decide +kernel
theorem dX2_renew_0 : decode cX2_renew 0 = .ok (.aload_n 0, 1) := by decide +kernel
theorem dX2_renew_1 : decode cX2_renew 1 = .ok (.iload_n 1, 1) := by decide +kernel
theorem dX2_renew_2 : decode cX2_renew 2 = .ok (.putfield 13, 3) := by decide +kernel
theorem dX2_renew_5 : decode cX2_renew 5 = .ok (.aload_n 0, 1) := by decide +kernel
theorem dX2_renew_6 : decode cX2_renew 6 = .ok (.iload_n 1, 1) := by decide +kernel
theorem dX2_renew_7 : decode cX2_renew 7 = .ok (.ifCond .ne 7, 3) := by decide +kernel
theorem dX2_renew_10 : decode cX2_renew 10 = .ok (.iconst 0, 1) := by decide +kernel
theorem dX2_renew_11 : decode cX2_renew 11 = .ok (.goto 4, 3) := by decide +kernel
theorem dX2_renew_14 : decode cX2_renew 14 = .ok (.iload_n 2, 1) := by decide +kernel
theorem dX2_renew_15 : decode cX2_renew 15 = .ok (.putfield 17, 3) := by decide +kernel
theorem dX2_renew_18 : decode cX2_renew 18 = .ok (.aload_n 0, 1) := by decide +kernel
theorem dX2_renew_19 : decode cX2_renew 19 = .ok (.getfield 9, 3) := by decide +kernel
theorem dX2_renew_22 : decode cX2_renew 22 = .ok (.iconst 0, 1) := by decide +kernel
theorem dX2_renew_23 : decode cX2_renew 23 = .ok (.invokestatic 20, 3) := by decide +kernel
theorem dX2_renew_26 : decode cX2_renew 26 = .ok (.return_, 1) := by decide +kernel
theorem dX2_put_0 : decode cX2_put 0 = .ok (.bipush 32, 2) := by decide +kernel
theorem dX2_put_2 : decode cX2_put 2 = .ok (.aload_n 0, 1) := by decide +kernel
theorem dX2_put_3 : decode cX2_put 3 = .ok (.getfield 13, 3) := by decide +kernel
theorem dX2_put_6 : decode cX2_put 6 = .ok (.isub, 1) := by decide +kernel
theorem dX2_put_7 : decode cX2_put 7 = .ok (.istore_n 3, 1) := by decide +kernel
theorem dX2_put_8 : decode cX2_put 8 = .ok (.aload_n 0, 1) := by decide +kernel
theorem dX2_put_9 : decode cX2_put 9 = .ok (.getfield 9, 3) := by decide +kernel
theorem dX2_put_12 : decode cX2_put 12 = .ok (.iload_n 1, 1) := by decide +kernel
theorem dX2_put_13 : decode cX2_put 13 = .ok (.iload_n 2, 1) := by decide +kernel
theorem dX2_put_14 : decode cX2_put 14 = .ok (.iload_n 3, 1) := by decide +kernel
theorem dX2_put_15 : decode cX2_put 15 = .ok (.ishl, 1) := by decide +kernel
theorem dX2_put_16 : decode cX2_put 16 = .ok (.iload_n 3, 1) := by decide +kernel
theorem dX2_put_17 : decode cX2_put 17 = .ok (.ishr, 1) := by decide +kernel
theorem dX2_put_18 : decode cX2_put 18 = .ok (.iastore, 1) := by decide +kernel
theorem dX2_put_19 : decode cX2_put 19 = .ok (.return_, 1) := by decide +kernel
theorem dX2_hasRun_0 : decode cX2_hasRun 0 = .ok (.iload_n 1, 1) := by decide +kernel
theorem dX2_hasRun_1 : decode cX2_hasRun 1 = .ok (.ifCond .lt 29, 3) := by decide +kernel
theorem dX2_hasRun_4 : decode cX2_hasRun 4 = .ok (.iload_n 2, 1) := by decide +kernel
theorem dX2_hasRun_5 : decode cX2_hasRun 5 = .ok (.ifCond .lt 25, 3) := by decide +kernel
theorem dX2_hasRun_8 : decode cX2_hasRun 8 = .ok (.iload_n 2, 1) := by decide +kernel
theorem dX2_hasRun_9 : decode cX2_hasRun 9 = .ok (.aload_n 0, 1) := by decide +kernel
theorem dX2_hasRun_10 : decode cX2_hasRun 10 = .ok (.getfield 17, 3) := by decide +kernel
theorem dX2_hasRun_13 : decode cX2_hasRun 13 = .ok (.if_icmp .gt 17, 3) := by decide +kernel
theorem dX2_hasRun_16 : decode cX2_hasRun 16 = .ok (.iload_n 1, 1) := by decide +kernel
theorem dX2_hasRun_17 : decode cX2_hasRun 17 = .ok (.aload_n 0, 1) := by decide +kernel
theorem dX2_hasRun_18 : decode cX2_hasRun 18 = .ok (.getfield 17, 3) := by decide +kernel
theorem dX2_hasRun_21 : decode cX2_hasRun 21 = .ok (.iload_n 2, 1) := by decide +kernel
theorem dX2_hasRun_22 : decode cX2_hasRun 22 = .ok (.isub, 1) := by decide +kernel
theorem dX2_hasRun_23 : decode cX2_hasRun 23 = .ok (.if_icmp .gt 7, 3) := by decide +kernel
theorem dX2_hasRun_26 : decode cX2_hasRun 26 = .ok (.iconst 1, 1) := by decide +kernel
theorem dX2_hasRun_27 : decode cX2_hasRun 27 = .ok (.goto 4, 3) := by decide +kernel
theorem dX2_hasRun_30 : decode cX2_hasRun 30 = .ok (.iconst 0, 1) := by decide +kernel
theorem dX2_hasRun_31 : decode cX2_hasRun 31 = .ok (.ireturn, 1) := by decide +kernel
theorem dX3_init_0 : decode cX3_init 0 = .ok (.aload_n 0, 1) := by decide +kernel
theorem dX3_init_1 : decode cX3_init 1 = .ok (.invokespecial 3, 3) := by decide +kernel
theorem dX3_init_4 : decode cX3_init 4 = .ok (.aload_n 0, 1) := by decide +kernel
theorem dX3_init_5 : decode cX3_init 5 = .ok (.bipush 120, 2) := by decide +kernel
theorem dX3_init_7 : decode cX3_init 7 = .ok (.newarray .int, 2) := by decide +kernel
theorem dX3_init_9 : decode cX3_init 9 = .ok (.putfield 11, 3) := by decide +kernel
theorem dX3_init_12 : decode cX3_init 12 = .ok (.aload_n 0, 1) := by decide +kernel
theorem dX3_init_13 : decode cX3_init 13 = .ok (.iconst 0, 1) := by decide +kernel
theorem dX3_init_14 : decode cX3_init 14 = .ok (.putfield 15, 3) := by decide +kernel
theorem dX3_init_17 : decode cX3_init 17 = .ok (.aload_n 0, 1) := by decide +kernel
theorem dX3_init_18 : decode cX3_init 18 = .ok (.iconst 0, 1) := by decide +kernel
theorem dX3_init_19 : decode cX3_init 19 = .ok (.putfield 19, 3) := by decide +kernel
theorem dX3_init_22 : decode cX3_init 22 = .ok (.aload_n 0, 1) := by decide +kernel
theorem dX3_init_23 : decode cX3_init 23 = .ok (.iconst 0, 1) := by decide +kernel
theorem dX3_init_24 : decode cX3_init 24 = .ok (.putfield 22, 3) := by decide +kernel
theorem dX3_init_27 : decode cX3_init 27 = .ok (.aload_n 0, 1) := by decide +kernel
theorem dX3_init_28 : decode cX3_init 28 = .ok (.iconst 0, 1) := by decide +kernel
theorem dX3_init_29 : decode cX3_init 29 = .ok (.putfield 25, 3) := by decide +kernel
theorem dX3_init_32 : decode cX3_init 32 = .ok (.aload_n 0, 1) := by decide +kernel
theorem dX3_init_33 : decode cX3_init 33 = .ok (.iconst 0, 1) := by decide +kernel
theorem dX3_init_34 : decode cX3_init 34 = .ok (.putfield 28, 3) := by decide +kernel
theorem dX3_init_37 : decode cX3_init 37 = .ok (.return_, 1) := by decide +kernel
theorem dX3_add_0 : decode cX3_add 0 = .ok (.aload_n 0, 1) := by decide +kernel
theorem dX3_add_1 : decode cX3_add 1 = .ok (.getfield 15, 3) := by decide +kernel
theorem dX3_add_4 : decode cX3_add 4 = .ok (.bipush 120, 2) := by decide +kernel
theorem dX3_add_6 : decode cX3_add 6 = .ok (.if_icmp .ge 27, 3) := by decide +kernel
theorem dX3_add_9 : decode cX3_add 9 = .ok (.aload_n 0, 1) := by decide +kernel
theorem dX3_add_10 : decode cX3_add 10 = .ok (.getfield 11, 3) := by decide +kernel
theorem dX3_add_13 : decode cX3_add 13 = .ok (.aload_n 0, 1) := by decide +kernel
theorem dX3_add_14 : decode cX3_add 14 = .ok (.getfield 15, 3) := by decide +kernel
theorem dX3_add_17 : decode cX3_add 17 = .ok (.iload_n 1, 1) := by decide +kernel
theorem dX3_add_18 : decode cX3_add 18 = .ok (.sipush 255, 3) := by decide +kernel
theorem dX3_add_21 : decode cX3_add 21 = .ok (.iand, 1) := by decide +kernel
theorem dX3_add_22 : decode cX3_add 22 = .ok (.iastore, 1) := by decide +kernel
theorem dX3_add_23 : decode cX3_add 23 = .ok (.aload_n 0, 1) := by decide +kernel
theorem dX3_add_24 : decode cX3_add 24 = .ok (.dup, 1) := by decide +kernel
theorem dX3_add_25 : decode cX3_add 25 = .ok (.getfield 15, 3) := by decide +kernel
theorem dX3_add_28 : decode cX3_add 28 = .ok (.iconst 1, 1) := by decide +kernel
theorem dX3_add_29 : decode cX3_add 29 = .ok (.iadd, 1) := by decide +kernel
theorem dX3_add_30 : decode cX3_add 30 = .ok (.putfield 15, 3) := by decide +kernel
theorem dX3_add_33 : decode cX3_add 33 = .ok (.return_, 1) := by decide +kernel
theorem dX3_readInto_0 : decode cX3_readInto 0 = .ok (.aload_n 0, 1) := by decide +kernel
theorem dX3_readInto_1 : decode cX3_readInto 1 = .ok (.iconst 0, 1) := by decide +kernel
theorem dX3_readInto_2 : decode cX3_readInto 2 = .ok (.putfield 25, 3) := by decide +kernel
theorem dX3_readInto_5 : decode cX3_readInto 5 = .ok (.aload_n 0, 1) := by decide +kernel
theorem dX3_readInto_6 : decode cX3_readInto 6 = .ok (.invokevirtual 31, 3) := by decide +kernel
theorem dX3_readInto_9 : decode cX3_readInto 9 = .ok (.iconst 1, 1) := by decide +kernel
theorem dX3_readInto_10 : decode cX3_readInto 10 = .ok (.istore_n 2, 1) := by decide +kernel
theorem dX3_readInto_11 : decode cX3_readInto 11 = .ok (.iload_n 2, 1) := by decide +kernel
theorem dX3_readInto_12 : decode cX3_readInto 12 = .ok (.bipush 120, 2) := by decide +kernel
theorem dX3_readInto_14 : decode cX3_readInto 14 = .ok (.if_icmp .gt 52, 3) := by decide +kernel
theorem dX3_readInto_17 : decode cX3_readInto 17 = .ok (.aload_n 0, 1) := by decide +kernel
theorem dX3_readInto_18 : decode cX3_readInto 18 = .ok (.aload_n 1, 1) := by decide +kernel
theorem dX3_readInto_19 : decode cX3_readInto 19 = .ok (.invokevirtual 34, 3) := by decide +kernel
theorem dX3_readInto_22 : decode cX3_readInto 22 = .ok (.ifCond .ne 10, 3) := by decide +kernel
theorem dX3_readInto_25 : decode cX3_readInto 25 = .ok (.iconst (-1), 1) := by decide +kernel
theorem dX3_readInto_26 : decode cX3_readInto 26 = .ok (.aload_n 0, 1) := by decide +kernel
theorem dX3_readInto_27 : decode cX3_readInto 27 = .ok (.getfield 22, 3) := by decide +kernel
theorem dX3_readInto_30 : decode cX3_readInto 30 = .ok (.isub, 1) := by decide +kernel
theorem dX3_readInto_31 : decode cX3_readInto 31 = .ok (.ireturn, 1) := by decide +kernel
theorem dX3_readInto_32 : decode cX3_readInto 32 = .ok (.aload_n 0, 1) := by decide +kernel
theorem dX3_readInto_33 : decode cX3_readInto 33 = .ok (.getfield 19, 3) := by decide +kernel
theorem dX3_readInto_36 : decode cX3_readInto 36 = .ok (.ifCond .ne 5, 3) := by decide +kernel
theorem dX3_readInto_39 : decode cX3_readInto 39 = .ok (.iload_n 2, 1) := by decide +kernel
theorem dX3_readInto_40 : decode cX3_readInto 40 = .ok (.ireturn, 1) := by decide +kernel
theorem dX3_readInto_41 : decode cX3_readInto 41 = .ok (.aload_n 0, 1) := by decide +kernel
theorem dX3_readInto_42 : decode cX3_readInto 42 = .ok (.getfield 19, 3) := by decide +kernel
theorem dX3_readInto_45 : decode cX3_readInto 45 = .ok (.iconst 3, 1) := by decide +kernel
theorem dX3_readInto_46 : decode cX3_readInto 46 = .ok (.if_icmp .eq 10, 3) := by decide +kernel
theorem dX3_readInto_49 : decode cX3_readInto 49 = .ok (.iconst (-1), 1) := by decide +kernel
theorem dX3_readInto_50 : decode cX3_readInto 50 = .ok (.aload_n 0, 1) := by decide +kernel
theorem dX3_readInto_51 : decode cX3_readInto 51 = .ok (.getfield 22, 3) := by decide +kernel
theorem dX3_readInto_54 : decode cX3_readInto 54 = .ok (.isub, 1) := by decide +kernel
theorem dX3_readInto_55 : decode cX3_readInto 55 = .ok (.ireturn, 1) := by decide +kernel
theorem dX3_readInto_56 : decode cX3_readInto 56 = .ok (.aload_n 0, 1) := by decide +kernel
theorem dX3_readInto_57 : decode cX3_readInto 57 = .ok (.invokevirtual 31, 3) := by decide +kernel
theorem dX3_readInto_60 : decode cX3_readInto 60 = .ok (.iinc 2 1, 3) := by decide +kernel
theorem dX3_readInto_63 : decode cX3_readInto 63 = .ok (.goto (-52), 3) := by decide +kernel
theorem dX3_readInto_66 : decode cX3_readInto 66 = .ok (.iconst (-1), 1) := by decide +kernel
theorem dX3_readInto_67 : decode cX3_readInto 67 = .ok (.aload_n 0, 1) := by decide +kernel
theorem dX3_readInto_68 : decode cX3_readInto 68 = .ok (.getfield 22, 3) := by decide +kernel
theorem dX3_readInto_71 : decode cX3_readInto 71 = .ok (.isub, 1) := by decide +kernel
theorem dX3_readInto_72 : decode cX3_readInto 72 = .ok (.ireturn, 1) := by decide +kernel
theorem dX3_readItem_0 : decode cX3_readItem 0 = .ok (.aload_n 0, 1) := by decide +kernel
theorem dX3_readItem_1 : decode cX3_readItem 1 = .ok (.ldc 38, 2) := by decide +kernel
theorem dX3_readItem_3 : decode cX3_readItem 3 = .ok (.invokevirtual 40, 3) := by decide +kernel
theorem dX3_readItem_6 : decode cX3_readItem 6 = .ok (.ifCond .eq 9, 3) := by decide +kernel
theorem dX3_readItem_9 : decode cX3_readItem 9 = .ok (.aload_n 0, 1) := by decide +kernel
theorem dX3_readItem_10 : decode cX3_readItem 10 = .ok (.aload_n 1, 1) := by decide +kernel
theorem dX3_readItem_11 : decode cX3_readItem 11 = .ok (.invokevirtual 44, 3) := by decide +kernel
theorem dX3_readItem_14 : decode cX3_readItem 14 = .ok (.ireturn, 1) := by decide +kernel
theorem dX3_readItem_15 : decode cX3_readItem 15 = .ok (.aload_n 0, 1) := by decide +kernel
theorem dX3_readItem_16 : decode cX3_readItem 16 = .ok (.ldc 47, 2) := by decide +kernel
theorem dX3_readItem_18 : decode cX3_readItem 18 = .ok (.invokevirtual 40, 3) := by decide +kernel
theorem dX3_readItem_21 : decode cX3_readItem 21 = .ok (.ifCond .eq 9, 3) := by decide +kernel
theorem dX3_readItem_24 : decode cX3_readItem 24 = .ok (.aload_n 0, 1) := by decide +kernel
theorem dX3_readItem_25 : decode cX3_readItem 25 = .ok (.aload_n 1, 1) := by decide +kernel
theorem dX3_readItem_26 : decode cX3_readItem 26 = .ok (.invokevirtual 49, 3) := by decide +kernel
theorem dX3_readItem_29 : decode cX3_readItem 29 = .ok (.ireturn, 1) := by decide +kernel
theorem dX3_readItem_30 : decode cX3_readItem 30 = .ok (.aload_n 0, 1) := by decide +kernel
theorem dX3_readItem_31 : decode cX3_readItem 31 = .ok (.ldc 52, 2) := by decide +kernel
theorem dX3_readItem_33 : decode cX3_readItem 33 = .ok (.invokevirtual 40, 3) := by decide +kernel
theorem dX3_readItem_36 : decode cX3_readItem 36 = .ok (.ifCond .eq 9, 3) := by decide +kernel
theorem dX3_readItem_39 : decode cX3_readItem 39 = .ok (.aload_n 0, 1) := by decide +kernel
theorem dX3_readItem_40 : decode cX3_readItem 40 = .ok (.aload_n 1, 1) := by decide +kernel
theorem dX3_readItem_41 : decode cX3_readItem 41 = .ok (.invokevirtual 54, 3) := by decide +kernel
theorem dX3_readItem_44 : decode cX3_readItem 44 = .ok (.ireturn, 1) := by decide +kernel
theorem dX3_readItem_45 : decode cX3_readItem 45 = .ok (.aload_n 0, 1) := by decide +kernel
theorem dX3_readItem_46 : decode cX3_readItem 46 = .ok (.invokevirtual 57, 3) := by decide +kernel
theorem dX3_readItem_49 : decode cX3_readItem 49 = .ok (.istore_n 2, 1) := by decide +kernel
theorem dX3_readItem_50 : decode cX3_readItem 50 = .ok (.iload_n 2, 1) := by decide +kernel
theorem dX3_readItem_51 : decode cX3_readItem 51 = .ok (.ifCond .lt 16, 3) := by decide +kernel
theorem dX3_readItem_54 : decode cX3_readItem 54 = .ok (.aload_n 0, 1) := by decide +kernel
theorem dX3_readItem_55 : decode cX3_readItem 55 = .ok (.aload_n 1, 1) := by decide +kernel
theorem dX3_readItem_56 : decode cX3_readItem 56 = .ok (.iload_n 2, 1) := by decide +kernel
theorem dX3_readItem_57 : decode cX3_readItem 57 = .ok (.invokevirtual 61, 3) := by decide +kernel
theorem dX3_readItem_60 : decode cX3_readItem 60 = .ok (.ifCond .eq 7, 3) := by decide +kernel
theorem dX3_readItem_63 : decode cX3_readItem 63 = .ok (.iconst 1, 1) := by decide +kernel
theorem dX3_readItem_64 : decode cX3_readItem 64 = .ok (.goto 4, 3) := by decide +kernel
theorem dX3_readItem_67 : decode cX3_readItem 67 = .ok (.iconst 0, 1) := by decide +kernel
theorem dX3_readItem_68 : decode cX3_readItem 68 = .ok (.ireturn, 1) := by decide +kernel
theorem dX3_readQuestion_0 : decode cX3_readQuestion 0 = .ok (.aload_n 0, 1) := by decide +kernel
theorem dX3_readQuestion_1 : decode cX3_readQuestion 1 = .ok (.invokevirtual 31, 3) := by decide +kernel
theorem dX3_readQuestion_4 : decode cX3_readQuestion 4 = .ok (.aload_n 0, 1) := by decide +kernel
theorem dX3_readQuestion_5 : decode cX3_readQuestion 5 = .ok (.bipush 7, 2) := by decide +kernel
theorem dX3_readQuestion_7 : decode cX3_readQuestion 7 = .ok (.invokevirtual 65, 3) := by decide +kernel
theorem dX3_readQuestion_10 : decode cX3_readQuestion 10 = .ok (.ifCond .ne 5, 3) := by decide +kernel
theorem dX3_readQuestion_13 : decode cX3_readQuestion 13 = .ok (.iconst 0, 1) := by decide +kernel
theorem dX3_readQuestion_14 : decode cX3_readQuestion 14 = .ok (.ireturn, 1) := by decide +kernel
theorem dX3_readQuestion_15 : decode cX3_readQuestion 15 = .ok (.aload_n 0, 1) := by decide +kernel
theorem dX3_readQuestion_16 : decode cX3_readQuestion 16 = .ok (.getfield 28, 3) := by decide +kernel
theorem dX3_readQuestion_19 : decode cX3_readQuestion 19 = .ok (.istore_n 2, 1) := by decide +kernel
theorem dX3_readQuestion_20 : decode cX3_readQuestion 20 = .ok (.aload_n 0, 1) := by decide +kernel
theorem dX3_readQuestion_21 : decode cX3_readQuestion 21 = .ok (.invokevirtual 31, 3) := by decide +kernel
theorem dX3_readQuestion_24 : decode cX3_readQuestion 24 = .ok (.aload_n 0, 1) := by decide +kernel
theorem dX3_readQuestion_25 : decode cX3_readQuestion 25 = .ok (.ldc 69, 2) := by decide +kernel
theorem dX3_readQuestion_27 : decode cX3_readQuestion 27 = .ok (.invokevirtual 40, 3) := by decide +kernel
theorem dX3_readQuestion_30 : decode cX3_readQuestion 30 = .ok (.ifCond .ne 5, 3) := by decide +kernel
theorem dX3_readQuestion_33 : decode cX3_readQuestion 33 = .ok (.iconst 0, 1) := by decide +kernel
theorem dX3_readQuestion_34 : decode cX3_readQuestion 34 = .ok (.ireturn, 1) := by decide +kernel
theorem dX3_readQuestion_35 : decode cX3_readQuestion 35 = .ok (.aload_n 0, 1) := by decide +kernel
theorem dX3_readQuestion_36 : decode cX3_readQuestion 36 = .ok (.invokevirtual 31, 3) := by decide +kernel
theorem dX3_readQuestion_39 : decode cX3_readQuestion 39 = .ok (.aload_n 0, 1) := by decide +kernel
theorem dX3_readQuestion_40 : decode cX3_readQuestion 40 = .ok (.bipush 40, 2) := by decide +kernel
theorem dX3_readQuestion_42 : decode cX3_readQuestion 42 = .ok (.invokevirtual 65, 3) := by decide +kernel
theorem dX3_readQuestion_45 : decode cX3_readQuestion 45 = .ok (.ifCond .ne 5, 3) := by decide +kernel
theorem dX3_readQuestion_48 : decode cX3_readQuestion 48 = .ok (.iconst 0, 1) := by decide +kernel
theorem dX3_readQuestion_49 : decode cX3_readQuestion 49 = .ok (.ireturn, 1) := by decide +kernel
theorem dX3_readQuestion_50 : decode cX3_readQuestion 50 = .ok (.aload_n 1, 1) := by decide +kernel
theorem dX3_readQuestion_51 : decode cX3_readQuestion 51 = .ok (.iload_n 2, 1) := by decide +kernel
theorem dX3_readQuestion_52 : decode cX3_readQuestion 52 = .ok (.aload_n 0, 1) := by decide +kernel
theorem dX3_readQuestion_53 : decode cX3_readQuestion 53 = .ok (.getfield 28, 3) := by decide +kernel
theorem dX3_readQuestion_56 : decode cX3_readQuestion 56 = .ok (.invokevirtual 71, 3) := by decide +kernel
theorem dX3_readQuestion_59 : decode cX3_readQuestion 59 = .ok (.aload_n 0, 1) := by decide +kernel
theorem dX3_readQuestion_60 : decode cX3_readQuestion 60 = .ok (.invokevirtual 31, 3) := by decide +kernel
theorem dX3_readQuestion_63 : decode cX3_readQuestion 63 = .ok (.iconst 1, 1) := by decide +kernel
theorem dX3_readQuestion_64 : decode cX3_readQuestion 64 = .ok (.ireturn, 1) := by decide +kernel
theorem dX3_readCommon_0 : decode cX3_readCommon 0 = .ok (.aload_n 0, 1) := by decide +kernel
theorem dX3_readCommon_1 : decode cX3_readCommon 1 = .ok (.invokevirtual 31, 3) := by decide +kernel
theorem dX3_readCommon_4 : decode cX3_readCommon 4 = .ok (.aload_n 0, 1) := by decide +kernel
theorem dX3_readCommon_5 : decode cX3_readCommon 5 = .ok (.bipush 7, 2) := by decide +kernel
theorem dX3_readCommon_7 : decode cX3_readCommon 7 = .ok (.invokevirtual 65, 3) := by decide +kernel
theorem dX3_readCommon_10 : decode cX3_readCommon 10 = .ok (.ifCond .ne 5, 3) := by decide +kernel
theorem dX3_readCommon_13 : decode cX3_readCommon 13 = .ok (.iconst 0, 1) := by decide +kernel
theorem dX3_readCommon_14 : decode cX3_readCommon 14 = .ok (.ireturn, 1) := by decide +kernel
theorem dX3_readCommon_15 : decode cX3_readCommon 15 = .ok (.aload_n 0, 1) := by decide +kernel
theorem dX3_readCommon_16 : decode cX3_readCommon 16 = .ok (.getfield 28, 3) := by decide +kernel
theorem dX3_readCommon_19 : decode cX3_readCommon 19 = .ok (.istore_n 2, 1) := by decide +kernel
theorem dX3_readCommon_20 : decode cX3_readCommon 20 = .ok (.aload_n 0, 1) := by decide +kernel
theorem dX3_readCommon_21 : decode cX3_readCommon 21 = .ok (.invokevirtual 31, 3) := by decide +kernel
theorem dX3_readCommon_24 : decode cX3_readCommon 24 = .ok (.aload_n 0, 1) := by decide +kernel
theorem dX3_readCommon_25 : decode cX3_readCommon 25 = .ok (.sipush 400, 3) := by decide +kernel
theorem dX3_readCommon_28 : decode cX3_readCommon 28 = .ok (.invokevirtual 65, 3) := by decide +kernel
theorem dX3_readCommon_31 : decode cX3_readCommon 31 = .ok (.ifCond .ne 5, 3) := by decide +kernel
theorem dX3_readCommon_34 : decode cX3_readCommon 34 = .ok (.iconst 0, 1) := by decide +kernel
theorem dX3_readCommon_35 : decode cX3_readCommon 35 = .ok (.ireturn, 1) := by decide +kernel
theorem dX3_readCommon_36 : decode cX3_readCommon 36 = .ok (.aload_n 1, 1) := by decide +kernel
theorem dX3_readCommon_37 : decode cX3_readCommon 37 = .ok (.getfield 77, 3) := by decide +kernel
theorem dX3_readCommon_40 : decode cX3_readCommon 40 = .ok (.iload_n 2, 1) := by decide +kernel
theorem dX3_readCommon_41 : decode cX3_readCommon 41 = .ok (.aload_n 0, 1) := by decide +kernel
theorem dX3_readCommon_42 : decode cX3_readCommon 42 = .ok (.getfield 28, 3) := by decide +kernel
theorem dX3_readCommon_45 : decode cX3_readCommon 45 = .ok (.iastore, 1) := by decide +kernel
theorem dX3_readCommon_46 : decode cX3_readCommon 46 = .ok (.aload_n 0, 1) := by decide +kernel
theorem dX3_readCommon_47 : decode cX3_readCommon 47 = .ok (.invokevirtual 31, 3) := by decide +kernel
theorem dX3_readCommon_50 : decode cX3_readCommon 50 = .ok (.iconst 1, 1) := by decide +kernel
theorem dX3_readCommon_51 : decode cX3_readCommon 51 = .ok (.ireturn, 1) := by decide +kernel
theorem dX3_readPupil_0 : decode cX3_readPupil 0 = .ok (.aload_n 1, 1) := by decide +kernel
theorem dX3_readPupil_1 : decode cX3_readPupil 1 = .ok (.getfield 80, 3) := by decide +kernel
theorem dX3_readPupil_4 : decode cX3_readPupil 4 = .ok (.bipush 12, 2) := by decide +kernel
theorem dX3_readPupil_6 : decode cX3_readPupil 6 = .ok (.if_icmp .lt 5, 3) := by decide +kernel
theorem dX3_readPupil_9 : decode cX3_readPupil 9 = .ok (.iconst 0, 1) := by decide +kernel
theorem dX3_readPupil_10 : decode cX3_readPupil 10 = .ok (.ireturn, 1) := by decide +kernel
theorem dX3_readPupil_11 : decode cX3_readPupil 11 = .ok (.aload_n 0, 1) := by decide +kernel
theorem dX3_readPupil_12 : decode cX3_readPupil 12 = .ok (.invokevirtual 31, 3) := by decide +kernel
theorem dX3_readPupil_15 : decode cX3_readPupil 15 = .ok (.aload_n 0, 1) := by decide +kernel
theorem dX3_readPupil_16 : decode cX3_readPupil 16 = .ok (.iconst 3, 1) := by decide +kernel
theorem dX3_readPupil_17 : decode cX3_readPupil 17 = .ok (.invokevirtual 65, 3) := by decide +kernel
theorem dX3_readPupil_20 : decode cX3_readPupil 20 = .ok (.ifCond .ne 5, 3) := by decide +kernel
theorem dX3_readPupil_23 : decode cX3_readPupil 23 = .ok (.iconst 0, 1) := by decide +kernel
theorem dX3_readPupil_24 : decode cX3_readPupil 24 = .ok (.ireturn, 1) := by decide +kernel
theorem dX3_readPupil_25 : decode cX3_readPupil 25 = .ok (.aload_n 1, 1) := by decide +kernel
theorem dX3_readPupil_26 : decode cX3_readPupil 26 = .ok (.aload_n 0, 1) := by decide +kernel
theorem dX3_readPupil_27 : decode cX3_readPupil 27 = .ok (.getfield 28, 3) := by decide +kernel
theorem dX3_readPupil_30 : decode cX3_readPupil 30 = .ok (.invokevirtual 83, 3) := by decide +kernel
theorem dX3_readPupil_33 : decode cX3_readPupil 33 = .ok (.istore_n 2, 1) := by decide +kernel
theorem dX3_readPupil_34 : decode cX3_readPupil 34 = .ok (.aload_n 0, 1) := by decide +kernel
theorem dX3_readPupil_35 : decode cX3_readPupil 35 = .ok (.invokevirtual 31, 3) := by decide +kernel
theorem dX3_readPupil_38 : decode cX3_readPupil 38 = .ok (.iconst 0, 1) := by decide +kernel
theorem dX3_readPupil_39 : decode cX3_readPupil 39 = .ok (.istore_n 3, 1) := by decide +kernel
theorem dX3_readPupil_40 : decode cX3_readPupil 40 = .ok (.iload_n 3, 1) := by decide +kernel
theorem dX3_readPupil_41 : decode cX3_readPupil 41 = .ok (.bipush 8, 2) := by decide +kernel
theorem dX3_readPupil_43 : decode cX3_readPupil 43 = .ok (.if_icmp .ge 46, 3) := by decide +kernel
theorem dX3_readPupil_46 : decode cX3_readPupil 46 = .ok (.aload_n 0, 1) := by decide +kernel
theorem dX3_readPupil_47 : decode cX3_readPupil 47 = .ok (.getfield 19, 3) := by decide +kernel
theorem dX3_readPupil_50 : decode cX3_readPupil 50 = .ok (.iconst 2, 1) := by decide +kernel
theorem dX3_readPupil_51 : decode cX3_readPupil 51 = .ok (.if_icmp .ne 38, 3) := by decide +kernel
theorem dX3_readPupil_54 : decode cX3_readPupil 54 = .ok (.aload_n 0, 1) := by decide +kernel
theorem dX3_readPupil_55 : decode cX3_readPupil 55 = .ok (.aload_n 1, 1) := by decide +kernel
theorem dX3_readPupil_56 : decode cX3_readPupil 56 = .ok (.getfield 87, 3) := by decide +kernel
theorem dX3_readPupil_59 : decode cX3_readPupil 59 = .ok (.iload_n 3, 1) := by decide +kernel
theorem dX3_readPupil_60 : decode cX3_readPupil 60 = .ok (.iaload, 1) := by decide +kernel
theorem dX3_readPupil_61 : decode cX3_readPupil 61 = .ok (.invokevirtual 65, 3) := by decide +kernel
theorem dX3_readPupil_64 : decode cX3_readPupil 64 = .ok (.ifCond .ne 5, 3) := by decide +kernel
theorem dX3_readPupil_67 : decode cX3_readPupil 67 = .ok (.iconst 0, 1) := by decide +kernel
theorem dX3_readPupil_68 : decode cX3_readPupil 68 = .ok (.ireturn, 1) := by decide +kernel
theorem dX3_readPupil_69 : decode cX3_readPupil 69 = .ok (.aload_n 1, 1) := by decide +kernel
theorem dX3_readPupil_70 : decode cX3_readPupil 70 = .ok (.iload_n 2, 1) := by decide +kernel
theorem dX3_readPupil_71 : decode cX3_readPupil 71 = .ok (.iload_n 3, 1) := by decide +kernel
theorem dX3_readPupil_72 : decode cX3_readPupil 72 = .ok (.aload_n 0, 1) := by decide +kernel
theorem dX3_readPupil_73 : decode cX3_readPupil 73 = .ok (.getfield 28, 3) := by decide +kernel
theorem dX3_readPupil_76 : decode cX3_readPupil 76 = .ok (.invokevirtual 90, 3) := by decide +kernel
theorem dX3_readPupil_79 : decode cX3_readPupil 79 = .ok (.aload_n 0, 1) := by decide +kernel
theorem dX3_readPupil_80 : decode cX3_readPupil 80 = .ok (.invokevirtual 31, 3) := by decide +kernel
theorem dX3_readPupil_83 : decode cX3_readPupil 83 = .ok (.iinc 3 1, 3) := by decide +kernel
theorem dX3_readPupil_86 : decode cX3_readPupil 86 = .ok (.goto (-46), 3) := by decide +kernel
theorem dX3_readPupil_89 : decode cX3_readPupil 89 = .ok (.iconst 1, 1) := by decide +kernel
theorem dX3_readPupil_90 : decode cX3_readPupil 90 = .ok (.ireturn, 1) := by decide +kernel
theorem dX3_readCurve_0 : decode cX3_readCurve 0 = .ok (.aload_n 1, 1) := by decide +kernel
theorem dX3_readCurve_1 : decode cX3_readCurve 1 = .ok (.getfield 94, 3) := by decide +kernel
theorem dX3_readCurve_4 : decode cX3_readCurve 4 = .ok (.bipush 6, 2) := by decide +kernel
theorem dX3_readCurve_6 : decode cX3_readCurve 6 = .ok (.if_icmp .lt 5, 3) := by decide +kernel
theorem dX3_readCurve_9 : decode cX3_readCurve 9 = .ok (.iconst 0, 1) := by decide +kernel
theorem dX3_readCurve_10 : decode cX3_readCurve 10 = .ok (.ireturn, 1) := by decide +kernel
theorem dX3_readCurve_11 : decode cX3_readCurve 11 = .ok (.iconst 0, 1) := by decide +kernel
theorem dX3_readCurve_12 : decode cX3_readCurve 12 = .ok (.istore_n 3, 1) := by decide +kernel
theorem dX3_readCurve_13 : decode cX3_readCurve 13 = .ok (.aload_n 0, 1) := by decide +kernel
theorem dX3_readCurve_14 : decode cX3_readCurve 14 = .ok (.invokevirtual 31, 3) := by decide +kernel
theorem dX3_readCurve_17 : decode cX3_readCurve 17 = .ok (.aload_n 0, 1) := by decide +kernel
theorem dX3_readCurve_18 : decode cX3_readCurve 18 = .ok (.ldc 97, 2) := by decide +kernel
theorem dX3_readCurve_20 : decode cX3_readCurve 20 = .ok (.invokevirtual 40, 3) := by decide +kernel
theorem dX3_readCurve_23 : decode cX3_readCurve 23 = .ok (.ifCond .eq 27, 3) := by decide +kernel
theorem dX3_readCurve_26 : decode cX3_readCurve 26 = .ok (.aload_n 0, 1) := by decide +kernel
theorem dX3_readCurve_27 : decode cX3_readCurve 27 = .ok (.invokevirtual 31, 3) := by decide +kernel
theorem dX3_readCurve_30 : decode cX3_readCurve 30 = .ok (.aload_n 0, 1) := by decide +kernel
theorem dX3_readCurve_31 : decode cX3_readCurve 31 = .ok (.bipush 100, 2) := by decide +kernel
theorem dX3_readCurve_33 : decode cX3_readCurve 33 = .ok (.invokevirtual 65, 3) := by decide +kernel
theorem dX3_readCurve_36 : decode cX3_readCurve 36 = .ok (.ifCond .ne 5, 3) := by decide +kernel
theorem dX3_readCurve_39 : decode cX3_readCurve 39 = .ok (.iconst 0, 1) := by decide +kernel
theorem dX3_readCurve_40 : decode cX3_readCurve 40 = .ok (.ireturn, 1) := by decide +kernel
theorem dX3_readCurve_41 : decode cX3_readCurve 41 = .ok (.aload_n 0, 1) := by decide +kernel
theorem dX3_readCurve_42 : decode cX3_readCurve 42 = .ok (.getfield 28, 3) := by decide +kernel
theorem dX3_readCurve_45 : decode cX3_readCurve 45 = .ok (.istore_n 3, 1) := by decide +kernel
theorem dX3_readCurve_46 : decode cX3_readCurve 46 = .ok (.aload_n 0, 1) := by decide +kernel
theorem dX3_readCurve_47 : decode cX3_readCurve 47 = .ok (.invokevirtual 31, 3) := by decide +kernel
theorem dX3_readCurve_50 : decode cX3_readCurve 50 = .ok (.aload_n 1, 1) := by decide +kernel
theorem dX3_readCurve_51 : decode cX3_readCurve 51 = .ok (.iload_n 2, 1) := by decide +kernel
theorem dX3_readCurve_52 : decode cX3_readCurve 52 = .ok (.iload_n 3, 1) := by decide +kernel
theorem dX3_readCurve_53 : decode cX3_readCurve 53 = .ok (.invokevirtual 99, 3) := by decide +kernel
theorem dX3_readCurve_56 : decode cX3_readCurve 56 = .ok (.pop, 1) := by decide +kernel
theorem dX3_readCurve_57 : decode cX3_readCurve 57 = .ok (.iconst 1, 1) := by decide +kernel
theorem dX3_readCurve_58 : decode cX3_readCurve 58 = .ok (.ireturn, 1) := by decide +kernel
theorem dX3_kindOfWord_0 : decode cX3_kindOfWord 0 = .ok (.aload_n 0, 1) := by decide +kernel
theorem dX3_kindOfWord_1 : decode cX3_kindOfWord 1 = .ok (.ldc 103, 2) := by decide +kernel
theorem dX3_kindOfWord_3 : decode cX3_kindOfWord 3 = .ok (.invokevirtual 40, 3) := by decide +kernel
theorem dX3_kindOfWord_6 : decode cX3_kindOfWord 6 = .ok (.ifCond .eq 5, 3) := by decide +kernel
theorem dX3_kindOfWord_9 : decode cX3_kindOfWord 9 = .ok (.iconst 0, 1) := by decide +kernel
theorem dX3_kindOfWord_10 : decode cX3_kindOfWord 10 = .ok (.ireturn, 1) := by decide +kernel
theorem dX3_kindOfWord_11 : decode cX3_kindOfWord 11 = .ok (.aload_n 0, 1) := by decide +kernel
theorem dX3_kindOfWord_12 : decode cX3_kindOfWord 12 = .ok (.ldc 105, 2) := by decide +kernel
theorem dX3_kindOfWord_14 : decode cX3_kindOfWord 14 = .ok (.invokevirtual 40, 3) := by decide +kernel
theorem dX3_kindOfWord_17 : decode cX3_kindOfWord 17 = .ok (.ifCond .eq 5, 3) := by decide +kernel
theorem dX3_kindOfWord_20 : decode cX3_kindOfWord 20 = .ok (.iconst 1, 1) := by decide +kernel
theorem dX3_kindOfWord_21 : decode cX3_kindOfWord 21 = .ok (.ireturn, 1) := by decide +kernel
theorem dX3_kindOfWord_22 : decode cX3_kindOfWord 22 = .ok (.aload_n 0, 1) := by decide +kernel
theorem dX3_kindOfWord_23 : decode cX3_kindOfWord 23 = .ok (.ldc 107, 2) := by decide +kernel
theorem dX3_kindOfWord_25 : decode cX3_kindOfWord 25 = .ok (.invokevirtual 40, 3) := by decide +kernel
theorem dX3_kindOfWord_28 : decode cX3_kindOfWord 28 = .ok (.ifCond .eq 5, 3) := by decide +kernel
theorem dX3_kindOfWord_31 : decode cX3_kindOfWord 31 = .ok (.iconst 2, 1) := by decide +kernel
theorem dX3_kindOfWord_32 : decode cX3_kindOfWord 32 = .ok (.ireturn, 1) := by decide +kernel
theorem dX3_kindOfWord_33 : decode cX3_kindOfWord 33 = .ok (.aload_n 0, 1) := by decide +kernel
theorem dX3_kindOfWord_34 : decode cX3_kindOfWord 34 = .ok (.ldc 109, 2) := by decide +kernel
theorem dX3_kindOfWord_36 : decode cX3_kindOfWord 36 = .ok (.invokevirtual 40, 3) := by decide +kernel
theorem dX3_kindOfWord_39 : decode cX3_kindOfWord 39 = .ok (.ifCond .eq 5, 3) := by decide +kernel
theorem dX3_kindOfWord_42 : decode cX3_kindOfWord 42 = .ok (.iconst 3, 1) := by decide +kernel
theorem dX3_kindOfWord_43 : decode cX3_kindOfWord 43 = .ok (.ireturn, 1) := by decide +kernel
theorem dX3_kindOfWord_44 : decode cX3_kindOfWord 44 = .ok (.aload_n 0, 1) := by decide +kernel
theorem dX3_kindOfWord_45 : decode cX3_kindOfWord 45 = .ok (.ldc 111, 2) := by decide +kernel
theorem dX3_kindOfWord_47 : decode cX3_kindOfWord 47 = .ok (.invokevirtual 40, 3) := by decide +kernel
theorem dX3_kindOfWord_50 : decode cX3_kindOfWord 50 = .ok (.ifCond .eq 5, 3) := by decide +kernel
theorem dX3_kindOfWord_53 : decode cX3_kindOfWord 53 = .ok (.iconst 4, 1) := by decide +kernel
theorem dX3_kindOfWord_54 : decode cX3_kindOfWord 54 = .ok (.ireturn, 1) := by decide +kernel
theorem dX3_kindOfWord_55 : decode cX3_kindOfWord 55 = .ok (.aload_n 0, 1) := by decide +kernel
theorem dX3_kindOfWord_56 : decode cX3_kindOfWord 56 = .ok (.ldc 113, 2) := by decide +kernel
theorem dX3_kindOfWord_58 : decode cX3_kindOfWord 58 = .ok (.invokevirtual 40, 3) := by decide +kernel
theorem dX3_kindOfWord_61 : decode cX3_kindOfWord 61 = .ok (.ifCond .eq 5, 3) := by decide +kernel
theorem dX3_kindOfWord_64 : decode cX3_kindOfWord 64 = .ok (.iconst 5, 1) := by decide +kernel
theorem dX3_kindOfWord_65 : decode cX3_kindOfWord 65 = .ok (.ireturn, 1) := by decide +kernel
theorem dX3_kindOfWord_66 : decode cX3_kindOfWord 66 = .ok (.aload_n 0, 1) := by decide +kernel
theorem dX3_kindOfWord_67 : decode cX3_kindOfWord 67 = .ok (.ldc 115, 2) := by decide +kernel
theorem dX3_kindOfWord_69 : decode cX3_kindOfWord 69 = .ok (.invokevirtual 40, 3) := by decide +kernel
theorem dX3_kindOfWord_72 : decode cX3_kindOfWord 72 = .ok (.ifCond .eq 8, 3) := by decide +kernel
theorem dX3_kindOfWord_75 : decode cX3_kindOfWord 75 = .ok (.bipush 6, 2) := by decide +kernel
theorem dX3_kindOfWord_77 : decode cX3_kindOfWord 77 = .ok (.goto 4, 3) := by decide +kernel
theorem dX3_kindOfWord_80 : decode cX3_kindOfWord 80 = .ok (.iconst (-1), 1) := by decide +kernel
theorem dX3_kindOfWord_81 : decode cX3_kindOfWord 81 = .ok (.ireturn, 1) := by decide +kernel
theorem dX3_isNumber_0 : decode cX3_isNumber 0 = .ok (.aload_n 0, 1) := by decide +kernel
theorem dX3_isNumber_1 : decode cX3_isNumber 1 = .ok (.getfield 19, 3) := by decide +kernel
theorem dX3_isNumber_4 : decode cX3_isNumber 4 = .ok (.iconst 2, 1) := by decide +kernel
theorem dX3_isNumber_5 : decode cX3_isNumber 5 = .ok (.if_icmp .ne 15, 3) := by decide +kernel
theorem dX3_isNumber_8 : decode cX3_isNumber 8 = .ok (.aload_n 0, 1) := by decide +kernel
theorem dX3_isNumber_9 : decode cX3_isNumber 9 = .ok (.getfield 28, 3) := by decide +kernel
theorem dX3_isNumber_12 : decode cX3_isNumber 12 = .ok (.iload_n 1, 1) := by decide +kernel
theorem dX3_isNumber_13 : decode cX3_isNumber 13 = .ok (.if_icmp .gt 7, 3) := by decide +kernel
theorem dX3_isNumber_16 : decode cX3_isNumber 16 = .ok (.iconst 1, 1) := by decide +kernel
theorem dX3_isNumber_17 : decode cX3_isNumber 17 = .ok (.goto 4, 3) := by decide +kernel
theorem dX3_isNumber_20 : decode cX3_isNumber 20 = .ok (.iconst 0, 1) := by decide +kernel
theorem dX3_isNumber_21 : decode cX3_isNumber 21 = .ok (.ireturn, 1) := by decide +kernel
theorem dX3_isWord_0 : decode cX3_isWord 0 = .ok (.aload_n 0, 1) := by decide +kernel
theorem dX3_isWord_1 : decode cX3_isWord 1 = .ok (.getfield 19, 3) := by decide +kernel
theorem dX3_isWord_4 : decode cX3_isWord 4 = .ok (.iconst 1, 1) := by decide +kernel
theorem dX3_isWord_5 : decode cX3_isWord 5 = .ok (.if_icmp .ne 19, 3) := by decide +kernel
theorem dX3_isWord_8 : decode cX3_isWord 8 = .ok (.aload_n 0, 1) := by decide +kernel
theorem dX3_isWord_9 : decode cX3_isWord 9 = .ok (.getfield 25, 3) := by decide +kernel
theorem dX3_isWord_12 : decode cX3_isWord 12 = .ok (.aload_n 0, 1) := by decide +kernel
theorem dX3_isWord_13 : decode cX3_isWord 13 = .ok (.getfield 22, 3) := by decide +kernel
theorem dX3_isWord_16 : decode cX3_isWord 16 = .ok (.isub, 1) := by decide +kernel
theorem dX3_isWord_17 : decode cX3_isWord 17 = .ok (.aload_n 1, 1) := by decide +kernel
theorem dX3_isWord_18 : decode cX3_isWord 18 = .ok (.invokevirtual 117, 3) := by decide +kernel
theorem dX3_isWord_21 : decode cX3_isWord 21 = .ok (.if_icmp .eq 5, 3) := by decide +kernel
theorem dX3_isWord_24 : decode cX3_isWord 24 = .ok (.iconst 0, 1) := by decide +kernel
theorem dX3_isWord_25 : decode cX3_isWord 25 = .ok (.ireturn, 1) := by decide +kernel
theorem dX3_isWord_26 : decode cX3_isWord 26 = .ok (.iconst 0, 1) := by decide +kernel
theorem dX3_isWord_27 : decode cX3_isWord 27 = .ok (.istore_n 2, 1) := by decide +kernel
theorem dX3_isWord_28 : decode cX3_isWord 28 = .ok (.iload_n 2, 1) := by decide +kernel
theorem dX3_isWord_29 : decode cX3_isWord 29 = .ok (.aload_n 1, 1) := by decide +kernel
theorem dX3_isWord_30 : decode cX3_isWord 30 = .ok (.invokevirtual 117, 3) := by decide +kernel
theorem dX3_isWord_33 : decode cX3_isWord 33 = .ok (.if_icmp .ge 30, 3) := by decide +kernel
theorem dX3_isWord_36 : decode cX3_isWord 36 = .ok (.aload_n 0, 1) := by decide +kernel
theorem dX3_isWord_37 : decode cX3_isWord 37 = .ok (.getfield 11, 3) := by decide +kernel
theorem dX3_isWord_40 : decode cX3_isWord 40 = .ok (.aload_n 0, 1) := by decide +kernel
theorem dX3_isWord_41 : decode cX3_isWord 41 = .ok (.getfield 22, 3) := by decide +kernel
theorem dX3_isWord_44 : decode cX3_isWord 44 = .ok (.iload_n 2, 1) := by decide +kernel
theorem dX3_isWord_45 : decode cX3_isWord 45 = .ok (.iadd, 1) := by decide +kernel
theorem dX3_isWord_46 : decode cX3_isWord 46 = .ok (.iaload, 1) := by decide +kernel
theorem dX3_isWord_47 : decode cX3_isWord 47 = .ok (.aload_n 1, 1) := by decide +kernel
theorem dX3_isWord_48 : decode cX3_isWord 48 = .ok (.iload_n 2, 1) := by decide +kernel
theorem dX3_isWord_49 : decode cX3_isWord 49 = .ok (.invokevirtual 121, 3) := by decide +kernel
theorem dX3_isWord_52 : decode cX3_isWord 52 = .ok (.if_icmp .eq 5, 3) := by decide +kernel
theorem dX3_isWord_55 : decode cX3_isWord 55 = .ok (.iconst 0, 1) := by decide +kernel
theorem dX3_isWord_56 : decode cX3_isWord 56 = .ok (.ireturn, 1) := by decide +kernel
theorem dX3_isWord_57 : decode cX3_isWord 57 = .ok (.iinc 2 1, 3) := by decide +kernel
theorem dX3_isWord_60 : decode cX3_isWord 60 = .ok (.goto (-32), 3) := by decide +kernel
theorem dX3_isWord_63 : decode cX3_isWord 63 = .ok (.iconst 1, 1) := by decide +kernel
theorem dX3_isWord_64 : decode cX3_isWord 64 = .ok (.ireturn, 1) := by decide +kernel
theorem dX3_step_0 : decode cX3_step 0 = .ok (.aload_n 0, 1) := by decide +kernel
theorem dX3_step_1 : decode cX3_step 1 = .ok (.aload_n 0, 1) := by decide +kernel
theorem dX3_step_2 : decode cX3_step 2 = .ok (.getfield 25, 3) := by decide +kernel
theorem dX3_step_5 : decode cX3_step 5 = .ok (.putfield 22, 3) := by decide +kernel
theorem dX3_step_8 : decode cX3_step 8 = .ok (.aload_n 0, 1) := by decide +kernel
theorem dX3_step_9 : decode cX3_step 9 = .ok (.getfield 22, 3) := by decide +kernel
theorem dX3_step_12 : decode cX3_step 12 = .ok (.aload_n 0, 1) := by decide +kernel
theorem dX3_step_13 : decode cX3_step 13 = .ok (.getfield 15, 3) := by decide +kernel
theorem dX3_step_16 : decode cX3_step 16 = .ok (.if_icmp .ge 30, 3) := by decide +kernel
theorem dX3_step_19 : decode cX3_step 19 = .ok (.aload_n 0, 1) := by decide +kernel
theorem dX3_step_20 : decode cX3_step 20 = .ok (.getfield 11, 3) := by decide +kernel
theorem dX3_step_23 : decode cX3_step 23 = .ok (.aload_n 0, 1) := by decide +kernel
theorem dX3_step_24 : decode cX3_step 24 = .ok (.getfield 22, 3) := by decide +kernel
theorem dX3_step_27 : decode cX3_step 27 = .ok (.iaload, 1) := by decide +kernel
theorem dX3_step_28 : decode cX3_step 28 = .ok (.bipush 32, 2) := by decide +kernel
theorem dX3_step_30 : decode cX3_step 30 = .ok (.if_icmp .ne 16, 3) := by decide +kernel
theorem dX3_step_33 : decode cX3_step 33 = .ok (.aload_n 0, 1) := by decide +kernel
theorem dX3_step_34 : decode cX3_step 34 = .ok (.dup, 1) := by decide +kernel
theorem dX3_step_35 : decode cX3_step 35 = .ok (.getfield 22, 3) := by decide +kernel
theorem dX3_step_38 : decode cX3_step 38 = .ok (.iconst 1, 1) := by decide +kernel
theorem dX3_step_39 : decode cX3_step 39 = .ok (.iadd, 1) := by decide +kernel
theorem dX3_step_40 : decode cX3_step 40 = .ok (.putfield 22, 3) := by decide +kernel
theorem dX3_step_43 : decode cX3_step 43 = .ok (.goto (-35), 3) := by decide +kernel
theorem dX3_step_46 : decode cX3_step 46 = .ok (.aload_n 0, 1) := by decide +kernel
theorem dX3_step_47 : decode cX3_step 47 = .ok (.aload_n 0, 1) := by decide +kernel
theorem dX3_step_48 : decode cX3_step 48 = .ok (.getfield 22, 3) := by decide +kernel
theorem dX3_step_51 : decode cX3_step 51 = .ok (.putfield 25, 3) := by decide +kernel
theorem dX3_step_54 : decode cX3_step 54 = .ok (.aload_n 0, 1) := by decide +kernel
theorem dX3_step_55 : decode cX3_step 55 = .ok (.getfield 22, 3) := by decide +kernel
theorem dX3_step_58 : decode cX3_step 58 = .ok (.aload_n 0, 1) := by decide +kernel
theorem dX3_step_59 : decode cX3_step 59 = .ok (.getfield 15, 3) := by decide +kernel
theorem dX3_step_62 : decode cX3_step 62 = .ok (.if_icmp .lt 11, 3) := by decide +kernel
theorem dX3_step_65 : decode cX3_step 65 = .ok (.aload_n 0, 1) := by decide +kernel
theorem dX3_step_66 : decode cX3_step 66 = .ok (.iconst 0, 1) := by decide +kernel
theorem dX3_step_67 : decode cX3_step 67 = .ok (.putfield 19, 3) := by decide +kernel
theorem dX3_step_70 : decode cX3_step 70 = .ok (.goto 122, 3) := by decide +kernel
theorem dX3_step_73 : decode cX3_step 73 = .ok (.aload_n 0, 1) := by decide +kernel
theorem dX3_step_74 : decode cX3_step 74 = .ok (.getfield 11, 3) := by decide +kernel
theorem dX3_step_77 : decode cX3_step 77 = .ok (.aload_n 0, 1) := by decide +kernel
theorem dX3_step_78 : decode cX3_step 78 = .ok (.getfield 22, 3) := by decide +kernel
theorem dX3_step_81 : decode cX3_step 81 = .ok (.iaload, 1) := by decide +kernel
theorem dX3_step_82 : decode cX3_step 82 = .ok (.invokestatic 125, 3) := by decide +kernel
theorem dX3_step_85 : decode cX3_step 85 = .ok (.ifCond .eq 47, 3) := by decide +kernel
theorem dX3_step_88 : decode cX3_step 88 = .ok (.aload_n 0, 1) := by decide +kernel
theorem dX3_step_89 : decode cX3_step 89 = .ok (.iconst 1, 1) := by decide +kernel
theorem dX3_step_90 : decode cX3_step 90 = .ok (.putfield 19, 3) := by decide +kernel
theorem dX3_step_93 : decode cX3_step 93 = .ok (.aload_n 0, 1) := by decide +kernel
theorem dX3_step_94 : decode cX3_step 94 = .ok (.getfield 25, 3) := by decide +kernel
theorem dX3_step_97 : decode cX3_step 97 = .ok (.aload_n 0, 1) := by decide +kernel
theorem dX3_step_98 : decode cX3_step 98 = .ok (.getfield 15, 3) := by decide +kernel
theorem dX3_step_101 : decode cX3_step 101 = .ok (.if_icmp .ge 91, 3) := by decide +kernel
theorem dX3_step_104 : decode cX3_step 104 = .ok (.aload_n 0, 1) := by decide +kernel
theorem dX3_step_105 : decode cX3_step 105 = .ok (.getfield 11, 3) := by decide +kernel
theorem dX3_step_108 : decode cX3_step 108 = .ok (.aload_n 0, 1) := by decide +kernel
theorem dX3_step_109 : decode cX3_step 109 = .ok (.getfield 25, 3) := by decide +kernel
theorem dX3_step_112 : decode cX3_step 112 = .ok (.iaload, 1) := by decide +kernel
theorem dX3_step_113 : decode cX3_step 113 = .ok (.invokestatic 125, 3) := by decide +kernel
theorem dX3_step_116 : decode cX3_step 116 = .ok (.ifCond .eq 76, 3) := by decide +kernel
theorem dX3_step_119 : decode cX3_step 119 = .ok (.aload_n 0, 1) := by decide +kernel
theorem dX3_step_120 : decode cX3_step 120 = .ok (.dup, 1) := by decide +kernel
theorem dX3_step_121 : decode cX3_step 121 = .ok (.getfield 25, 3) := by decide +kernel
theorem dX3_step_124 : decode cX3_step 124 = .ok (.iconst 1, 1) := by decide +kernel
theorem dX3_step_125 : decode cX3_step 125 = .ok (.iadd, 1) := by decide +kernel
theorem dX3_step_126 : decode cX3_step 126 = .ok (.putfield 25, 3) := by decide +kernel
theorem dX3_step_129 : decode cX3_step 129 = .ok (.goto (-36), 3) := by decide +kernel
theorem dX3_step_132 : decode cX3_step 132 = .ok (.aload_n 0, 1) := by decide +kernel
theorem dX3_step_133 : decode cX3_step 133 = .ok (.getfield 11, 3) := by decide +kernel
theorem dX3_step_136 : decode cX3_step 136 = .ok (.aload_n 0, 1) := by decide +kernel
theorem dX3_step_137 : decode cX3_step 137 = .ok (.getfield 22, 3) := by decide +kernel
theorem dX3_step_140 : decode cX3_step 140 = .ok (.iaload, 1) := by decide +kernel
theorem dX3_step_141 : decode cX3_step 141 = .ok (.invokestatic 128, 3) := by decide +kernel
theorem dX3_step_144 : decode cX3_step 144 = .ok (.ifCond .eq 15, 3) := by decide +kernel
theorem dX3_step_147 : decode cX3_step 147 = .ok (.aload_n 0, 1) := by decide +kernel
theorem dX3_step_148 : decode cX3_step 148 = .ok (.iconst 2, 1) := by decide +kernel
theorem dX3_step_149 : decode cX3_step 149 = .ok (.putfield 19, 3) := by decide +kernel
theorem dX3_step_152 : decode cX3_step 152 = .ok (.aload_n 0, 1) := by decide +kernel
theorem dX3_step_153 : decode cX3_step 153 = .ok (.invokevirtual 131, 3) := by decide +kernel
theorem dX3_step_156 : decode cX3_step 156 = .ok (.goto 36, 3) := by decide +kernel
theorem dX3_step_159 : decode cX3_step 159 = .ok (.aload_n 0, 1) := by decide +kernel
theorem dX3_step_160 : decode cX3_step 160 = .ok (.aload_n 0, 1) := by decide +kernel
theorem dX3_step_161 : decode cX3_step 161 = .ok (.getfield 11, 3) := by decide +kernel
theorem dX3_step_164 : decode cX3_step 164 = .ok (.aload_n 0, 1) := by decide +kernel
theorem dX3_step_165 : decode cX3_step 165 = .ok (.getfield 22, 3) := by decide +kernel
theorem dX3_step_168 : decode cX3_step 168 = .ok (.iaload, 1) := by decide +kernel
theorem dX3_step_169 : decode cX3_step 169 = .ok (.bipush 59, 2) := by decide +kernel
theorem dX3_step_171 : decode cX3_step 171 = .ok (.if_icmp .ne 7, 3) := by decide +kernel
theorem dX3_step_174 : decode cX3_step 174 = .ok (.iconst 3, 1) := by decide +kernel
theorem dX3_step_175 : decode cX3_step 175 = .ok (.goto 4, 3) := by decide +kernel
theorem dX3_step_178 : decode cX3_step 178 = .ok (.iconst 4, 1) := by decide +kernel
theorem dX3_step_179 : decode cX3_step 179 = .ok (.putfield 19, 3) := by decide +kernel
theorem dX3_step_182 : decode cX3_step 182 = .ok (.aload_n 0, 1) := by decide +kernel
theorem dX3_step_183 : decode cX3_step 183 = .ok (.dup, 1) := by decide +kernel
theorem dX3_step_184 : decode cX3_step 184 = .ok (.getfield 25, 3) := by decide +kernel
theorem dX3_step_187 : decode cX3_step 187 = .ok (.iconst 1, 1) := by decide +kernel
theorem dX3_step_188 : decode cX3_step 188 = .ok (.iadd, 1) := by decide +kernel
theorem dX3_step_189 : decode cX3_step 189 = .ok (.putfield 25, 3) := by decide +kernel
theorem dX3_step_192 : decode cX3_step 192 = .ok (.return_, 1) := by decide +kernel
theorem dX3_stepOverDigits_0 : decode cX3_stepOverDigits 0 = .ok (.aload_n 0, 1) := by decide +kernel
theorem dX3_stepOverDigits_1 : decode cX3_stepOverDigits 1 = .ok (.iconst 0, 1) := by decide +kernel
theorem dX3_stepOverDigits_2 : decode cX3_stepOverDigits 2 = .ok (.putfield 28, 3) := by decide +kernel
theorem dX3_stepOverDigits_5 : decode cX3_stepOverDigits 5 = .ok (.aload_n 0, 1) := by decide +kernel
theorem dX3_stepOverDigits_6 : decode cX3_stepOverDigits 6 = .ok (.getfield 25, 3) := by decide +kernel
theorem dX3_stepOverDigits_9 : decode cX3_stepOverDigits 9 = .ok (.aload_n 0, 1) := by decide +kernel
theorem dX3_stepOverDigits_10 : decode cX3_stepOverDigits 10 = .ok (.getfield 15, 3) := by decide +kernel
theorem dX3_stepOverDigits_13 : decode cX3_stepOverDigits 13 = .ok (.if_icmp .ge 61, 3) := by decide +kernel
theorem dX3_stepOverDigits_16 : decode cX3_stepOverDigits 16 = .ok (.aload_n 0, 1) := by decide +kernel
theorem dX3_stepOverDigits_17 : decode cX3_stepOverDigits 17 = .ok (.getfield 11, 3) := by decide +kernel
theorem dX3_stepOverDigits_20 : decode cX3_stepOverDigits 20 = .ok (.aload_n 0, 1) := by decide +kernel
theorem dX3_stepOverDigits_21 : decode cX3_stepOverDigits 21 = .ok (.getfield 25, 3) := by decide +kernel
theorem dX3_stepOverDigits_24 : decode cX3_stepOverDigits 24 = .ok (.iaload, 1) := by decide +kernel
theorem dX3_stepOverDigits_25 : decode cX3_stepOverDigits 25 = .ok (.invokestatic 128, 3) := by decide +kernel
theorem dX3_stepOverDigits_28 : decode cX3_stepOverDigits 28 = .ok (.ifCond .eq 46, 3) := by decide +kernel
theorem dX3_stepOverDigits_31 : decode cX3_stepOverDigits 31 = .ok (.aload_n 0, 1) := by decide +kernel
theorem dX3_stepOverDigits_32 : decode cX3_stepOverDigits 32 = .ok (.bipush 10, 2) := by decide +kernel
theorem dX3_stepOverDigits_34 : decode cX3_stepOverDigits 34 = .ok (.aload_n 0, 1) := by decide +kernel
theorem dX3_stepOverDigits_35 : decode cX3_stepOverDigits 35 = .ok (.getfield 28, 3) := by decide +kernel
theorem dX3_stepOverDigits_38 : decode cX3_stepOverDigits 38 = .ok (.imul, 1) := by decide +kernel
theorem dX3_stepOverDigits_39 : decode cX3_stepOverDigits 39 = .ok (.aload_n 0, 1) := by decide +kernel
theorem dX3_stepOverDigits_40 : decode cX3_stepOverDigits 40 = .ok (.getfield 11, 3) := by decide +kernel
theorem dX3_stepOverDigits_43 : decode cX3_stepOverDigits 43 = .ok (.aload_n 0, 1) := by decide +kernel
theorem dX3_stepOverDigits_44 : decode cX3_stepOverDigits 44 = .ok (.getfield 25, 3) := by decide +kernel
theorem dX3_stepOverDigits_47 : decode cX3_stepOverDigits 47 = .ok (.iaload, 1) := by decide +kernel
theorem dX3_stepOverDigits_48 : decode cX3_stepOverDigits 48 = .ok (.iadd, 1) := by decide +kernel
theorem dX3_stepOverDigits_49 : decode cX3_stepOverDigits 49 = .ok (.bipush 48, 2) := by decide +kernel
theorem dX3_stepOverDigits_51 : decode cX3_stepOverDigits 51 = .ok (.isub, 1) := by decide +kernel
theorem dX3_stepOverDigits_52 : decode cX3_stepOverDigits 52 = .ok (.sipush 1000, 3) := by decide +kernel
theorem dX3_stepOverDigits_55 : decode cX3_stepOverDigits 55 = .ok (.invokestatic 134, 3) := by decide +kernel
theorem dX3_stepOverDigits_58 : decode cX3_stepOverDigits 58 = .ok (.putfield 28, 3) := by decide +kernel
theorem dX3_stepOverDigits_61 : decode cX3_stepOverDigits 61 = .ok (.aload_n 0, 1) := by decide +kernel
theorem dX3_stepOverDigits_62 : decode cX3_stepOverDigits 62 = .ok (.dup, 1) := by decide +kernel
theorem dX3_stepOverDigits_63 : decode cX3_stepOverDigits 63 = .ok (.getfield 25, 3) := by decide +kernel
theorem dX3_stepOverDigits_66 : decode cX3_stepOverDigits 66 = .ok (.iconst 1, 1) := by decide +kernel
theorem dX3_stepOverDigits_67 : decode cX3_stepOverDigits 67 = .ok (.iadd, 1) := by decide +kernel
theorem dX3_stepOverDigits_68 : decode cX3_stepOverDigits 68 = .ok (.putfield 25, 3) := by decide +kernel
theorem dX3_stepOverDigits_71 : decode cX3_stepOverDigits 71 = .ok (.goto (-66), 3) := by decide +kernel
theorem dX3_stepOverDigits_74 : decode cX3_stepOverDigits 74 = .ok (.return_, 1) := by decide +kernel
theorem dX3_isLetter_0 : decode cX3_isLetter 0 = .ok (.iload_n 0, 1) := by decide +kernel
theorem dX3_isLetter_1 : decode cX3_isLetter 1 = .ok (.bipush 97, 2) := by decide +kernel
theorem dX3_isLetter_3 : decode cX3_isLetter 3 = .ok (.if_icmp .lt 13, 3) := by decide +kernel
theorem dX3_isLetter_6 : decode cX3_isLetter 6 = .ok (.iload_n 0, 1) := by decide +kernel
theorem dX3_isLetter_7 : decode cX3_isLetter 7 = .ok (.bipush 122, 2) := by decide +kernel
theorem dX3_isLetter_9 : decode cX3_isLetter 9 = .ok (.if_icmp .gt 7, 3) := by decide +kernel
theorem dX3_isLetter_12 : decode cX3_isLetter 12 = .ok (.iconst 1, 1) := by decide +kernel
theorem dX3_isLetter_13 : decode cX3_isLetter 13 = .ok (.goto 4, 3) := by decide +kernel
theorem dX3_isLetter_16 : decode cX3_isLetter 16 = .ok (.iconst 0, 1) := by decide +kernel
theorem dX3_isLetter_17 : decode cX3_isLetter 17 = .ok (.ireturn, 1) := by decide +kernel
theorem dX3_isDigit_0 : decode cX3_isDigit 0 = .ok (.iload_n 0, 1) := by decide +kernel
theorem dX3_isDigit_1 : decode cX3_isDigit 1 = .ok (.bipush 48, 2) := by decide +kernel
theorem dX3_isDigit_3 : decode cX3_isDigit 3 = .ok (.if_icmp .lt 13, 3) := by decide +kernel
theorem dX3_isDigit_6 : decode cX3_isDigit 6 = .ok (.iload_n 0, 1) := by decide +kernel
theorem dX3_isDigit_7 : decode cX3_isDigit 7 = .ok (.bipush 57, 2) := by decide +kernel
theorem dX3_isDigit_9 : decode cX3_isDigit 9 = .ok (.if_icmp .gt 7, 3) := by decide +kernel
theorem dX3_isDigit_12 : decode cX3_isDigit 12 = .ok (.iconst 1, 1) := by decide +kernel
theorem dX3_isDigit_13 : decode cX3_isDigit 13 = .ok (.goto 4, 3) := by decide +kernel
theorem dX3_isDigit_16 : decode cX3_isDigit 16 = .ok (.iconst 0, 1) := by decide +kernel
theorem dX3_isDigit_17 : decode cX3_isDigit 17 = .ok (.ireturn, 1) := by decide +kernel
theorem dX4_init_0 : decode cX4_init 0 = .ok (.aload_n 0, 1) := by decide +kernel
theorem dX4_init_1 : decode cX4_init 1 = .ok (.invokespecial 3, 3) := by decide +kernel
theorem dX4_init_4 : decode cX4_init 4 = .ok (.aload_n 0, 1) := by decide +kernel
theorem dX4_init_5 : decode cX4_init 5 = .ok (.new 9, 3) := by decide +kernel
theorem dX4_init_8 : decode cX4_init 8 = .ok (.dup, 1) := by decide +kernel
theorem dX4_init_9 : decode cX4_init 9 = .ok (.invokespecial 11, 3) := by decide +kernel
theorem dX4_init_12 : decode cX4_init 12 = .ok (.putfield 12, 3) := by decide +kernel
theorem dX4_init_15 : decode cX4_init 15 = .ok (.aload_n 0, 1) := by decide +kernel
theorem dX4_init_16 : decode cX4_init 16 = .ok (.new 9, 3) := by decide +kernel
theorem dX4_init_19 : decode cX4_init 19 = .ok (.dup, 1) := by decide +kernel
theorem dX4_init_20 : decode cX4_init 20 = .ok (.invokespecial 11, 3) := by decide +kernel
theorem dX4_init_23 : decode cX4_init 23 = .ok (.putfield 16, 3) := by decide +kernel
theorem dX4_init_26 : decode cX4_init 26 = .ok (.aload_n 0, 1) := by decide +kernel
theorem dX4_init_27 : decode cX4_init 27 = .ok (.new 9, 3) := by decide +kernel
theorem dX4_init_30 : decode cX4_init 30 = .ok (.dup, 1) := by decide +kernel
theorem dX4_init_31 : decode cX4_init 31 = .ok (.invokespecial 11, 3) := by decide +kernel
theorem dX4_init_34 : decode cX4_init 34 = .ok (.putfield 19, 3) := by decide +kernel
theorem dX4_init_37 : decode cX4_init 37 = .ok (.aload_n 0, 1) := by decide +kernel
theorem dX4_init_38 : decode cX4_init 38 = .ok (.new 22, 3) := by decide +kernel
theorem dX4_init_41 : decode cX4_init 41 = .ok (.dup, 1) := by decide +kernel
theorem dX4_init_42 : decode cX4_init 42 = .ok (.invokespecial 24, 3) := by decide +kernel
theorem dX4_init_45 : decode cX4_init 45 = .ok (.putfield 25, 3) := by decide +kernel
theorem dX4_init_48 : decode cX4_init 48 = .ok (.aload_n 0, 1) := by decide +kernel
theorem dX4_init_49 : decode cX4_init 49 = .ok (.new 29, 3) := by decide +kernel
theorem dX4_init_52 : decode cX4_init 52 = .ok (.dup, 1) := by decide +kernel
theorem dX4_init_53 : decode cX4_init 53 = .ok (.invokespecial 31, 3) := by decide +kernel
theorem dX4_init_56 : decode cX4_init 56 = .ok (.putfield 32, 3) := by decide +kernel
theorem dX4_init_59 : decode cX4_init 59 = .ok (.aload_n 0, 1) := by decide +kernel
theorem dX4_init_60 : decode cX4_init 60 = .ok (.iconst 4, 1) := by decide +kernel
theorem dX4_init_61 : decode cX4_init 61 = .ok (.anewarray 36, 3) := by decide +kernel
theorem dX4_init_64 : decode cX4_init 64 = .ok (.putfield 38, 3) := by decide +kernel
theorem dX4_init_67 : decode cX4_init 67 = .ok (.aload_n 0, 1) := by decide +kernel
theorem dX4_init_68 : decode cX4_init 68 = .ok (.bipush 12, 2) := by decide +kernel
theorem dX4_init_70 : decode cX4_init 70 = .ok (.newarray .int, 2) := by decide +kernel
theorem dX4_init_72 : decode cX4_init 72 = .ok (.putfield 42, 3) := by decide +kernel
theorem dX4_init_75 : decode cX4_init 75 = .ok (.aload_n 0, 1) := by decide +kernel
theorem dX4_init_76 : decode cX4_init 76 = .ok (.bipush 12, 2) := by decide +kernel
theorem dX4_init_78 : decode cX4_init 78 = .ok (.newarray .int, 2) := by decide +kernel
theorem dX4_init_80 : decode cX4_init 80 = .ok (.putfield 46, 3) := by decide +kernel
theorem dX4_init_83 : decode cX4_init 83 = .ok (.aload_n 0, 1) := by decide +kernel
theorem dX4_init_84 : decode cX4_init 84 = .ok (.bipush 7, 2) := by decide +kernel
theorem dX4_init_86 : decode cX4_init 86 = .ok (.newarray .int, 2) := by decide +kernel
theorem dX4_init_88 : decode cX4_init 88 = .ok (.putfield 49, 3) := by decide +kernel
theorem dX4_init_91 : decode cX4_init 91 = .ok (.aload_n 0, 1) := by decide +kernel
theorem dX4_init_92 : decode cX4_init 92 = .ok (.iconst 0, 1) := by decide +kernel
theorem dX4_init_93 : decode cX4_init 93 = .ok (.putfield 52, 3) := by decide +kernel
theorem dX4_init_96 : decode cX4_init 96 = .ok (.iconst 0, 1) := by decide +kernel
theorem dX4_init_97 : decode cX4_init 97 = .ok (.istore_n 1, 1) := by decide +kernel
theorem dX4_init_98 : decode cX4_init 98 = .ok (.iload_n 1, 1) := by decide +kernel
theorem dX4_init_99 : decode cX4_init 99 = .ok (.iconst 4, 1) := by decide +kernel
theorem dX4_init_100 : decode cX4_init 100 = .ok (.if_icmp .ge 22, 3) := by decide +kernel
theorem dX4_init_103 : decode cX4_init 103 = .ok (.aload_n 0, 1) := by decide +kernel
theorem dX4_init_104 : decode cX4_init 104 = .ok (.getfield 38, 3) := by decide +kernel
theorem dX4_init_107 : decode cX4_init 107 = .ok (.iload_n 1, 1) := by decide +kernel
theorem dX4_init_108 : decode cX4_init 108 = .ok (.new 36, 3) := by decide +kernel
theorem dX4_init_111 : decode cX4_init 111 = .ok (.dup, 1) := by decide +kernel
theorem dX4_init_112 : decode cX4_init 112 = .ok (.invokespecial 56, 3) := by decide +kernel
theorem dX4_init_115 : decode cX4_init 115 = .ok (.aastore, 1) := by decide +kernel
theorem dX4_init_116 : decode cX4_init 116 = .ok (.iinc 1 1, 3) := by decide +kernel
theorem dX4_init_119 : decode cX4_init 119 = .ok (.goto (-21), 3) := by decide +kernel
theorem dX4_init_122 : decode cX4_init 122 = .ok (.return_, 1) := by decide +kernel
theorem dX4_worth_0 : decode cX4_worth 0 = .ok (.iload_n 1, 1) := by decide +kernel
theorem dX4_worth_1 : decode cX4_worth 1 = .ok (.invokestatic 57, 3) := by decide +kernel
theorem dX4_worth_4 : decode cX4_worth 4 = .ok (.ifCond .eq 13, 3) := by decide +kernel
theorem dX4_worth_7 : decode cX4_worth 7 = .ok (.iload_n 2, 1) := by decide +kernel
theorem dX4_worth_8 : decode cX4_worth 8 = .ok (.iconst 0, 1) := by decide +kernel
theorem dX4_worth_9 : decode cX4_worth 9 = .ok (.bipush 40, 2) := by decide +kernel
theorem dX4_worth_11 : decode cX4_worth 11 = .ok (.invokestatic 61, 3) := by decide +kernel
theorem dX4_worth_14 : decode cX4_worth 14 = .ok (.ifCond .ne 10, 3) := by decide +kernel
theorem dX4_worth_17 : decode cX4_worth 17 = .ok (.aload_n 0, 1) := by decide +kernel
theorem dX4_worth_18 : decode cX4_worth 18 = .ok (.ldc 65, 2) := by decide +kernel
theorem dX4_worth_20 : decode cX4_worth 20 = .ok (.invokevirtual 66, 3) := by decide +kernel
theorem dX4_worth_23 : decode cX4_worth 23 = .ok (.ireturn, 1) := by decide +kernel
theorem dX4_worth_24 : decode cX4_worth 24 = .ok (.aload_n 0, 1) := by decide +kernel
theorem dX4_worth_25 : decode cX4_worth 25 = .ok (.getfield 12, 3) := by decide +kernel
theorem dX4_worth_28 : decode cX4_worth 28 = .ok (.getfield 70, 3) := by decide +kernel
theorem dX4_worth_31 : decode cX4_worth 31 = .ok (.iload_n 1, 1) := by decide +kernel
theorem dX4_worth_32 : decode cX4_worth 32 = .ok (.iaload, 1) := by decide +kernel
theorem dX4_worth_33 : decode cX4_worth 33 = .ok (.istore_n 3, 1) := by decide +kernel
theorem dX4_worth_34 : decode cX4_worth 34 = .ok (.aload_n 0, 1) := by decide +kernel
theorem dX4_worth_35 : decode cX4_worth 35 = .ok (.getfield 12, 3) := by decide +kernel
theorem dX4_worth_38 : decode cX4_worth 38 = .ok (.iload_n 1, 1) := by decide +kernel
theorem dX4_worth_39 : decode cX4_worth 39 = .ok (.iload_n 2, 1) := by decide +kernel
theorem dX4_worth_40 : decode cX4_worth 40 = .ok (.invokevirtual 73, 3) := by decide +kernel
theorem dX4_worth_43 : decode cX4_worth 43 = .ok (.iload_n 3, 1) := by decide +kernel
theorem dX4_worth_44 : decode cX4_worth 44 = .ok (.ireturn, 1) := by decide +kernel
theorem dX4_common_0 : decode cX4_common 0 = .ok (.iload_n 1, 1) := by decide +kernel
theorem dX4_common_1 : decode cX4_common 1 = .ok (.invokestatic 57, 3) := by decide +kernel
theorem dX4_common_4 : decode cX4_common 4 = .ok (.ifCond .eq 14, 3) := by decide +kernel
theorem dX4_common_7 : decode cX4_common 7 = .ok (.iload_n 2, 1) := by decide +kernel
theorem dX4_common_8 : decode cX4_common 8 = .ok (.iconst (-1), 1) := by decide +kernel
theorem dX4_common_9 : decode cX4_common 9 = .ok (.sipush 400, 3) := by decide +kernel
theorem dX4_common_12 : decode cX4_common 12 = .ok (.invokestatic 61, 3) := by decide +kernel
theorem dX4_common_15 : decode cX4_common 15 = .ok (.ifCond .ne 10, 3) := by decide +kernel
theorem dX4_common_18 : decode cX4_common 18 = .ok (.aload_n 0, 1) := by decide +kernel
theorem dX4_common_19 : decode cX4_common 19 = .ok (.ldc 65, 2) := by decide +kernel
theorem dX4_common_21 : decode cX4_common 21 = .ok (.invokevirtual 66, 3) := by decide +kernel
theorem dX4_common_24 : decode cX4_common 24 = .ok (.ireturn, 1) := by decide +kernel
theorem dX4_common_25 : decode cX4_common 25 = .ok (.aload_n 0, 1) := by decide +kernel
theorem dX4_common_26 : decode cX4_common 26 = .ok (.getfield 12, 3) := by decide +kernel
theorem dX4_common_29 : decode cX4_common 29 = .ok (.getfield 77, 3) := by decide +kernel
theorem dX4_common_32 : decode cX4_common 32 = .ok (.iload_n 1, 1) := by decide +kernel
theorem dX4_common_33 : decode cX4_common 33 = .ok (.iaload, 1) := by decide +kernel
theorem dX4_common_34 : decode cX4_common 34 = .ok (.istore_n 3, 1) := by decide +kernel
theorem dX4_common_35 : decode cX4_common 35 = .ok (.aload_n 0, 1) := by decide +kernel
theorem dX4_common_36 : decode cX4_common 36 = .ok (.getfield 12, 3) := by decide +kernel
theorem dX4_common_39 : decode cX4_common 39 = .ok (.getfield 77, 3) := by decide +kernel
theorem dX4_common_42 : decode cX4_common 42 = .ok (.iload_n 1, 1) := by decide +kernel
theorem dX4_common_43 : decode cX4_common 43 = .ok (.iload_n 2, 1) := by decide +kernel
theorem dX4_common_44 : decode cX4_common 44 = .ok (.iastore, 1) := by decide +kernel
theorem dX4_common_45 : decode cX4_common 45 = .ok (.iload_n 3, 1) := by decide +kernel
theorem dX4_common_46 : decode cX4_common 46 = .ok (.ireturn, 1) := by decide +kernel
theorem dX4_pupil_0 : decode cX4_pupil 0 = .ok (.iload_n 1, 1) := by decide +kernel
theorem dX4_pupil_1 : decode cX4_pupil 1 = .ok (.iconst 0, 1) := by decide +kernel
theorem dX4_pupil_2 : decode cX4_pupil 2 = .ok (.iconst 3, 1) := by decide +kernel
theorem dX4_pupil_3 : decode cX4_pupil 3 = .ok (.invokestatic 61, 3) := by decide +kernel
theorem dX4_pupil_6 : decode cX4_pupil 6 = .ok (.ifCond .ne 10, 3) := by decide +kernel
theorem dX4_pupil_9 : decode cX4_pupil 9 = .ok (.aload_n 0, 1) := by decide +kernel
theorem dX4_pupil_10 : decode cX4_pupil 10 = .ok (.ldc 65, 2) := by decide +kernel
theorem dX4_pupil_12 : decode cX4_pupil 12 = .ok (.invokevirtual 66, 3) := by decide +kernel
theorem dX4_pupil_15 : decode cX4_pupil 15 = .ok (.ireturn, 1) := by decide +kernel
theorem dX4_pupil_16 : decode cX4_pupil 16 = .ok (.aload_n 0, 1) := by decide +kernel
theorem dX4_pupil_17 : decode cX4_pupil 17 = .ok (.getfield 12, 3) := by decide +kernel
theorem dX4_pupil_20 : decode cX4_pupil 20 = .ok (.getfield 80, 3) := by decide +kernel
theorem dX4_pupil_23 : decode cX4_pupil 23 = .ok (.bipush 12, 2) := by decide +kernel
theorem dX4_pupil_25 : decode cX4_pupil 25 = .ok (.if_icmp .lt 10, 3) := by decide +kernel
theorem dX4_pupil_28 : decode cX4_pupil 28 = .ok (.aload_n 0, 1) := by decide +kernel
theorem dX4_pupil_29 : decode cX4_pupil 29 = .ok (.ldc 84, 2) := by decide +kernel
theorem dX4_pupil_31 : decode cX4_pupil 31 = .ok (.invokevirtual 66, 3) := by decide +kernel
theorem dX4_pupil_34 : decode cX4_pupil 34 = .ok (.ireturn, 1) := by decide +kernel
theorem dX4_pupil_35 : decode cX4_pupil 35 = .ok (.aload_n 0, 1) := by decide +kernel
theorem dX4_pupil_36 : decode cX4_pupil 36 = .ok (.getfield 12, 3) := by decide +kernel
theorem dX4_pupil_39 : decode cX4_pupil 39 = .ok (.iload_n 1, 1) := by decide +kernel
theorem dX4_pupil_40 : decode cX4_pupil 40 = .ok (.invokevirtual 85, 3) := by decide +kernel
theorem dX4_pupil_43 : decode cX4_pupil 43 = .ok (.ireturn, 1) := by decide +kernel
theorem dX4_point_0 : decode cX4_point 0 = .ok (.aload_n 0, 1) := by decide +kernel
theorem dX4_point_1 : decode cX4_point 1 = .ok (.iload_n 1, 1) := by decide +kernel
theorem dX4_point_2 : decode cX4_point 2 = .ok (.invokevirtual 88, 3) := by decide +kernel
theorem dX4_point_5 : decode cX4_point 5 = .ok (.ifCond .eq 17, 3) := by decide +kernel
theorem dX4_point_8 : decode cX4_point 8 = .ok (.iload_n 2, 1) := by decide +kernel
theorem dX4_point_9 : decode cX4_point 9 = .ok (.invokestatic 57, 3) := by decide +kernel
theorem dX4_point_12 : decode cX4_point 12 = .ok (.ifCond .eq 10, 3) := by decide +kernel
theorem dX4_point_15 : decode cX4_point 15 = .ok (.iload_n 3, 1) := by decide +kernel
theorem dX4_point_16 : decode cX4_point 16 = .ok (.invokestatic 91, 3) := by decide +kernel
theorem dX4_point_19 : decode cX4_point 19 = .ok (.ifCond .ne 10, 3) := by decide +kernel
theorem dX4_point_22 : decode cX4_point 22 = .ok (.aload_n 0, 1) := by decide +kernel
theorem dX4_point_23 : decode cX4_point 23 = .ok (.ldc 65, 2) := by decide +kernel
theorem dX4_point_25 : decode cX4_point 25 = .ok (.invokevirtual 66, 3) := by decide +kernel
theorem dX4_point_28 : decode cX4_point 28 = .ok (.ireturn, 1) := by decide +kernel
theorem dX4_point_29 : decode cX4_point 29 = .ok (.iload 4, 2) := by decide +kernel
theorem dX4_point_31 : decode cX4_point 31 = .ok (.iconst 0, 1) := by decide +kernel
theorem dX4_point_32 : decode cX4_point 32 = .ok (.aload_n 0, 1) := by decide +kernel
theorem dX4_point_33 : decode cX4_point 33 = .ok (.getfield 12, 3) := by decide +kernel
theorem dX4_point_36 : decode cX4_point 36 = .ok (.getfield 70, 3) := by decide +kernel
theorem dX4_point_39 : decode cX4_point 39 = .ok (.iload_n 2, 1) := by decide +kernel
theorem dX4_point_40 : decode cX4_point 40 = .ok (.iaload, 1) := by decide +kernel
theorem dX4_point_41 : decode cX4_point 41 = .ok (.invokestatic 61, 3) := by decide +kernel
theorem dX4_point_44 : decode cX4_point 44 = .ok (.ifCond .ne 10, 3) := by decide +kernel
theorem dX4_point_47 : decode cX4_point 47 = .ok (.aload_n 0, 1) := by decide +kernel
theorem dX4_point_48 : decode cX4_point 48 = .ok (.ldc 65, 2) := by decide +kernel
theorem dX4_point_50 : decode cX4_point 50 = .ok (.invokevirtual 66, 3) := by decide +kernel
theorem dX4_point_53 : decode cX4_point 53 = .ok (.ireturn, 1) := by decide +kernel
theorem dX4_point_54 : decode cX4_point 54 = .ok (.iload_n 1, 1) := by decide +kernel
theorem dX4_point_55 : decode cX4_point 55 = .ok (.iload_n 2, 1) := by decide +kernel
theorem dX4_point_56 : decode cX4_point 56 = .ok (.iload_n 3, 1) := by decide +kernel
theorem dX4_point_57 : decode cX4_point 57 = .ok (.invokestatic 94, 3) := by decide +kernel
theorem dX4_point_60 : decode cX4_point 60 = .ok (.istore 5, 2) := by decide +kernel
theorem dX4_point_62 : decode cX4_point 62 = .ok (.aload_n 0, 1) := by decide +kernel
theorem dX4_point_63 : decode cX4_point 63 = .ok (.getfield 12, 3) := by decide +kernel
theorem dX4_point_66 : decode cX4_point 66 = .ok (.getfield 98, 3) := by decide +kernel
theorem dX4_point_69 : decode cX4_point 69 = .ok (.iload 5, 2) := by decide +kernel
theorem dX4_point_71 : decode cX4_point 71 = .ok (.iaload, 1) := by decide +kernel
theorem dX4_point_72 : decode cX4_point 72 = .ok (.istore 6, 2) := by decide +kernel
theorem dX4_point_74 : decode cX4_point 74 = .ok (.aload_n 0, 1) := by decide +kernel
theorem dX4_point_75 : decode cX4_point 75 = .ok (.getfield 12, 3) := by decide +kernel
theorem dX4_point_78 : decode cX4_point 78 = .ok (.getfield 98, 3) := by decide +kernel
theorem dX4_point_81 : decode cX4_point 81 = .ok (.iload 5, 2) := by decide +kernel
theorem dX4_point_83 : decode cX4_point 83 = .ok (.iload 4, 2) := by decide +kernel
theorem dX4_point_85 : decode cX4_point 85 = .ok (.iastore, 1) := by decide +kernel
theorem dX4_point_86 : decode cX4_point 86 = .ok (.iload 6, 2) := by decide +kernel
theorem dX4_point_88 : decode cX4_point 88 = .ok (.ireturn, 1) := by decide +kernel
theorem dX4_pupilOf_0 : decode cX4_pupilOf 0 = .ok (.aload_n 0, 1) := by decide +kernel
theorem dX4_pupilOf_1 : decode cX4_pupilOf 1 = .ok (.iload_n 1, 1) := by decide +kernel
theorem dX4_pupilOf_2 : decode cX4_pupilOf 2 = .ok (.invokevirtual 88, 3) := by decide +kernel
theorem dX4_pupilOf_5 : decode cX4_pupilOf 5 = .ok (.ifCond .eq 13, 3) := by decide +kernel
theorem dX4_pupilOf_8 : decode cX4_pupilOf 8 = .ok (.iload_n 2, 1) := by decide +kernel
theorem dX4_pupilOf_9 : decode cX4_pupilOf 9 = .ok (.iconst 0, 1) := by decide +kernel
theorem dX4_pupilOf_10 : decode cX4_pupilOf 10 = .ok (.bipush 9, 2) := by decide +kernel
theorem dX4_pupilOf_12 : decode cX4_pupilOf 12 = .ok (.invokestatic 61, 3) := by decide +kernel
theorem dX4_pupilOf_15 : decode cX4_pupilOf 15 = .ok (.ifCond .ne 10, 3) := by decide +kernel
theorem dX4_pupilOf_18 : decode cX4_pupilOf 18 = .ok (.aload_n 0, 1) := by decide +kernel
theorem dX4_pupilOf_19 : decode cX4_pupilOf 19 = .ok (.ldc 65, 2) := by decide +kernel
theorem dX4_pupilOf_21 : decode cX4_pupilOf 21 = .ok (.invokevirtual 66, 3) := by decide +kernel
theorem dX4_pupilOf_24 : decode cX4_pupilOf 24 = .ok (.ireturn, 1) := by decide +kernel
theorem dX4_pupilOf_25 : decode cX4_pupilOf 25 = .ok (.iload_n 2, 1) := by decide +kernel
theorem dX4_pupilOf_26 : decode cX4_pupilOf 26 = .ok (.ifCond .ne 13, 3) := by decide +kernel
theorem dX4_pupilOf_29 : decode cX4_pupilOf 29 = .ok (.aload_n 0, 1) := by decide +kernel
theorem dX4_pupilOf_30 : decode cX4_pupilOf 30 = .ok (.getfield 12, 3) := by decide +kernel
theorem dX4_pupilOf_33 : decode cX4_pupilOf 33 = .ok (.getfield 101, 3) := by decide +kernel
theorem dX4_pupilOf_36 : decode cX4_pupilOf 36 = .ok (.iload_n 1, 1) := by decide +kernel
theorem dX4_pupilOf_37 : decode cX4_pupilOf 37 = .ok (.iaload, 1) := by decide +kernel
theorem dX4_pupilOf_38 : decode cX4_pupilOf 38 = .ok (.ireturn, 1) := by decide +kernel
theorem dX4_pupilOf_39 : decode cX4_pupilOf 39 = .ok (.iload_n 2, 1) := by decide +kernel
theorem dX4_pupilOf_40 : decode cX4_pupilOf 40 = .ok (.iconst 1, 1) := by decide +kernel
theorem dX4_pupilOf_41 : decode cX4_pupilOf 41 = .ok (.if_icmp .ne 14, 3) := by decide +kernel
theorem dX4_pupilOf_44 : decode cX4_pupilOf 44 = .ok (.aload_n 0, 1) := by decide +kernel
theorem dX4_pupilOf_45 : decode cX4_pupilOf 45 = .ok (.getfield 12, 3) := by decide +kernel
theorem dX4_pupilOf_48 : decode cX4_pupilOf 48 = .ok (.iload_n 1, 1) := by decide +kernel
theorem dX4_pupilOf_49 : decode cX4_pupilOf 49 = .ok (.invokevirtual 104, 3) := by decide +kernel
theorem dX4_pupilOf_52 : decode cX4_pupilOf 52 = .ok (.goto 14, 3) := by decide +kernel
theorem dX4_pupilOf_55 : decode cX4_pupilOf 55 = .ok (.aload_n 0, 1) := by decide +kernel
theorem dX4_pupilOf_56 : decode cX4_pupilOf 56 = .ok (.getfield 12, 3) := by decide +kernel
theorem dX4_pupilOf_59 : decode cX4_pupilOf 59 = .ok (.iload_n 1, 1) := by decide +kernel
theorem dX4_pupilOf_60 : decode cX4_pupilOf 60 = .ok (.iload_n 2, 1) := by decide +kernel
theorem dX4_pupilOf_61 : decode cX4_pupilOf 61 = .ok (.iconst 2, 1) := by decide +kernel
theorem dX4_pupilOf_62 : decode cX4_pupilOf 62 = .ok (.isub, 1) := by decide +kernel
theorem dX4_pupilOf_63 : decode cX4_pupilOf 63 = .ok (.invokevirtual 107, 3) := by decide +kernel
theorem dX4_pupilOf_66 : decode cX4_pupilOf 66 = .ok (.ireturn, 1) := by decide +kernel
theorem dX4_paper_0 : decode cX4_paper 0 = .ok (.iload_n 1, 1) := by decide +kernel
theorem dX4_paper_1 : decode cX4_paper 1 = .ok (.iconst 0, 1) := by decide +kernel
theorem dX4_paper_2 : decode cX4_paper 2 = .ok (.iconst 5, 1) := by decide +kernel
theorem dX4_paper_3 : decode cX4_paper 3 = .ok (.invokestatic 61, 3) := by decide +kernel
theorem dX4_paper_6 : decode cX4_paper 6 = .ok (.ifCond .ne 10, 3) := by decide +kernel
theorem dX4_paper_9 : decode cX4_paper 9 = .ok (.aload_n 0, 1) := by decide +kernel
theorem dX4_paper_10 : decode cX4_paper 10 = .ok (.ldc 65, 2) := by decide +kernel
theorem dX4_paper_12 : decode cX4_paper 12 = .ok (.invokevirtual 66, 3) := by decide +kernel
theorem dX4_paper_15 : decode cX4_paper 15 = .ok (.ireturn, 1) := by decide +kernel
theorem dX4_paper_16 : decode cX4_paper 16 = .ok (.iload_n 1, 1) := by decide +kernel
theorem dX4_paper_17 : decode cX4_paper 17 = .ok (.iconst 1, 1) := by decide +kernel
theorem dX4_paper_18 : decode cX4_paper 18 = .ok (.if_icmp .eq 8, 3) := by decide +kernel
theorem dX4_paper_21 : decode cX4_paper 21 = .ok (.iload_n 1, 1) := by decide +kernel
theorem dX4_paper_22 : decode cX4_paper 22 = .ok (.iconst 3, 1) := by decide +kernel
theorem dX4_paper_23 : decode cX4_paper 23 = .ok (.if_icmp .ne 20, 3) := by decide +kernel
theorem dX4_paper_26 : decode cX4_paper 26 = .ok (.aload_n 0, 1) := by decide +kernel
theorem dX4_paper_27 : decode cX4_paper 27 = .ok (.getfield 12, 3) := by decide +kernel
theorem dX4_paper_30 : decode cX4_paper 30 = .ok (.getfield 80, 3) := by decide +kernel
theorem dX4_paper_33 : decode cX4_paper 33 = .ok (.ifCond .ne 10, 3) := by decide +kernel
theorem dX4_paper_36 : decode cX4_paper 36 = .ok (.aload_n 0, 1) := by decide +kernel
theorem dX4_paper_37 : decode cX4_paper 37 = .ok (.ldc 111, 2) := by decide +kernel
theorem dX4_paper_39 : decode cX4_paper 39 = .ok (.invokevirtual 66, 3) := by decide +kernel
theorem dX4_paper_42 : decode cX4_paper 42 = .ok (.ireturn, 1) := by decide +kernel
theorem dX4_paper_43 : decode cX4_paper 43 = .ok (.aload_n 0, 1) := by decide +kernel
theorem dX4_paper_44 : decode cX4_paper 44 = .ok (.getfield 25, 3) := by decide +kernel
theorem dX4_paper_47 : decode cX4_paper 47 = .ok (.aload_n 0, 1) := by decide +kernel
theorem dX4_paper_48 : decode cX4_paper 48 = .ok (.getfield 12, 3) := by decide +kernel
theorem dX4_paper_51 : decode cX4_paper 51 = .ok (.invokevirtual 112, 3) := by decide +kernel
theorem dX4_paper_54 : decode cX4_paper 54 = .ok (.iload_n 1, 1) := by decide +kernel
theorem dX4_paper_55 : decode cX4_paper 55 = .ok (.tableswitch 73 0 4 #[33, 41, 49, 57, 65], 33) := by decide +kernel
theorem dX4_paper_88 : decode cX4_paper 88 = .ok (.aload_n 0, 1) := by decide +kernel
theorem dX4_paper_89 : decode cX4_paper 89 = .ok (.getfield 25, 3) := by decide +kernel
theorem dX4_paper_92 : decode cX4_paper 92 = .ok (.getfield 116, 3) := by decide +kernel
theorem dX4_paper_95 : decode cX4_paper 95 = .ok (.ireturn, 1) := by decide +kernel
theorem dX4_paper_96 : decode cX4_paper 96 = .ok (.aload_n 0, 1) := by decide +kernel
theorem dX4_paper_97 : decode cX4_paper 97 = .ok (.getfield 25, 3) := by decide +kernel
theorem dX4_paper_100 : decode cX4_paper 100 = .ok (.invokevirtual 119, 3) := by decide +kernel
theorem dX4_paper_103 : decode cX4_paper 103 = .ok (.ireturn, 1) := by decide +kernel
theorem dX4_paper_104 : decode cX4_paper 104 = .ok (.aload_n 0, 1) := by decide +kernel
theorem dX4_paper_105 : decode cX4_paper 105 = .ok (.getfield 25, 3) := by decide +kernel
theorem dX4_paper_108 : decode cX4_paper 108 = .ok (.getfield 123, 3) := by decide +kernel
theorem dX4_paper_111 : decode cX4_paper 111 = .ok (.ireturn, 1) := by decide +kernel
theorem dX4_paper_112 : decode cX4_paper 112 = .ok (.aload_n 0, 1) := by decide +kernel
theorem dX4_paper_113 : decode cX4_paper 113 = .ok (.getfield 25, 3) := by decide +kernel
theorem dX4_paper_116 : decode cX4_paper 116 = .ok (.invokevirtual 126, 3) := by decide +kernel
theorem dX4_paper_119 : decode cX4_paper 119 = .ok (.ireturn, 1) := by decide +kernel
theorem dX4_paper_120 : decode cX4_paper 120 = .ok (.aload_n 0, 1) := by decide +kernel
theorem dX4_paper_121 : decode cX4_paper 121 = .ok (.getfield 25, 3) := by decide +kernel
theorem dX4_paper_124 : decode cX4_paper 124 = .ok (.invokevirtual 129, 3) := by decide +kernel
theorem dX4_paper_127 : decode cX4_paper 127 = .ok (.ireturn, 1) := by decide +kernel
theorem dX4_paper_128 : decode cX4_paper 128 = .ok (.aload_n 0, 1) := by decide +kernel
theorem dX4_paper_129 : decode cX4_paper 129 = .ok (.getfield 25, 3) := by decide +kernel
theorem dX4_paper_132 : decode cX4_paper 132 = .ok (.getfield 132, 3) := by decide +kernel
theorem dX4_paper_135 : decode cX4_paper 135 = .ok (.ireturn, 1) := by decide +kernel
theorem dX4_drawn_0 : decode cX4_drawn 0 = .ok (.aload_n 0, 1) := by decide +kernel
theorem dX4_drawn_1 : decode cX4_drawn 1 = .ok (.iload_n 1, 1) := by decide +kernel
theorem dX4_drawn_2 : decode cX4_drawn 2 = .ok (.invokevirtual 88, 3) := by decide +kernel
theorem dX4_drawn_5 : decode cX4_drawn 5 = .ok (.ifCond .eq 10, 3) := by decide +kernel
theorem dX4_drawn_8 : decode cX4_drawn 8 = .ok (.iload_n 2, 1) := by decide +kernel
theorem dX4_drawn_9 : decode cX4_drawn 9 = .ok (.invokestatic 91, 3) := by decide +kernel
theorem dX4_drawn_12 : decode cX4_drawn 12 = .ok (.ifCond .ne 10, 3) := by decide +kernel
theorem dX4_drawn_15 : decode cX4_drawn 15 = .ok (.aload_n 0, 1) := by decide +kernel
theorem dX4_drawn_16 : decode cX4_drawn 16 = .ok (.ldc 65, 2) := by decide +kernel
theorem dX4_drawn_18 : decode cX4_drawn 18 = .ok (.invokevirtual 66, 3) := by decide +kernel
theorem dX4_drawn_21 : decode cX4_drawn 21 = .ok (.ireturn, 1) := by decide +kernel
theorem dX4_drawn_22 : decode cX4_drawn 22 = .ok (.iconst 0, 1) := by decide +kernel
theorem dX4_drawn_23 : decode cX4_drawn 23 = .ok (.istore_n 3, 1) := by decide +kernel
theorem dX4_drawn_24 : decode cX4_drawn 24 = .ok (.iload_n 3, 1) := by decide +kernel
theorem dX4_drawn_25 : decode cX4_drawn 25 = .ok (.bipush 8, 2) := by decide +kernel
theorem dX4_drawn_27 : decode cX4_drawn 27 = .ok (.if_icmp .ge 59, 3) := by decide +kernel
theorem dX4_drawn_30 : decode cX4_drawn 30 = .ok (.aload_n 0, 1) := by decide +kernel
theorem dX4_drawn_31 : decode cX4_drawn 31 = .ok (.getfield 12, 3) := by decide +kernel
theorem dX4_drawn_34 : decode cX4_drawn 34 = .ok (.getfield 70, 3) := by decide +kernel
theorem dX4_drawn_37 : decode cX4_drawn 37 = .ok (.iload_n 3, 1) := by decide +kernel
theorem dX4_drawn_38 : decode cX4_drawn 38 = .ok (.iaload, 1) := by decide +kernel
theorem dX4_drawn_39 : decode cX4_drawn 39 = .ok (.iconst 1, 1) := by decide +kernel
theorem dX4_drawn_40 : decode cX4_drawn 40 = .ok (.iadd, 1) := by decide +kernel
theorem dX4_drawn_41 : decode cX4_drawn 41 = .ok (.istore 4, 2) := by decide +kernel
theorem dX4_drawn_43 : decode cX4_drawn 43 = .ok (.aload_n 0, 1) := by decide +kernel
theorem dX4_drawn_44 : decode cX4_drawn 44 = .ok (.getfield 12, 3) := by decide +kernel
theorem dX4_drawn_47 : decode cX4_drawn 47 = .ok (.invokevirtual 135, 3) := by decide +kernel
theorem dX4_drawn_50 : decode cX4_drawn 50 = .ok (.istore 5, 2) := by decide +kernel
theorem dX4_drawn_52 : decode cX4_drawn 52 = .ok (.aload_n 0, 1) := by decide +kernel
theorem dX4_drawn_53 : decode cX4_drawn 53 = .ok (.getfield 12, 3) := by decide +kernel
theorem dX4_drawn_56 : decode cX4_drawn 56 = .ok (.getfield 98, 3) := by decide +kernel
theorem dX4_drawn_59 : decode cX4_drawn 59 = .ok (.iload_n 1, 1) := by decide +kernel
theorem dX4_drawn_60 : decode cX4_drawn 60 = .ok (.iload_n 3, 1) := by decide +kernel
theorem dX4_drawn_61 : decode cX4_drawn 61 = .ok (.iload_n 2, 1) := by decide +kernel
theorem dX4_drawn_62 : decode cX4_drawn 62 = .ok (.invokestatic 94, 3) := by decide +kernel
theorem dX4_drawn_65 : decode cX4_drawn 65 = .ok (.iload 4, 2) := by decide +kernel
theorem dX4_drawn_67 : decode cX4_drawn 67 = .ok (.ifCond .le 11, 3) := by decide +kernel
theorem dX4_drawn_70 : decode cX4_drawn 70 = .ok (.iload 5, 2) := by decide +kernel
theorem dX4_drawn_72 : decode cX4_drawn 72 = .ok (.iload 4, 2) := by decide +kernel
theorem dX4_drawn_74 : decode cX4_drawn 74 = .ok (.irem, 1) := by decide +kernel
theorem dX4_drawn_75 : decode cX4_drawn 75 = .ok (.goto 4, 3) := by decide +kernel
theorem dX4_drawn_78 : decode cX4_drawn 78 = .ok (.iconst 0, 1) := by decide +kernel
theorem dX4_drawn_79 : decode cX4_drawn 79 = .ok (.iastore, 1) := by decide +kernel
theorem dX4_drawn_80 : decode cX4_drawn 80 = .ok (.iinc 3 1, 3) := by decide +kernel
theorem dX4_drawn_83 : decode cX4_drawn 83 = .ok (.goto (-59), 3) := by decide +kernel
theorem dX4_drawn_86 : decode cX4_drawn 86 = .ok (.aload_n 0, 1) := by decide +kernel
theorem dX4_drawn_87 : decode cX4_drawn 87 = .ok (.getfield 12, 3) := by decide +kernel
theorem dX4_drawn_90 : decode cX4_drawn 90 = .ok (.iload_n 1, 1) := by decide +kernel
theorem dX4_drawn_91 : decode cX4_drawn 91 = .ok (.invokevirtual 104, 3) := by decide +kernel
theorem dX4_drawn_94 : decode cX4_drawn 94 = .ok (.ireturn, 1) := by decide +kernel
theorem dX4_drop_0 : decode cX4_drop 0 = .ok (.aload_n 0, 1) := by decide +kernel
theorem dX4_drop_1 : decode cX4_drop 1 = .ok (.getfield 12, 3) := by decide +kernel
theorem dX4_drop_4 : decode cX4_drop 4 = .ok (.getfield 80, 3) := by decide +kernel
theorem dX4_drop_7 : decode cX4_drop 7 = .ok (.ifCond .gt 10, 3) := by decide +kernel
theorem dX4_drop_10 : decode cX4_drop 10 = .ok (.aload_n 0, 1) := by decide +kernel
theorem dX4_drop_11 : decode cX4_drop 11 = .ok (.ldc 111, 2) := by decide +kernel
theorem dX4_drop_13 : decode cX4_drop 13 = .ok (.invokevirtual 66, 3) := by decide +kernel
theorem dX4_drop_16 : decode cX4_drop 16 = .ok (.ireturn, 1) := by decide +kernel
theorem dX4_drop_17 : decode cX4_drop 17 = .ok (.aload_n 0, 1) := by decide +kernel
theorem dX4_drop_18 : decode cX4_drop 18 = .ok (.getfield 12, 3) := by decide +kernel
theorem dX4_drop_21 : decode cX4_drop 21 = .ok (.dup, 1) := by decide +kernel
theorem dX4_drop_22 : decode cX4_drop 22 = .ok (.getfield 80, 3) := by decide +kernel
theorem dX4_drop_25 : decode cX4_drop 25 = .ok (.iconst 1, 1) := by decide +kernel
theorem dX4_drop_26 : decode cX4_drop 26 = .ok (.isub, 1) := by decide +kernel
theorem dX4_drop_27 : decode cX4_drop 27 = .ok (.putfield 80, 3) := by decide +kernel
theorem dX4_drop_30 : decode cX4_drop 30 = .ok (.aload_n 0, 1) := by decide +kernel
theorem dX4_drop_31 : decode cX4_drop 31 = .ok (.getfield 12, 3) := by decide +kernel
theorem dX4_drop_34 : decode cX4_drop 34 = .ok (.getfield 80, 3) := by decide +kernel
theorem dX4_drop_37 : decode cX4_drop 37 = .ok (.ireturn, 1) := by decide +kernel
theorem dX4_curve_0 : decode cX4_curve 0 = .ok (.iload_n 1, 1) := by decide +kernel
theorem dX4_curve_1 : decode cX4_curve 1 = .ok (.invokestatic 138, 3) := by decide +kernel
theorem dX4_curve_4 : decode cX4_curve 4 = .ok (.ifCond .eq 10, 3) := by decide +kernel
theorem dX4_curve_7 : decode cX4_curve 7 = .ok (.iload_n 2, 1) := by decide +kernel
theorem dX4_curve_8 : decode cX4_curve 8 = .ok (.invokestatic 141, 3) := by decide +kernel
theorem dX4_curve_11 : decode cX4_curve 11 = .ok (.ifCond .ne 10, 3) := by decide +kernel
theorem dX4_curve_14 : decode cX4_curve 14 = .ok (.aload_n 0, 1) := by decide +kernel
theorem dX4_curve_15 : decode cX4_curve 15 = .ok (.ldc 65, 2) := by decide +kernel
theorem dX4_curve_17 : decode cX4_curve 17 = .ok (.invokevirtual 66, 3) := by decide +kernel
theorem dX4_curve_20 : decode cX4_curve 20 = .ok (.ireturn, 1) := by decide +kernel
theorem dX4_curve_21 : decode cX4_curve 21 = .ok (.aload_n 0, 1) := by decide +kernel
theorem dX4_curve_22 : decode cX4_curve 22 = .ok (.getfield 12, 3) := by decide +kernel
theorem dX4_curve_25 : decode cX4_curve 25 = .ok (.getfield 144, 3) := by decide +kernel
theorem dX4_curve_28 : decode cX4_curve 28 = .ok (.bipush 6, 2) := by decide +kernel
theorem dX4_curve_30 : decode cX4_curve 30 = .ok (.if_icmp .lt 10, 3) := by decide +kernel
theorem dX4_curve_33 : decode cX4_curve 33 = .ok (.aload_n 0, 1) := by decide +kernel
theorem dX4_curve_34 : decode cX4_curve 34 = .ok (.ldc 84, 2) := by decide +kernel
theorem dX4_curve_36 : decode cX4_curve 36 = .ok (.invokevirtual 66, 3) := by decide +kernel
theorem dX4_curve_39 : decode cX4_curve 39 = .ok (.ireturn, 1) := by decide +kernel
theorem dX4_curve_40 : decode cX4_curve 40 = .ok (.aload_n 0, 1) := by decide +kernel
theorem dX4_curve_41 : decode cX4_curve 41 = .ok (.getfield 12, 3) := by decide +kernel
theorem dX4_curve_44 : decode cX4_curve 44 = .ok (.iload_n 1, 1) := by decide +kernel
theorem dX4_curve_45 : decode cX4_curve 45 = .ok (.iload_n 2, 1) := by decide +kernel
theorem dX4_curve_46 : decode cX4_curve 46 = .ok (.invokevirtual 147, 3) := by decide +kernel
theorem dX4_curve_49 : decode cX4_curve 49 = .ok (.ireturn, 1) := by decide +kernel
theorem dX4_curveOf_0 : decode cX4_curveOf 0 = .ok (.aload_n 0, 1) := by decide +kernel
theorem dX4_curveOf_1 : decode cX4_curveOf 1 = .ok (.iload_n 1, 1) := by decide +kernel
theorem dX4_curveOf_2 : decode cX4_curveOf 2 = .ok (.invokevirtual 150, 3) := by decide +kernel
theorem dX4_curveOf_5 : decode cX4_curveOf 5 = .ok (.ifCond .eq 12, 3) := by decide +kernel
theorem dX4_curveOf_8 : decode cX4_curveOf 8 = .ok (.iload_n 2, 1) := by decide +kernel
theorem dX4_curveOf_9 : decode cX4_curveOf 9 = .ok (.iconst 0, 1) := by decide +kernel
theorem dX4_curveOf_10 : decode cX4_curveOf 10 = .ok (.iconst 1, 1) := by decide +kernel
theorem dX4_curveOf_11 : decode cX4_curveOf 11 = .ok (.invokestatic 61, 3) := by decide +kernel
theorem dX4_curveOf_14 : decode cX4_curveOf 14 = .ok (.ifCond .ne 10, 3) := by decide +kernel
theorem dX4_curveOf_17 : decode cX4_curveOf 17 = .ok (.aload_n 0, 1) := by decide +kernel
theorem dX4_curveOf_18 : decode cX4_curveOf 18 = .ok (.ldc 65, 2) := by decide +kernel
theorem dX4_curveOf_20 : decode cX4_curveOf 20 = .ok (.invokevirtual 66, 3) := by decide +kernel
theorem dX4_curveOf_23 : decode cX4_curveOf 23 = .ok (.ireturn, 1) := by decide +kernel
theorem dX4_curveOf_24 : decode cX4_curveOf 24 = .ok (.iload_n 2, 1) := by decide +kernel
theorem dX4_curveOf_25 : decode cX4_curveOf 25 = .ok (.ifCond .ne 15, 3) := by decide +kernel
theorem dX4_curveOf_28 : decode cX4_curveOf 28 = .ok (.aload_n 0, 1) := by decide +kernel
theorem dX4_curveOf_29 : decode cX4_curveOf 29 = .ok (.getfield 12, 3) := by decide +kernel
theorem dX4_curveOf_32 : decode cX4_curveOf 32 = .ok (.getfield 153, 3) := by decide +kernel
theorem dX4_curveOf_35 : decode cX4_curveOf 35 = .ok (.iload_n 1, 1) := by decide +kernel
theorem dX4_curveOf_36 : decode cX4_curveOf 36 = .ok (.iaload, 1) := by decide +kernel
theorem dX4_curveOf_37 : decode cX4_curveOf 37 = .ok (.goto 12, 3) := by decide +kernel
theorem dX4_curveOf_40 : decode cX4_curveOf 40 = .ok (.aload_n 0, 1) := by decide +kernel
theorem dX4_curveOf_41 : decode cX4_curveOf 41 = .ok (.getfield 12, 3) := by decide +kernel
theorem dX4_curveOf_44 : decode cX4_curveOf 44 = .ok (.getfield 156, 3) := by decide +kernel
theorem dX4_curveOf_47 : decode cX4_curveOf 47 = .ok (.iload_n 1, 1) := by decide +kernel
theorem dX4_curveOf_48 : decode cX4_curveOf 48 = .ok (.iaload, 1) := by decide +kernel
theorem dX4_curveOf_49 : decode cX4_curveOf 49 = .ok (.ireturn, 1) := by decide +kernel
theorem dX4_turn_0 : decode cX4_turn 0 = .ok (.aload_n 0, 1) := by decide +kernel
theorem dX4_turn_1 : decode cX4_turn 1 = .ok (.iload_n 1, 1) := by decide +kernel
theorem dX4_turn_2 : decode cX4_turn 2 = .ok (.invokevirtual 150, 3) := by decide +kernel
theorem dX4_turn_5 : decode cX4_turn 5 = .ok (.ifCond .eq 10, 3) := by decide +kernel
theorem dX4_turn_8 : decode cX4_turn 8 = .ok (.iload_n 2, 1) := by decide +kernel
theorem dX4_turn_9 : decode cX4_turn 9 = .ok (.invokestatic 138, 3) := by decide +kernel
theorem dX4_turn_12 : decode cX4_turn 12 = .ok (.ifCond .ne 10, 3) := by decide +kernel
theorem dX4_turn_15 : decode cX4_turn 15 = .ok (.aload_n 0, 1) := by decide +kernel
theorem dX4_turn_16 : decode cX4_turn 16 = .ok (.ldc 65, 2) := by decide +kernel
theorem dX4_turn_18 : decode cX4_turn 18 = .ok (.invokevirtual 66, 3) := by decide +kernel
theorem dX4_turn_21 : decode cX4_turn 21 = .ok (.ireturn, 1) := by decide +kernel
theorem dX4_turn_22 : decode cX4_turn 22 = .ok (.aload_n 0, 1) := by decide +kernel
theorem dX4_turn_23 : decode cX4_turn 23 = .ok (.getfield 12, 3) := by decide +kernel
theorem dX4_turn_26 : decode cX4_turn 26 = .ok (.getfield 153, 3) := by decide +kernel
theorem dX4_turn_29 : decode cX4_turn 29 = .ok (.iload_n 1, 1) := by decide +kernel
theorem dX4_turn_30 : decode cX4_turn 30 = .ok (.iaload, 1) := by decide +kernel
theorem dX4_turn_31 : decode cX4_turn 31 = .ok (.istore_n 3, 1) := by decide +kernel
theorem dX4_turn_32 : decode cX4_turn 32 = .ok (.aload_n 0, 1) := by decide +kernel
theorem dX4_turn_33 : decode cX4_turn 33 = .ok (.getfield 12, 3) := by decide +kernel
theorem dX4_turn_36 : decode cX4_turn 36 = .ok (.getfield 153, 3) := by decide +kernel
theorem dX4_turn_39 : decode cX4_turn 39 = .ok (.iload_n 1, 1) := by decide +kernel
theorem dX4_turn_40 : decode cX4_turn 40 = .ok (.iload_n 2, 1) := by decide +kernel
theorem dX4_turn_41 : decode cX4_turn 41 = .ok (.iastore, 1) := by decide +kernel
theorem dX4_turn_42 : decode cX4_turn 42 = .ok (.iload_n 3, 1) := by decide +kernel
theorem dX4_turn_43 : decode cX4_turn 43 = .ok (.ireturn, 1) := by decide +kernel
theorem dX4_by_0 : decode cX4_by 0 = .ok (.aload_n 0, 1) := by decide +kernel
theorem dX4_by_1 : decode cX4_by 1 = .ok (.iload_n 1, 1) := by decide +kernel
theorem dX4_by_2 : decode cX4_by 2 = .ok (.invokevirtual 150, 3) := by decide +kernel
theorem dX4_by_5 : decode cX4_by 5 = .ok (.ifCond .eq 10, 3) := by decide +kernel
theorem dX4_by_8 : decode cX4_by 8 = .ok (.iload_n 2, 1) := by decide +kernel
theorem dX4_by_9 : decode cX4_by 9 = .ok (.invokestatic 141, 3) := by decide +kernel
theorem dX4_by_12 : decode cX4_by 12 = .ok (.ifCond .ne 10, 3) := by decide +kernel
theorem dX4_by_15 : decode cX4_by 15 = .ok (.aload_n 0, 1) := by decide +kernel
theorem dX4_by_16 : decode cX4_by 16 = .ok (.ldc 65, 2) := by decide +kernel
theorem dX4_by_18 : decode cX4_by 18 = .ok (.invokevirtual 66, 3) := by decide +kernel
theorem dX4_by_21 : decode cX4_by 21 = .ok (.ireturn, 1) := by decide +kernel
theorem dX4_by_22 : decode cX4_by 22 = .ok (.aload_n 0, 1) := by decide +kernel
theorem dX4_by_23 : decode cX4_by 23 = .ok (.getfield 12, 3) := by decide +kernel
theorem dX4_by_26 : decode cX4_by 26 = .ok (.getfield 156, 3) := by decide +kernel
theorem dX4_by_29 : decode cX4_by 29 = .ok (.iload_n 1, 1) := by decide +kernel
theorem dX4_by_30 : decode cX4_by 30 = .ok (.iaload, 1) := by decide +kernel
theorem dX4_by_31 : decode cX4_by 31 = .ok (.istore_n 3, 1) := by decide +kernel
theorem dX4_by_32 : decode cX4_by 32 = .ok (.aload_n 0, 1) := by decide +kernel
theorem dX4_by_33 : decode cX4_by 33 = .ok (.getfield 12, 3) := by decide +kernel
theorem dX4_by_36 : decode cX4_by 36 = .ok (.getfield 156, 3) := by decide +kernel
theorem dX4_by_39 : decode cX4_by 39 = .ok (.iload_n 1, 1) := by decide +kernel
theorem dX4_by_40 : decode cX4_by 40 = .ok (.iload_n 2, 1) := by decide +kernel
theorem dX4_by_41 : decode cX4_by 41 = .ok (.iastore, 1) := by decide +kernel
theorem dX4_by_42 : decode cX4_by 42 = .ok (.iload_n 3, 1) := by decide +kernel
theorem dX4_by_43 : decode cX4_by 43 = .ok (.ireturn, 1) := by decide +kernel
theorem dX4_mark_0 : decode cX4_mark 0 = .ok (.aload_n 0, 1) := by decide +kernel
theorem dX4_mark_1 : decode cX4_mark 1 = .ok (.iload_n 1, 1) := by decide +kernel
theorem dX4_mark_2 : decode cX4_mark 2 = .ok (.invokevirtual 150, 3) := by decide +kernel
theorem dX4_mark_5 : decode cX4_mark 5 = .ok (.ifCond .eq 11, 3) := by decide +kernel
theorem dX4_mark_8 : decode cX4_mark 8 = .ok (.aload_n 0, 1) := by decide +kernel
theorem dX4_mark_9 : decode cX4_mark 9 = .ok (.iload_n 2, 1) := by decide +kernel
theorem dX4_mark_10 : decode cX4_mark 10 = .ok (.invokevirtual 88, 3) := by decide +kernel
theorem dX4_mark_13 : decode cX4_mark 13 = .ok (.ifCond .ne 10, 3) := by decide +kernel
theorem dX4_mark_16 : decode cX4_mark 16 = .ok (.aload_n 0, 1) := by decide +kernel
theorem dX4_mark_17 : decode cX4_mark 17 = .ok (.ldc 65, 2) := by decide +kernel
theorem dX4_mark_19 : decode cX4_mark 19 = .ok (.invokevirtual 66, 3) := by decide +kernel
theorem dX4_mark_22 : decode cX4_mark 22 = .ok (.ireturn, 1) := by decide +kernel
theorem dX4_mark_23 : decode cX4_mark 23 = .ok (.aload_n 0, 1) := by decide +kernel
theorem dX4_mark_24 : decode cX4_mark 24 = .ok (.getfield 25, 3) := by decide +kernel
theorem dX4_mark_27 : decode cX4_mark 27 = .ok (.aload_n 0, 1) := by decide +kernel
theorem dX4_mark_28 : decode cX4_mark 28 = .ok (.getfield 12, 3) := by decide +kernel
theorem dX4_mark_31 : decode cX4_mark 31 = .ok (.invokevirtual 112, 3) := by decide +kernel
theorem dX4_mark_34 : decode cX4_mark 34 = .ok (.aload_n 0, 1) := by decide +kernel
theorem dX4_mark_35 : decode cX4_mark 35 = .ok (.getfield 25, 3) := by decide +kernel
theorem dX4_mark_38 : decode cX4_mark 38 = .ok (.aload_n 0, 1) := by decide +kernel
theorem dX4_mark_39 : decode cX4_mark 39 = .ok (.getfield 12, 3) := by decide +kernel
theorem dX4_mark_42 : decode cX4_mark 42 = .ok (.getfield 153, 3) := by decide +kernel
theorem dX4_mark_45 : decode cX4_mark 45 = .ok (.iload_n 1, 1) := by decide +kernel
theorem dX4_mark_46 : decode cX4_mark 46 = .ok (.iaload, 1) := by decide +kernel
theorem dX4_mark_47 : decode cX4_mark 47 = .ok (.aload_n 0, 1) := by decide +kernel
theorem dX4_mark_48 : decode cX4_mark 48 = .ok (.getfield 12, 3) := by decide +kernel
theorem dX4_mark_51 : decode cX4_mark 51 = .ok (.getfield 156, 3) := by decide +kernel
theorem dX4_mark_54 : decode cX4_mark 54 = .ok (.iload_n 1, 1) := by decide +kernel
theorem dX4_mark_55 : decode cX4_mark 55 = .ok (.iaload, 1) := by decide +kernel
theorem dX4_mark_56 : decode cX4_mark 56 = .ok (.iload_n 2, 1) := by decide +kernel
theorem dX4_mark_57 : decode cX4_mark 57 = .ok (.invokevirtual 159, 3) := by decide +kernel
theorem dX4_mark_60 : decode cX4_mark 60 = .ok (.ireturn, 1) := by decide +kernel
end
section
theorem dX4_place_0 : decode cX4_place 0 = .ok (.aload_n 0, 1) := by decide +kernel
theorem dX4_place_1 : decode cX4_place 1 = .ok (.iload_n 1, 1) := by decide +kernel
theorem dX4_place_2 : decode cX4_place 2 = .ok (.invokevirtual 150, 3) := by decide +kernel
theorem dX4_place_5 : decode cX4_place 5 = .ok (.ifCond .eq 11, 3) := by decide +kernel
theorem dX4_place_8 : decode cX4_place 8 = .ok (.aload_n 0, 1) := by decide +kernel
theorem dX4_place_9 : decode cX4_place 9 = .ok (.iload_n 2, 1) := by decide +kernel
theorem dX4_place_10 : decode cX4_place 10 = .ok (.invokevirtual 88, 3) := by decide +kernel
theorem dX4_place_13 : decode cX4_place 13 = .ok (.ifCond .ne 10, 3) := by decide +kernel
theorem dX4_place_16 : decode cX4_place 16 = .ok (.aload_n 0, 1) := by decide +kernel
theorem dX4_place_17 : decode cX4_place 17 = .ok (.ldc 65, 2) := by decide +kernel
theorem dX4_place_19 : decode cX4_place 19 = .ok (.invokevirtual 66, 3) := by decide +kernel
theorem dX4_place_22 : decode cX4_place 22 = .ok (.ireturn, 1) := by decide +kernel
theorem dX4_place_23 : decode cX4_place 23 = .ok (.aload_n 0, 1) := by decide +kernel
theorem dX4_place_24 : decode cX4_place 24 = .ok (.iload_n 1, 1) := by decide +kernel
theorem dX4_place_25 : decode cX4_place 25 = .ok (.invokevirtual 162, 3) := by decide +kernel
theorem dX4_place_28 : decode cX4_place 28 = .ok (.iconst 1, 1) := by decide +kernel
theorem dX4_place_29 : decode cX4_place 29 = .ok (.aload_n 0, 1) := by decide +kernel
theorem dX4_place_30 : decode cX4_place 30 = .ok (.aload_n 0, 1) := by decide +kernel
theorem dX4_place_31 : decode cX4_place 31 = .ok (.getfield 42, 3) := by decide +kernel
theorem dX4_place_34 : decode cX4_place 34 = .ok (.iload_n 2, 1) := by decide +kernel
theorem dX4_place_35 : decode cX4_place 35 = .ok (.iaload, 1) := by decide +kernel
theorem dX4_place_36 : decode cX4_place 36 = .ok (.iconst 1, 1) := by decide +kernel
theorem dX4_place_37 : decode cX4_place 37 = .ok (.iadd, 1) := by decide +kernel
theorem dX4_place_38 : decode cX4_place 38 = .ok (.invokevirtual 166, 3) := by decide +kernel
theorem dX4_place_41 : decode cX4_place 41 = .ok (.iadd, 1) := by decide +kernel
theorem dX4_place_42 : decode cX4_place 42 = .ok (.ireturn, 1) := by decide +kernel
theorem dX4_sum_0 : decode cX4_sum 0 = .ok (.aload_n 0, 1) := by decide +kernel
theorem dX4_sum_1 : decode cX4_sum 1 = .ok (.iload_n 1, 1) := by decide +kernel
theorem dX4_sum_2 : decode cX4_sum 2 = .ok (.invokevirtual 150, 3) := by decide +kernel
theorem dX4_sum_5 : decode cX4_sum 5 = .ok (.ifCond .eq 12, 3) := by decide +kernel
theorem dX4_sum_8 : decode cX4_sum 8 = .ok (.iload_n 2, 1) := by decide +kernel
theorem dX4_sum_9 : decode cX4_sum 9 = .ok (.iconst (-1), 1) := by decide +kernel
theorem dX4_sum_10 : decode cX4_sum 10 = .ok (.iconst 3, 1) := by decide +kernel
theorem dX4_sum_11 : decode cX4_sum 11 = .ok (.invokestatic 61, 3) := by decide +kernel
theorem dX4_sum_14 : decode cX4_sum 14 = .ok (.ifCond .ne 10, 3) := by decide +kernel
theorem dX4_sum_17 : decode cX4_sum 17 = .ok (.aload_n 0, 1) := by decide +kernel
theorem dX4_sum_18 : decode cX4_sum 18 = .ok (.ldc 65, 2) := by decide +kernel
theorem dX4_sum_20 : decode cX4_sum 20 = .ok (.invokevirtual 66, 3) := by decide +kernel
theorem dX4_sum_23 : decode cX4_sum 23 = .ok (.ireturn, 1) := by decide +kernel
theorem dX4_sum_24 : decode cX4_sum 24 = .ok (.aload_n 0, 1) := by decide +kernel
theorem dX4_sum_25 : decode cX4_sum 25 = .ok (.iload_n 1, 1) := by decide +kernel
theorem dX4_sum_26 : decode cX4_sum 26 = .ok (.invokevirtual 162, 3) := by decide +kernel
theorem dX4_sum_29 : decode cX4_sum 29 = .ok (.iconst 0, 1) := by decide +kernel
theorem dX4_sum_30 : decode cX4_sum 30 = .ok (.istore_n 3, 1) := by decide +kernel
theorem dX4_sum_31 : decode cX4_sum 31 = .ok (.iconst 0, 1) := by decide +kernel
theorem dX4_sum_32 : decode cX4_sum 32 = .ok (.istore 4, 2) := by decide +kernel
theorem dX4_sum_34 : decode cX4_sum 34 = .ok (.iload 4, 2) := by decide +kernel
theorem dX4_sum_36 : decode cX4_sum 36 = .ok (.aload_n 0, 1) := by decide +kernel
theorem dX4_sum_37 : decode cX4_sum 37 = .ok (.getfield 12, 3) := by decide +kernel
theorem dX4_sum_40 : decode cX4_sum 40 = .ok (.getfield 80, 3) := by decide +kernel
theorem dX4_sum_43 : decode cX4_sum 43 = .ok (.if_icmp .ge 38, 3) := by decide +kernel
theorem dX4_sum_46 : decode cX4_sum 46 = .ok (.iload_n 2, 1) := by decide +kernel
theorem dX4_sum_47 : decode cX4_sum 47 = .ok (.iconst (-1), 1) := by decide +kernel
theorem dX4_sum_48 : decode cX4_sum 48 = .ok (.if_icmp .eq 17, 3) := by decide +kernel
theorem dX4_sum_51 : decode cX4_sum 51 = .ok (.aload_n 0, 1) := by decide +kernel
theorem dX4_sum_52 : decode cX4_sum 52 = .ok (.getfield 12, 3) := by decide +kernel
theorem dX4_sum_55 : decode cX4_sum 55 = .ok (.getfield 101, 3) := by decide +kernel
theorem dX4_sum_58 : decode cX4_sum 58 = .ok (.iload 4, 2) := by decide +kernel
theorem dX4_sum_60 : decode cX4_sum 60 = .ok (.iaload, 1) := by decide +kernel
theorem dX4_sum_61 : decode cX4_sum 61 = .ok (.iload_n 2, 1) := by decide +kernel
theorem dX4_sum_62 : decode cX4_sum 62 = .ok (.if_icmp .ne 13, 3) := by decide +kernel
theorem dX4_sum_65 : decode cX4_sum 65 = .ok (.iload_n 3, 1) := by decide +kernel
theorem dX4_sum_66 : decode cX4_sum 66 = .ok (.aload_n 0, 1) := by decide +kernel
theorem dX4_sum_67 : decode cX4_sum 67 = .ok (.getfield 42, 3) := by decide +kernel
theorem dX4_sum_70 : decode cX4_sum 70 = .ok (.iload 4, 2) := by decide +kernel
theorem dX4_sum_72 : decode cX4_sum 72 = .ok (.iaload, 1) := by decide +kernel
theorem dX4_sum_73 : decode cX4_sum 73 = .ok (.iadd, 1) := by decide +kernel
theorem dX4_sum_74 : decode cX4_sum 74 = .ok (.istore_n 3, 1) := by decide +kernel
theorem dX4_sum_75 : decode cX4_sum 75 = .ok (.iinc 4 1, 3) := by decide +kernel
theorem dX4_sum_78 : decode cX4_sum 78 = .ok (.goto (-44), 3) := by decide +kernel
theorem dX4_sum_81 : decode cX4_sum 81 = .ok (.iload_n 3, 1) := by decide +kernel
theorem dX4_sum_82 : decode cX4_sum 82 = .ok (.ireturn, 1) := by decide +kernel
theorem dX4_middle_0 : decode cX4_middle 0 = .ok (.aload_n 0, 1) := by decide +kernel
theorem dX4_middle_1 : decode cX4_middle 1 = .ok (.iload_n 1, 1) := by decide +kernel
theorem dX4_middle_2 : decode cX4_middle 2 = .ok (.invokevirtual 150, 3) := by decide +kernel
theorem dX4_middle_5 : decode cX4_middle 5 = .ok (.ifCond .ne 10, 3) := by decide +kernel
theorem dX4_middle_8 : decode cX4_middle 8 = .ok (.aload_n 0, 1) := by decide +kernel
theorem dX4_middle_9 : decode cX4_middle 9 = .ok (.ldc 65, 2) := by decide +kernel
theorem dX4_middle_11 : decode cX4_middle 11 = .ok (.invokevirtual 66, 3) := by decide +kernel
theorem dX4_middle_14 : decode cX4_middle 14 = .ok (.ireturn, 1) := by decide +kernel
theorem dX4_middle_15 : decode cX4_middle 15 = .ok (.aload_n 0, 1) := by decide +kernel
theorem dX4_middle_16 : decode cX4_middle 16 = .ok (.getfield 12, 3) := by decide +kernel
theorem dX4_middle_19 : decode cX4_middle 19 = .ok (.getfield 80, 3) := by decide +kernel
theorem dX4_middle_22 : decode cX4_middle 22 = .ok (.ifCond .ne 10, 3) := by decide +kernel
theorem dX4_middle_25 : decode cX4_middle 25 = .ok (.aload_n 0, 1) := by decide +kernel
theorem dX4_middle_26 : decode cX4_middle 26 = .ok (.ldc 111, 2) := by decide +kernel
theorem dX4_middle_28 : decode cX4_middle 28 = .ok (.invokevirtual 66, 3) := by decide +kernel
theorem dX4_middle_31 : decode cX4_middle 31 = .ok (.ireturn, 1) := by decide +kernel
theorem dX4_middle_32 : decode cX4_middle 32 = .ok (.aload_n 0, 1) := by decide +kernel
theorem dX4_middle_33 : decode cX4_middle 33 = .ok (.iload_n 1, 1) := by decide +kernel
theorem dX4_middle_34 : decode cX4_middle 34 = .ok (.invokevirtual 162, 3) := by decide +kernel
theorem dX4_middle_37 : decode cX4_middle 37 = .ok (.aload_n 0, 1) := by decide +kernel
theorem dX4_middle_38 : decode cX4_middle 38 = .ok (.aload_n 0, 1) := by decide +kernel
theorem dX4_middle_39 : decode cX4_middle 39 = .ok (.getfield 12, 3) := by decide +kernel
theorem dX4_middle_42 : decode cX4_middle 42 = .ok (.getfield 80, 3) := by decide +kernel
theorem dX4_middle_45 : decode cX4_middle 45 = .ok (.aload_n 0, 1) := by decide +kernel
theorem dX4_middle_46 : decode cX4_middle 46 = .ok (.getfield 12, 3) := by decide +kernel
theorem dX4_middle_49 : decode cX4_middle 49 = .ok (.getfield 80, 3) := by decide +kernel
theorem dX4_middle_52 : decode cX4_middle 52 = .ok (.iconst 1, 1) := by decide +kernel
theorem dX4_middle_53 : decode cX4_middle 53 = .ok (.isub, 1) := by decide +kernel
theorem dX4_middle_54 : decode cX4_middle 54 = .ok (.iconst 2, 1) := by decide +kernel
theorem dX4_middle_55 : decode cX4_middle 55 = .ok (.idiv, 1) := by decide +kernel
theorem dX4_middle_56 : decode cX4_middle 56 = .ok (.isub, 1) := by decide +kernel
theorem dX4_middle_57 : decode cX4_middle 57 = .ok (.invokevirtual 169, 3) := by decide +kernel
theorem dX4_middle_60 : decode cX4_middle 60 = .ok (.ireturn, 1) := by decide +kernel
theorem dX4_keeps_0 : decode cX4_keeps 0 = .ok (.aload_n 0, 1) := by decide +kernel
theorem dX4_keeps_1 : decode cX4_keeps 1 = .ok (.iload_n 1, 1) := by decide +kernel
theorem dX4_keeps_2 : decode cX4_keeps 2 = .ok (.invokevirtual 150, 3) := by decide +kernel
theorem dX4_keeps_5 : decode cX4_keeps 5 = .ok (.ifCond .ne 10, 3) := by decide +kernel
theorem dX4_keeps_8 : decode cX4_keeps 8 = .ok (.aload_n 0, 1) := by decide +kernel
theorem dX4_keeps_9 : decode cX4_keeps 9 = .ok (.ldc 65, 2) := by decide +kernel
theorem dX4_keeps_11 : decode cX4_keeps 11 = .ok (.invokevirtual 66, 3) := by decide +kernel
theorem dX4_keeps_14 : decode cX4_keeps 14 = .ok (.ireturn, 1) := by decide +kernel
theorem dX4_keeps_15 : decode cX4_keeps 15 = .ok (.aload_n 0, 1) := by decide +kernel
theorem dX4_keeps_16 : decode cX4_keeps 16 = .ok (.iload_n 1, 1) := by decide +kernel
theorem dX4_keeps_17 : decode cX4_keeps 17 = .ok (.invokevirtual 172, 3) := by decide +kernel
theorem dX4_keeps_20 : decode cX4_keeps 20 = .ok (.ifCond .ge 7, 3) := by decide +kernel
theorem dX4_keeps_23 : decode cX4_keeps 23 = .ok (.iconst 1, 1) := by decide +kernel
theorem dX4_keeps_24 : decode cX4_keeps 24 = .ok (.goto 4, 3) := by decide +kernel
theorem dX4_keeps_27 : decode cX4_keeps 27 = .ok (.iconst 0, 1) := by decide +kernel
theorem dX4_keeps_28 : decode cX4_keeps 28 = .ok (.ireturn, 1) := by decide +kernel
theorem dX4_breaks_0 : decode cX4_breaks 0 = .ok (.aload_n 0, 1) := by decide +kernel
theorem dX4_breaks_1 : decode cX4_breaks 1 = .ok (.iload_n 1, 1) := by decide +kernel
theorem dX4_breaks_2 : decode cX4_breaks 2 = .ok (.invokevirtual 150, 3) := by decide +kernel
theorem dX4_breaks_5 : decode cX4_breaks 5 = .ok (.ifCond .ne 10, 3) := by decide +kernel
theorem dX4_breaks_8 : decode cX4_breaks 8 = .ok (.aload_n 0, 1) := by decide +kernel
theorem dX4_breaks_9 : decode cX4_breaks 9 = .ok (.ldc 65, 2) := by decide +kernel
theorem dX4_breaks_11 : decode cX4_breaks 11 = .ok (.invokevirtual 66, 3) := by decide +kernel
theorem dX4_breaks_14 : decode cX4_breaks 14 = .ok (.ireturn, 1) := by decide +kernel
theorem dX4_breaks_15 : decode cX4_breaks 15 = .ok (.aload_n 0, 1) := by decide +kernel
theorem dX4_breaks_16 : decode cX4_breaks 16 = .ok (.iload_n 1, 1) := by decide +kernel
theorem dX4_breaks_17 : decode cX4_breaks 17 = .ok (.invokevirtual 172, 3) := by decide +kernel
theorem dX4_breaks_20 : decode cX4_breaks 20 = .ok (.istore_n 2, 1) := by decide +kernel
theorem dX4_breaks_21 : decode cX4_breaks 21 = .ok (.iload_n 2, 1) := by decide +kernel
theorem dX4_breaks_22 : decode cX4_breaks 22 = .ok (.ifCond .ge 12, 3) := by decide +kernel
theorem dX4_breaks_25 : decode cX4_breaks 25 = .ok (.aload_n 0, 1) := by decide +kernel
theorem dX4_breaks_26 : decode cX4_breaks 26 = .ok (.ldc 111, 2) := by decide +kernel
theorem dX4_breaks_28 : decode cX4_breaks 28 = .ok (.invokevirtual 66, 3) := by decide +kernel
theorem dX4_breaks_31 : decode cX4_breaks 31 = .ok (.goto 4, 3) := by decide +kernel
theorem dX4_breaks_34 : decode cX4_breaks 34 = .ok (.iload_n 2, 1) := by decide +kernel
theorem dX4_breaks_35 : decode cX4_breaks 35 = .ok (.ireturn, 1) := by decide +kernel
theorem dX4_heaped_0 : decode cX4_heaped 0 = .ok (.aload_n 0, 1) := by decide +kernel
theorem dX4_heaped_1 : decode cX4_heaped 1 = .ok (.iload_n 1, 1) := by decide +kernel
theorem dX4_heaped_2 : decode cX4_heaped 2 = .ok (.invokevirtual 150, 3) := by decide +kernel
theorem dX4_heaped_5 : decode cX4_heaped 5 = .ok (.ifCond .ne 10, 3) := by decide +kernel
theorem dX4_heaped_8 : decode cX4_heaped 8 = .ok (.aload_n 0, 1) := by decide +kernel
theorem dX4_heaped_9 : decode cX4_heaped 9 = .ok (.ldc 65, 2) := by decide +kernel
theorem dX4_heaped_11 : decode cX4_heaped 11 = .ok (.invokevirtual 66, 3) := by decide +kernel
theorem dX4_heaped_14 : decode cX4_heaped 14 = .ok (.ireturn, 1) := by decide +kernel
theorem dX4_heaped_15 : decode cX4_heaped 15 = .ok (.aload_n 0, 1) := by decide +kernel
theorem dX4_heaped_16 : decode cX4_heaped 16 = .ok (.iload_n 1, 1) := by decide +kernel
theorem dX4_heaped_17 : decode cX4_heaped 17 = .ok (.invokevirtual 162, 3) := by decide +kernel
theorem dX4_heaped_20 : decode cX4_heaped 20 = .ok (.iconst 0, 1) := by decide +kernel
theorem dX4_heaped_21 : decode cX4_heaped 21 = .ok (.istore_n 2, 1) := by decide +kernel
theorem dX4_heaped_22 : decode cX4_heaped 22 = .ok (.iconst 0, 1) := by decide +kernel
theorem dX4_heaped_23 : decode cX4_heaped 23 = .ok (.istore_n 3, 1) := by decide +kernel
theorem dX4_heaped_24 : decode cX4_heaped 24 = .ok (.iload_n 3, 1) := by decide +kernel
theorem dX4_heaped_25 : decode cX4_heaped 25 = .ok (.aload_n 0, 1) := by decide +kernel
theorem dX4_heaped_26 : decode cX4_heaped 26 = .ok (.getfield 12, 3) := by decide +kernel
theorem dX4_heaped_29 : decode cX4_heaped 29 = .ok (.getfield 80, 3) := by decide +kernel
theorem dX4_heaped_32 : decode cX4_heaped 32 = .ok (.if_icmp .ge 73, 3) := by decide +kernel
theorem dX4_heaped_35 : decode cX4_heaped 35 = .ok (.iload_n 3, 1) := by decide +kernel
theorem dX4_heaped_36 : decode cX4_heaped 36 = .ok (.iconst 1, 1) := by decide +kernel
theorem dX4_heaped_37 : decode cX4_heaped 37 = .ok (.iadd, 1) := by decide +kernel
theorem dX4_heaped_38 : decode cX4_heaped 38 = .ok (.istore 4, 2) := by decide +kernel
theorem dX4_heaped_40 : decode cX4_heaped 40 = .ok (.iload 4, 2) := by decide +kernel
theorem dX4_heaped_42 : decode cX4_heaped 42 = .ok (.aload_n 0, 1) := by decide +kernel
theorem dX4_heaped_43 : decode cX4_heaped 43 = .ok (.getfield 12, 3) := by decide +kernel
theorem dX4_heaped_46 : decode cX4_heaped 46 = .ok (.getfield 80, 3) := by decide +kernel
theorem dX4_heaped_49 : decode cX4_heaped 49 = .ok (.if_icmp .ge 50, 3) := by decide +kernel
theorem dX4_heaped_52 : decode cX4_heaped 52 = .ok (.aload_n 0, 1) := by decide +kernel
theorem dX4_heaped_53 : decode cX4_heaped 53 = .ok (.getfield 25, 3) := by decide +kernel
theorem dX4_heaped_56 : decode cX4_heaped 56 = .ok (.getfield 175, 3) := by decide +kernel
theorem dX4_heaped_59 : decode cX4_heaped 59 = .ok (.iload_n 3, 1) := by decide +kernel
theorem dX4_heaped_60 : decode cX4_heaped 60 = .ok (.iaload, 1) := by decide +kernel
theorem dX4_heaped_61 : decode cX4_heaped 61 = .ok (.aload_n 0, 1) := by decide +kernel
theorem dX4_heaped_62 : decode cX4_heaped 62 = .ok (.getfield 25, 3) := by decide +kernel
theorem dX4_heaped_65 : decode cX4_heaped 65 = .ok (.getfield 175, 3) := by decide +kernel
theorem dX4_heaped_68 : decode cX4_heaped 68 = .ok (.iload 4, 2) := by decide +kernel
theorem dX4_heaped_70 : decode cX4_heaped 70 = .ok (.iaload, 1) := by decide +kernel
theorem dX4_heaped_71 : decode cX4_heaped 71 = .ok (.if_icmp .eq 22, 3) := by decide +kernel
theorem dX4_heaped_74 : decode cX4_heaped 74 = .ok (.aload_n 0, 1) := by decide +kernel
theorem dX4_heaped_75 : decode cX4_heaped 75 = .ok (.getfield 42, 3) := by decide +kernel
theorem dX4_heaped_78 : decode cX4_heaped 78 = .ok (.iload_n 3, 1) := by decide +kernel
theorem dX4_heaped_79 : decode cX4_heaped 79 = .ok (.iaload, 1) := by decide +kernel
theorem dX4_heaped_80 : decode cX4_heaped 80 = .ok (.aload_n 0, 1) := by decide +kernel
theorem dX4_heaped_81 : decode cX4_heaped 81 = .ok (.getfield 42, 3) := by decide +kernel
theorem dX4_heaped_84 : decode cX4_heaped 84 = .ok (.iload 4, 2) := by decide +kernel
theorem dX4_heaped_86 : decode cX4_heaped 86 = .ok (.iaload, 1) := by decide +kernel
theorem dX4_heaped_87 : decode cX4_heaped 87 = .ok (.if_icmp .ne 6, 3) := by decide +kernel
theorem dX4_heaped_90 : decode cX4_heaped 90 = .ok (.iinc 2 1, 3) := by decide +kernel
theorem dX4_heaped_93 : decode cX4_heaped 93 = .ok (.iinc 4 1, 3) := by decide +kernel
theorem dX4_heaped_96 : decode cX4_heaped 96 = .ok (.goto (-56), 3) := by decide +kernel
theorem dX4_heaped_99 : decode cX4_heaped 99 = .ok (.iinc 3 1, 3) := by decide +kernel
theorem dX4_heaped_102 : decode cX4_heaped 102 = .ok (.goto (-78), 3) := by decide +kernel
theorem dX4_heaped_105 : decode cX4_heaped 105 = .ok (.iload_n 2, 1) := by decide +kernel
theorem dX4_heaped_106 : decode cX4_heaped 106 = .ok (.ireturn, 1) := by decide +kernel
theorem dX4_gains_0 : decode cX4_gains 0 = .ok (.aload_n 0, 1) := by decide +kernel
theorem dX4_gains_1 : decode cX4_gains 1 = .ok (.iload_n 1, 1) := by decide +kernel
theorem dX4_gains_2 : decode cX4_gains 2 = .ok (.invokevirtual 150, 3) := by decide +kernel
theorem dX4_gains_5 : decode cX4_gains 5 = .ok (.ifCond .ne 10, 3) := by decide +kernel
theorem dX4_gains_8 : decode cX4_gains 8 = .ok (.aload_n 0, 1) := by decide +kernel
theorem dX4_gains_9 : decode cX4_gains 9 = .ok (.ldc 65, 2) := by decide +kernel
theorem dX4_gains_11 : decode cX4_gains 11 = .ok (.invokevirtual 66, 3) := by decide +kernel
theorem dX4_gains_14 : decode cX4_gains 14 = .ok (.ireturn, 1) := by decide +kernel
theorem dX4_gains_15 : decode cX4_gains 15 = .ok (.aload_n 0, 1) := by decide +kernel
theorem dX4_gains_16 : decode cX4_gains 16 = .ok (.getfield 25, 3) := by decide +kernel
theorem dX4_gains_19 : decode cX4_gains 19 = .ok (.aload_n 0, 1) := by decide +kernel
theorem dX4_gains_20 : decode cX4_gains 20 = .ok (.getfield 12, 3) := by decide +kernel
theorem dX4_gains_23 : decode cX4_gains 23 = .ok (.invokevirtual 112, 3) := by decide +kernel
theorem dX4_gains_26 : decode cX4_gains 26 = .ok (.iconst 0, 1) := by decide +kernel
theorem dX4_gains_27 : decode cX4_gains 27 = .ok (.istore_n 2, 1) := by decide +kernel
theorem dX4_gains_28 : decode cX4_gains 28 = .ok (.iconst 0, 1) := by decide +kernel
theorem dX4_gains_29 : decode cX4_gains 29 = .ok (.istore_n 3, 1) := by decide +kernel
theorem dX4_gains_30 : decode cX4_gains 30 = .ok (.iload_n 3, 1) := by decide +kernel
theorem dX4_gains_31 : decode cX4_gains 31 = .ok (.aload_n 0, 1) := by decide +kernel
theorem dX4_gains_32 : decode cX4_gains 32 = .ok (.getfield 12, 3) := by decide +kernel
theorem dX4_gains_35 : decode cX4_gains 35 = .ok (.getfield 80, 3) := by decide +kernel
theorem dX4_gains_38 : decode cX4_gains 38 = .ok (.if_icmp .ge 24, 3) := by decide +kernel
theorem dX4_gains_41 : decode cX4_gains 41 = .ok (.aload_n 0, 1) := by decide +kernel
theorem dX4_gains_42 : decode cX4_gains 42 = .ok (.iload_n 1, 1) := by decide +kernel
theorem dX4_gains_43 : decode cX4_gains 43 = .ok (.iload_n 3, 1) := by decide +kernel
theorem dX4_gains_44 : decode cX4_gains 44 = .ok (.invokevirtual 178, 3) := by decide +kernel
theorem dX4_gains_47 : decode cX4_gains 47 = .ok (.ifCond .lt 9, 3) := by decide +kernel
theorem dX4_gains_50 : decode cX4_gains 50 = .ok (.iload_n 2, 1) := by decide +kernel
theorem dX4_gains_51 : decode cX4_gains 51 = .ok (.iconst 1, 1) := by decide +kernel
theorem dX4_gains_52 : decode cX4_gains 52 = .ok (.iload_n 3, 1) := by decide +kernel
theorem dX4_gains_53 : decode cX4_gains 53 = .ok (.ishl, 1) := by decide +kernel
theorem dX4_gains_54 : decode cX4_gains 54 = .ok (.ior, 1) := by decide +kernel
theorem dX4_gains_55 : decode cX4_gains 55 = .ok (.istore_n 2, 1) := by decide +kernel
theorem dX4_gains_56 : decode cX4_gains 56 = .ok (.iinc 3 1, 3) := by decide +kernel
theorem dX4_gains_59 : decode cX4_gains 59 = .ok (.goto (-29), 3) := by decide +kernel
theorem dX4_gains_62 : decode cX4_gains 62 = .ok (.iload_n 2, 1) := by decide +kernel
theorem dX4_gains_63 : decode cX4_gains 63 = .ok (.ireturn, 1) := by decide +kernel
theorem dX4_gainsBy_0 : decode cX4_gainsBy 0 = .ok (.aload_n 0, 1) := by decide +kernel
theorem dX4_gainsBy_1 : decode cX4_gainsBy 1 = .ok (.iload_n 1, 1) := by decide +kernel
theorem dX4_gainsBy_2 : decode cX4_gainsBy 2 = .ok (.invokevirtual 150, 3) := by decide +kernel
theorem dX4_gainsBy_5 : decode cX4_gainsBy 5 = .ok (.ifCond .eq 11, 3) := by decide +kernel
theorem dX4_gainsBy_8 : decode cX4_gainsBy 8 = .ok (.aload_n 0, 1) := by decide +kernel
theorem dX4_gainsBy_9 : decode cX4_gainsBy 9 = .ok (.iload_n 2, 1) := by decide +kernel
theorem dX4_gainsBy_10 : decode cX4_gainsBy 10 = .ok (.invokevirtual 88, 3) := by decide +kernel
theorem dX4_gainsBy_13 : decode cX4_gainsBy 13 = .ok (.ifCond .ne 10, 3) := by decide +kernel
theorem dX4_gainsBy_16 : decode cX4_gainsBy 16 = .ok (.aload_n 0, 1) := by decide +kernel
theorem dX4_gainsBy_17 : decode cX4_gainsBy 17 = .ok (.ldc 65, 2) := by decide +kernel
theorem dX4_gainsBy_19 : decode cX4_gainsBy 19 = .ok (.invokevirtual 66, 3) := by decide +kernel
theorem dX4_gainsBy_22 : decode cX4_gainsBy 22 = .ok (.ireturn, 1) := by decide +kernel
theorem dX4_gainsBy_23 : decode cX4_gainsBy 23 = .ok (.aload_n 0, 1) := by decide +kernel
theorem dX4_gainsBy_24 : decode cX4_gainsBy 24 = .ok (.getfield 25, 3) := by decide +kernel
theorem dX4_gainsBy_27 : decode cX4_gainsBy 27 = .ok (.aload_n 0, 1) := by decide +kernel
theorem dX4_gainsBy_28 : decode cX4_gainsBy 28 = .ok (.getfield 12, 3) := by decide +kernel
theorem dX4_gainsBy_31 : decode cX4_gainsBy 31 = .ok (.invokevirtual 112, 3) := by decide +kernel
theorem dX4_gainsBy_34 : decode cX4_gainsBy 34 = .ok (.aload_n 0, 1) := by decide +kernel
theorem dX4_gainsBy_35 : decode cX4_gainsBy 35 = .ok (.iload_n 1, 1) := by decide +kernel
theorem dX4_gainsBy_36 : decode cX4_gainsBy 36 = .ok (.iload_n 2, 1) := by decide +kernel
theorem dX4_gainsBy_37 : decode cX4_gainsBy 37 = .ok (.invokevirtual 178, 3) := by decide +kernel
theorem dX4_gainsBy_40 : decode cX4_gainsBy 40 = .ok (.istore_n 3, 1) := by decide +kernel
theorem dX4_gainsBy_41 : decode cX4_gainsBy 41 = .ok (.iload_n 3, 1) := by decide +kernel
theorem dX4_gainsBy_42 : decode cX4_gainsBy 42 = .ok (.ifCond .ge 12, 3) := by decide +kernel
theorem dX4_gainsBy_45 : decode cX4_gainsBy 45 = .ok (.aload_n 0, 1) := by decide +kernel
theorem dX4_gainsBy_46 : decode cX4_gainsBy 46 = .ok (.ldc 111, 2) := by decide +kernel
theorem dX4_gainsBy_48 : decode cX4_gainsBy 48 = .ok (.invokevirtual 66, 3) := by decide +kernel
theorem dX4_gainsBy_51 : decode cX4_gainsBy 51 = .ok (.goto 4, 3) := by decide +kernel
theorem dX4_gainsBy_54 : decode cX4_gainsBy 54 = .ok (.iload_n 3, 1) := by decide +kernel
theorem dX4_gainsBy_55 : decode cX4_gainsBy 55 = .ok (.ireturn, 1) := by decide +kernel
theorem dX4_moves_0 : decode cX4_moves 0 = .ok (.aload_n 0, 1) := by decide +kernel
theorem dX4_moves_1 : decode cX4_moves 1 = .ok (.iload_n 1, 1) := by decide +kernel
theorem dX4_moves_2 : decode cX4_moves 2 = .ok (.invokevirtual 150, 3) := by decide +kernel
theorem dX4_moves_5 : decode cX4_moves 5 = .ok (.ifCond .eq 13, 3) := by decide +kernel
theorem dX4_moves_8 : decode cX4_moves 8 = .ok (.iload_n 2, 1) := by decide +kernel
theorem dX4_moves_9 : decode cX4_moves 9 = .ok (.iconst 0, 1) := by decide +kernel
theorem dX4_moves_10 : decode cX4_moves 10 = .ok (.bipush 40, 2) := by decide +kernel
theorem dX4_moves_12 : decode cX4_moves 12 = .ok (.invokestatic 61, 3) := by decide +kernel
theorem dX4_moves_15 : decode cX4_moves 15 = .ok (.ifCond .ne 10, 3) := by decide +kernel
theorem dX4_moves_18 : decode cX4_moves 18 = .ok (.aload_n 0, 1) := by decide +kernel
theorem dX4_moves_19 : decode cX4_moves 19 = .ok (.ldc 65, 2) := by decide +kernel
theorem dX4_moves_21 : decode cX4_moves 21 = .ok (.invokevirtual 66, 3) := by decide +kernel
theorem dX4_moves_24 : decode cX4_moves 24 = .ok (.ireturn, 1) := by decide +kernel
theorem dX4_moves_25 : decode cX4_moves 25 = .ok (.aload_n 0, 1) := by decide +kernel
theorem dX4_moves_26 : decode cX4_moves 26 = .ok (.getfield 12, 3) := by decide +kernel
theorem dX4_moves_29 : decode cX4_moves 29 = .ok (.getfield 80, 3) := by decide +kernel
theorem dX4_moves_32 : decode cX4_moves 32 = .ok (.bipush 12, 2) := by decide +kernel
theorem dX4_moves_34 : decode cX4_moves 34 = .ok (.if_icmp .lt 10, 3) := by decide +kernel
theorem dX4_moves_37 : decode cX4_moves 37 = .ok (.aload_n 0, 1) := by decide +kernel
theorem dX4_moves_38 : decode cX4_moves 38 = .ok (.ldc 181, 2) := by decide +kernel
theorem dX4_moves_40 : decode cX4_moves 40 = .ok (.invokevirtual 66, 3) := by decide +kernel
theorem dX4_moves_43 : decode cX4_moves 43 = .ok (.ireturn, 1) := by decide +kernel
theorem dX4_moves_44 : decode cX4_moves 44 = .ok (.aload_n 0, 1) := by decide +kernel
theorem dX4_moves_45 : decode cX4_moves 45 = .ok (.iload_n 1, 1) := by decide +kernel
theorem dX4_moves_46 : decode cX4_moves 46 = .ok (.invokevirtual 162, 3) := by decide +kernel
theorem dX4_moves_49 : decode cX4_moves 49 = .ok (.aload_n 0, 1) := by decide +kernel
theorem dX4_moves_50 : decode cX4_moves 50 = .ok (.getfield 25, 3) := by decide +kernel
theorem dX4_moves_53 : decode cX4_moves 53 = .ok (.iload_n 2, 1) := by decide +kernel
theorem dX4_moves_54 : decode cX4_moves 54 = .ok (.invokevirtual 182, 3) := by decide +kernel
theorem dX4_moves_57 : decode cX4_moves 57 = .ok (.aload_n 0, 1) := by decide +kernel
theorem dX4_moves_58 : decode cX4_moves 58 = .ok (.getfield 25, 3) := by decide +kernel
theorem dX4_moves_61 : decode cX4_moves 61 = .ok (.aload_n 0, 1) := by decide +kernel
theorem dX4_moves_62 : decode cX4_moves 62 = .ok (.getfield 12, 3) := by decide +kernel
theorem dX4_moves_65 : decode cX4_moves 65 = .ok (.getfield 153, 3) := by decide +kernel
theorem dX4_moves_68 : decode cX4_moves 68 = .ok (.iload_n 1, 1) := by decide +kernel
theorem dX4_moves_69 : decode cX4_moves 69 = .ok (.iaload, 1) := by decide +kernel
theorem dX4_moves_70 : decode cX4_moves 70 = .ok (.aload_n 0, 1) := by decide +kernel
theorem dX4_moves_71 : decode cX4_moves 71 = .ok (.getfield 12, 3) := by decide +kernel
theorem dX4_moves_74 : decode cX4_moves 74 = .ok (.getfield 156, 3) := by decide +kernel
theorem dX4_moves_77 : decode cX4_moves 77 = .ok (.iload_n 1, 1) := by decide +kernel
theorem dX4_moves_78 : decode cX4_moves 78 = .ok (.iaload, 1) := by decide +kernel
theorem dX4_moves_79 : decode cX4_moves 79 = .ok (.aload_n 0, 1) := by decide +kernel
theorem dX4_moves_80 : decode cX4_moves 80 = .ok (.getfield 46, 3) := by decide +kernel
theorem dX4_moves_83 : decode cX4_moves 83 = .ok (.invokevirtual 185, 3) := by decide +kernel
theorem dX4_moves_86 : decode cX4_moves 86 = .ok (.iconst 0, 1) := by decide +kernel
theorem dX4_moves_87 : decode cX4_moves 87 = .ok (.istore_n 3, 1) := by decide +kernel
theorem dX4_moves_88 : decode cX4_moves 88 = .ok (.iconst 0, 1) := by decide +kernel
theorem dX4_moves_89 : decode cX4_moves 89 = .ok (.istore 4, 2) := by decide +kernel
theorem dX4_moves_91 : decode cX4_moves 91 = .ok (.iload 4, 2) := by decide +kernel
theorem dX4_moves_93 : decode cX4_moves 93 = .ok (.aload_n 0, 1) := by decide +kernel
theorem dX4_moves_94 : decode cX4_moves 94 = .ok (.getfield 12, 3) := by decide +kernel
theorem dX4_moves_97 : decode cX4_moves 97 = .ok (.getfield 80, 3) := by decide +kernel
theorem dX4_moves_100 : decode cX4_moves 100 = .ok (.if_icmp .ge 33, 3) := by decide +kernel
theorem dX4_moves_103 : decode cX4_moves 103 = .ok (.aload_n 0, 1) := by decide +kernel
theorem dX4_moves_104 : decode cX4_moves 104 = .ok (.getfield 46, 3) := by decide +kernel
theorem dX4_moves_107 : decode cX4_moves 107 = .ok (.iload 4, 2) := by decide +kernel
theorem dX4_moves_109 : decode cX4_moves 109 = .ok (.iaload, 1) := by decide +kernel
theorem dX4_moves_110 : decode cX4_moves 110 = .ok (.aload_n 0, 1) := by decide +kernel
theorem dX4_moves_111 : decode cX4_moves 111 = .ok (.getfield 42, 3) := by decide +kernel
theorem dX4_moves_114 : decode cX4_moves 114 = .ok (.iload 4, 2) := by decide +kernel
theorem dX4_moves_116 : decode cX4_moves 116 = .ok (.iaload, 1) := by decide +kernel
theorem dX4_moves_117 : decode cX4_moves 117 = .ok (.if_icmp .eq 10, 3) := by decide +kernel
theorem dX4_moves_120 : decode cX4_moves 120 = .ok (.iload_n 3, 1) := by decide +kernel
theorem dX4_moves_121 : decode cX4_moves 121 = .ok (.iconst 1, 1) := by decide +kernel
theorem dX4_moves_122 : decode cX4_moves 122 = .ok (.iload 4, 2) := by decide +kernel
theorem dX4_moves_124 : decode cX4_moves 124 = .ok (.ishl, 1) := by decide +kernel
theorem dX4_moves_125 : decode cX4_moves 125 = .ok (.ior, 1) := by decide +kernel
theorem dX4_moves_126 : decode cX4_moves 126 = .ok (.istore_n 3, 1) := by decide +kernel
theorem dX4_moves_127 : decode cX4_moves 127 = .ok (.iinc 4 1, 3) := by decide +kernel
theorem dX4_moves_130 : decode cX4_moves 130 = .ok (.goto (-39), 3) := by decide +kernel
theorem dX4_moves_133 : decode cX4_moves 133 = .ok (.iload_n 3, 1) := by decide +kernel
theorem dX4_moves_134 : decode cX4_moves 134 = .ok (.ireturn, 1) := by decide +kernel
theorem dX4_without_0 : decode cX4_without 0 = .ok (.aload_n 0, 1) := by decide +kernel
theorem dX4_without_1 : decode cX4_without 1 = .ok (.iload_n 1, 1) := by decide +kernel
theorem dX4_without_2 : decode cX4_without 2 = .ok (.invokevirtual 150, 3) := by decide +kernel
theorem dX4_without_5 : decode cX4_without 5 = .ok (.ifCond .eq 10, 3) := by decide +kernel
theorem dX4_without_8 : decode cX4_without 8 = .ok (.iload_n 2, 1) := by decide +kernel
theorem dX4_without_9 : decode cX4_without 9 = .ok (.invokestatic 57, 3) := by decide +kernel
theorem dX4_without_12 : decode cX4_without 12 = .ok (.ifCond .ne 10, 3) := by decide +kernel
theorem dX4_without_15 : decode cX4_without 15 = .ok (.aload_n 0, 1) := by decide +kernel
theorem dX4_without_16 : decode cX4_without 16 = .ok (.ldc 65, 2) := by decide +kernel
theorem dX4_without_18 : decode cX4_without 18 = .ok (.invokevirtual 66, 3) := by decide +kernel
theorem dX4_without_21 : decode cX4_without 21 = .ok (.ireturn, 1) := by decide +kernel
theorem dX4_without_22 : decode cX4_without 22 = .ok (.aload_n 0, 1) := by decide +kernel
theorem dX4_without_23 : decode cX4_without 23 = .ok (.iload_n 1, 1) := by decide +kernel
theorem dX4_without_24 : decode cX4_without 24 = .ok (.invokevirtual 162, 3) := by decide +kernel
theorem dX4_without_27 : decode cX4_without 27 = .ok (.aload_n 0, 1) := by decide +kernel
theorem dX4_without_28 : decode cX4_without 28 = .ok (.getfield 25, 3) := by decide +kernel
theorem dX4_without_31 : decode cX4_without 31 = .ok (.iload_n 2, 1) := by decide +kernel
theorem dX4_without_32 : decode cX4_without 32 = .ok (.invokevirtual 189, 3) := by decide +kernel
theorem dX4_without_35 : decode cX4_without 35 = .ok (.aload_n 0, 1) := by decide +kernel
theorem dX4_without_36 : decode cX4_without 36 = .ok (.getfield 25, 3) := by decide +kernel
theorem dX4_without_39 : decode cX4_without 39 = .ok (.aload_n 0, 1) := by decide +kernel
theorem dX4_without_40 : decode cX4_without 40 = .ok (.getfield 12, 3) := by decide +kernel
theorem dX4_without_43 : decode cX4_without 43 = .ok (.getfield 153, 3) := by decide +kernel
theorem dX4_without_46 : decode cX4_without 46 = .ok (.iload_n 1, 1) := by decide +kernel
theorem dX4_without_47 : decode cX4_without 47 = .ok (.iaload, 1) := by decide +kernel
theorem dX4_without_48 : decode cX4_without 48 = .ok (.aload_n 0, 1) := by decide +kernel
theorem dX4_without_49 : decode cX4_without 49 = .ok (.getfield 12, 3) := by decide +kernel
theorem dX4_without_52 : decode cX4_without 52 = .ok (.getfield 156, 3) := by decide +kernel
theorem dX4_without_55 : decode cX4_without 55 = .ok (.iload_n 1, 1) := by decide +kernel
theorem dX4_without_56 : decode cX4_without 56 = .ok (.iaload, 1) := by decide +kernel
theorem dX4_without_57 : decode cX4_without 57 = .ok (.aload_n 0, 1) := by decide +kernel
theorem dX4_without_58 : decode cX4_without 58 = .ok (.getfield 46, 3) := by decide +kernel
theorem dX4_without_61 : decode cX4_without 61 = .ok (.invokevirtual 185, 3) := by decide +kernel
theorem dX4_without_64 : decode cX4_without 64 = .ok (.iconst (-1), 1) := by decide +kernel
theorem dX4_without_65 : decode cX4_without 65 = .ok (.istore_n 3, 1) := by decide +kernel
theorem dX4_without_66 : decode cX4_without 66 = .ok (.iconst 0, 1) := by decide +kernel
theorem dX4_without_67 : decode cX4_without 67 = .ok (.istore 4, 2) := by decide +kernel
theorem dX4_without_69 : decode cX4_without 69 = .ok (.iconst 0, 1) := by decide +kernel
theorem dX4_without_70 : decode cX4_without 70 = .ok (.istore 5, 2) := by decide +kernel
theorem dX4_without_72 : decode cX4_without 72 = .ok (.iload 5, 2) := by decide +kernel
theorem dX4_without_74 : decode cX4_without 74 = .ok (.aload_n 0, 1) := by decide +kernel
theorem dX4_without_75 : decode cX4_without 75 = .ok (.getfield 12, 3) := by decide +kernel
theorem dX4_without_78 : decode cX4_without 78 = .ok (.getfield 80, 3) := by decide +kernel
theorem dX4_without_81 : decode cX4_without 81 = .ok (.if_icmp .ge 49, 3) := by decide +kernel
theorem dX4_without_84 : decode cX4_without 84 = .ok (.aload_n 0, 1) := by decide +kernel
theorem dX4_without_85 : decode cX4_without 85 = .ok (.getfield 46, 3) := by decide +kernel
theorem dX4_without_88 : decode cX4_without 88 = .ok (.iload 5, 2) := by decide +kernel
theorem dX4_without_90 : decode cX4_without 90 = .ok (.iaload, 1) := by decide +kernel
theorem dX4_without_91 : decode cX4_without 91 = .ok (.aload_n 0, 1) := by decide +kernel
theorem dX4_without_92 : decode cX4_without 92 = .ok (.getfield 42, 3) := by decide +kernel
theorem dX4_without_95 : decode cX4_without 95 = .ok (.iload 5, 2) := by decide +kernel
theorem dX4_without_97 : decode cX4_without 97 = .ok (.iaload, 1) := by decide +kernel
theorem dX4_without_98 : decode cX4_without 98 = .ok (.isub, 1) := by decide +kernel
theorem dX4_without_99 : decode cX4_without 99 = .ok (.iload 4, 2) := by decide +kernel
theorem dX4_without_101 : decode cX4_without 101 = .ok (.if_icmp .le 23, 3) := by decide +kernel
theorem dX4_without_104 : decode cX4_without 104 = .ok (.aload_n 0, 1) := by decide +kernel
theorem dX4_without_105 : decode cX4_without 105 = .ok (.getfield 46, 3) := by decide +kernel
theorem dX4_without_108 : decode cX4_without 108 = .ok (.iload 5, 2) := by decide +kernel
theorem dX4_without_110 : decode cX4_without 110 = .ok (.iaload, 1) := by decide +kernel
theorem dX4_without_111 : decode cX4_without 111 = .ok (.aload_n 0, 1) := by decide +kernel
theorem dX4_without_112 : decode cX4_without 112 = .ok (.getfield 42, 3) := by decide +kernel
theorem dX4_without_115 : decode cX4_without 115 = .ok (.iload 5, 2) := by decide +kernel
theorem dX4_without_117 : decode cX4_without 117 = .ok (.iaload, 1) := by decide +kernel
theorem dX4_without_118 : decode cX4_without 118 = .ok (.isub, 1) := by decide +kernel
theorem dX4_without_119 : decode cX4_without 119 = .ok (.istore 4, 2) := by decide +kernel
theorem dX4_without_121 : decode cX4_without 121 = .ok (.iload 5, 2) := by decide +kernel
theorem dX4_without_123 : decode cX4_without 123 = .ok (.istore_n 3, 1) := by decide +kernel
theorem dX4_without_124 : decode cX4_without 124 = .ok (.iinc 5 1, 3) := by decide +kernel
theorem dX4_without_127 : decode cX4_without 127 = .ok (.goto (-55), 3) := by decide +kernel
theorem dX4_without_130 : decode cX4_without 130 = .ok (.iload_n 3, 1) := by decide +kernel
theorem dX4_without_131 : decode cX4_without 131 = .ok (.ifCond .ge 12, 3) := by decide +kernel
theorem dX4_without_134 : decode cX4_without 134 = .ok (.aload_n 0, 1) := by decide +kernel
theorem dX4_without_135 : decode cX4_without 135 = .ok (.ldc 111, 2) := by decide +kernel
theorem dX4_without_137 : decode cX4_without 137 = .ok (.invokevirtual 66, 3) := by decide +kernel
theorem dX4_without_140 : decode cX4_without 140 = .ok (.goto 4, 3) := by decide +kernel
theorem dX4_without_143 : decode cX4_without 143 = .ok (.iload_n 3, 1) := by decide +kernel
theorem dX4_without_144 : decode cX4_without 144 = .ok (.ireturn, 1) := by decide +kernel
theorem dX4_pass_0 : decode cX4_pass 0 = .ok (.aload_n 0, 1) := by decide +kernel
theorem dX4_pass_1 : decode cX4_pass 1 = .ok (.iload_n 1, 1) := by decide +kernel
theorem dX4_pass_2 : decode cX4_pass 2 = .ok (.invokevirtual 150, 3) := by decide +kernel
theorem dX4_pass_5 : decode cX4_pass 5 = .ok (.ifCond .eq 10, 3) := by decide +kernel
theorem dX4_pass_8 : decode cX4_pass 8 = .ok (.iload_n 2, 1) := by decide +kernel
theorem dX4_pass_9 : decode cX4_pass 9 = .ok (.invokestatic 192, 3) := by decide +kernel
theorem dX4_pass_12 : decode cX4_pass 12 = .ok (.ifCond .ne 10, 3) := by decide +kernel
theorem dX4_pass_15 : decode cX4_pass 15 = .ok (.aload_n 0, 1) := by decide +kernel
theorem dX4_pass_16 : decode cX4_pass 16 = .ok (.ldc 65, 2) := by decide +kernel
theorem dX4_pass_18 : decode cX4_pass 18 = .ok (.invokevirtual 66, 3) := by decide +kernel
theorem dX4_pass_21 : decode cX4_pass 21 = .ok (.ireturn, 1) := by decide +kernel
theorem dX4_pass_22 : decode cX4_pass 22 = .ok (.aload_n 0, 1) := by decide +kernel
theorem dX4_pass_23 : decode cX4_pass 23 = .ok (.iload_n 1, 1) := by decide +kernel
theorem dX4_pass_24 : decode cX4_pass 24 = .ok (.invokevirtual 162, 3) := by decide +kernel
theorem dX4_pass_27 : decode cX4_pass 27 = .ok (.iconst 0, 1) := by decide +kernel
theorem dX4_pass_28 : decode cX4_pass 28 = .ok (.istore_n 3, 1) := by decide +kernel
theorem dX4_pass_29 : decode cX4_pass 29 = .ok (.iconst 0, 1) := by decide +kernel
theorem dX4_pass_30 : decode cX4_pass 30 = .ok (.istore 4, 2) := by decide +kernel
theorem dX4_pass_32 : decode cX4_pass 32 = .ok (.iload 4, 2) := by decide +kernel
theorem dX4_pass_34 : decode cX4_pass 34 = .ok (.aload_n 0, 1) := by decide +kernel
theorem dX4_pass_35 : decode cX4_pass 35 = .ok (.getfield 12, 3) := by decide +kernel
theorem dX4_pass_38 : decode cX4_pass 38 = .ok (.getfield 80, 3) := by decide +kernel
theorem dX4_pass_41 : decode cX4_pass 41 = .ok (.if_icmp .ge 27, 3) := by decide +kernel
theorem dX4_pass_44 : decode cX4_pass 44 = .ok (.aload_n 0, 1) := by decide +kernel
theorem dX4_pass_45 : decode cX4_pass 45 = .ok (.getfield 42, 3) := by decide +kernel
theorem dX4_pass_48 : decode cX4_pass 48 = .ok (.iload 4, 2) := by decide +kernel
theorem dX4_pass_50 : decode cX4_pass 50 = .ok (.iaload, 1) := by decide +kernel
theorem dX4_pass_51 : decode cX4_pass 51 = .ok (.iload_n 2, 1) := by decide +kernel
theorem dX4_pass_52 : decode cX4_pass 52 = .ok (.if_icmp .lt 10, 3) := by decide +kernel
theorem dX4_pass_55 : decode cX4_pass 55 = .ok (.iload_n 3, 1) := by decide +kernel
theorem dX4_pass_56 : decode cX4_pass 56 = .ok (.iconst 1, 1) := by decide +kernel
theorem dX4_pass_57 : decode cX4_pass 57 = .ok (.iload 4, 2) := by decide +kernel
theorem dX4_pass_59 : decode cX4_pass 59 = .ok (.ishl, 1) := by decide +kernel
theorem dX4_pass_60 : decode cX4_pass 60 = .ok (.ior, 1) := by decide +kernel
theorem dX4_pass_61 : decode cX4_pass 61 = .ok (.istore_n 3, 1) := by decide +kernel
theorem dX4_pass_62 : decode cX4_pass 62 = .ok (.iinc 4 1, 3) := by decide +kernel
theorem dX4_pass_65 : decode cX4_pass 65 = .ok (.goto (-33), 3) := by decide +kernel
theorem dX4_pass_68 : decode cX4_pass 68 = .ok (.iload_n 3, 1) := by decide +kernel
theorem dX4_pass_69 : decode cX4_pass 69 = .ok (.ireturn, 1) := by decide +kernel
theorem dX4_line_0 : decode cX4_line 0 = .ok (.aload_n 0, 1) := by decide +kernel
theorem dX4_line_1 : decode cX4_line 1 = .ok (.iload_n 1, 1) := by decide +kernel
theorem dX4_line_2 : decode cX4_line 2 = .ok (.invokevirtual 150, 3) := by decide +kernel
theorem dX4_line_5 : decode cX4_line 5 = .ok (.ifCond .eq 13, 3) := by decide +kernel
theorem dX4_line_8 : decode cX4_line 8 = .ok (.iload_n 2, 1) := by decide +kernel
theorem dX4_line_9 : decode cX4_line 9 = .ok (.iconst 0, 1) := by decide +kernel
theorem dX4_line_10 : decode cX4_line 10 = .ok (.bipush 12, 2) := by decide +kernel
theorem dX4_line_12 : decode cX4_line 12 = .ok (.invokestatic 61, 3) := by decide +kernel
theorem dX4_line_15 : decode cX4_line 15 = .ok (.ifCond .ne 10, 3) := by decide +kernel
theorem dX4_line_18 : decode cX4_line 18 = .ok (.aload_n 0, 1) := by decide +kernel
theorem dX4_line_19 : decode cX4_line 19 = .ok (.ldc 65, 2) := by decide +kernel
theorem dX4_line_21 : decode cX4_line 21 = .ok (.invokevirtual 66, 3) := by decide +kernel
theorem dX4_line_24 : decode cX4_line 24 = .ok (.ireturn, 1) := by decide +kernel
theorem dX4_line_25 : decode cX4_line 25 = .ok (.iload_n 2, 1) := by decide +kernel
theorem dX4_line_26 : decode cX4_line 26 = .ok (.aload_n 0, 1) := by decide +kernel
theorem dX4_line_27 : decode cX4_line 27 = .ok (.getfield 12, 3) := by decide +kernel
theorem dX4_line_30 : decode cX4_line 30 = .ok (.getfield 80, 3) := by decide +kernel
theorem dX4_line_33 : decode cX4_line 33 = .ok (.if_icmp .le 10, 3) := by decide +kernel
theorem dX4_line_36 : decode cX4_line 36 = .ok (.aload_n 0, 1) := by decide +kernel
theorem dX4_line_37 : decode cX4_line 37 = .ok (.ldc 111, 2) := by decide +kernel
theorem dX4_line_39 : decode cX4_line 39 = .ok (.invokevirtual 66, 3) := by decide +kernel
theorem dX4_line_42 : decode cX4_line 42 = .ok (.ireturn, 1) := by decide +kernel
theorem dX4_line_43 : decode cX4_line 43 = .ok (.iload_n 2, 1) := by decide +kernel
theorem dX4_line_44 : decode cX4_line 44 = .ok (.ifCond .ne 7, 3) := by decide +kernel
theorem dX4_line_47 : decode cX4_line 47 = .ok (.sipush 400, 3) := by decide +kernel
theorem dX4_line_50 : decode cX4_line 50 = .ok (.ireturn, 1) := by decide +kernel
theorem dX4_line_51 : decode cX4_line 51 = .ok (.aload_n 0, 1) := by decide +kernel
theorem dX4_line_52 : decode cX4_line 52 = .ok (.iload_n 1, 1) := by decide +kernel
theorem dX4_line_53 : decode cX4_line 53 = .ok (.invokevirtual 162, 3) := by decide +kernel
theorem dX4_line_56 : decode cX4_line 56 = .ok (.sipush 400, 3) := by decide +kernel
theorem dX4_line_59 : decode cX4_line 59 = .ok (.aload_n 0, 1) := by decide +kernel
theorem dX4_line_60 : decode cX4_line 60 = .ok (.iload_n 2, 1) := by decide +kernel
theorem dX4_line_61 : decode cX4_line 61 = .ok (.invokevirtual 169, 3) := by decide +kernel
theorem dX4_line_64 : decode cX4_line 64 = .ok (.invokestatic 195, 3) := by decide +kernel
theorem dX4_line_67 : decode cX4_line 67 = .ok (.ireturn, 1) := by decide +kernel
theorem dX4_heap_0 : decode cX4_heap 0 = .ok (.aload_n 0, 1) := by decide +kernel
theorem dX4_heap_1 : decode cX4_heap 1 = .ok (.iload_n 1, 1) := by decide +kernel
theorem dX4_heap_2 : decode cX4_heap 2 = .ok (.invokevirtual 150, 3) := by decide +kernel
theorem dX4_heap_5 : decode cX4_heap 5 = .ok (.ifCond .eq 10, 3) := by decide +kernel
theorem dX4_heap_8 : decode cX4_heap 8 = .ok (.iload_n 2, 1) := by decide +kernel
theorem dX4_heap_9 : decode cX4_heap 9 = .ok (.invokestatic 192, 3) := by decide +kernel
theorem dX4_heap_12 : decode cX4_heap 12 = .ok (.ifCond .ne 10, 3) := by decide +kernel
theorem dX4_heap_15 : decode cX4_heap 15 = .ok (.aload_n 0, 1) := by decide +kernel
theorem dX4_heap_16 : decode cX4_heap 16 = .ok (.ldc 65, 2) := by decide +kernel
theorem dX4_heap_18 : decode cX4_heap 18 = .ok (.invokevirtual 66, 3) := by decide +kernel
theorem dX4_heap_21 : decode cX4_heap 21 = .ok (.ireturn, 1) := by decide +kernel
theorem dX4_heap_22 : decode cX4_heap 22 = .ok (.aload_n 0, 1) := by decide +kernel
theorem dX4_heap_23 : decode cX4_heap 23 = .ok (.iload_n 1, 1) := by decide +kernel
theorem dX4_heap_24 : decode cX4_heap 24 = .ok (.invokevirtual 162, 3) := by decide +kernel
theorem dX4_heap_27 : decode cX4_heap 27 = .ok (.aload_n 0, 1) := by decide +kernel
theorem dX4_heap_28 : decode cX4_heap 28 = .ok (.iload_n 2, 1) := by decide +kernel
theorem dX4_heap_29 : decode cX4_heap 29 = .ok (.invokevirtual 166, 3) := by decide +kernel
theorem dX4_heap_32 : decode cX4_heap 32 = .ok (.aload_n 0, 1) := by decide +kernel
theorem dX4_heap_33 : decode cX4_heap 33 = .ok (.iload_n 2, 1) := by decide +kernel
theorem dX4_heap_34 : decode cX4_heap 34 = .ok (.iconst 3, 1) := by decide +kernel
theorem dX4_heap_35 : decode cX4_heap 35 = .ok (.iadd, 1) := by decide +kernel
theorem dX4_heap_36 : decode cX4_heap 36 = .ok (.invokevirtual 166, 3) := by decide +kernel
theorem dX4_heap_39 : decode cX4_heap 39 = .ok (.isub, 1) := by decide +kernel
theorem dX4_heap_40 : decode cX4_heap 40 = .ok (.istore_n 3, 1) := by decide +kernel
theorem dX4_heap_41 : decode cX4_heap 41 = .ok (.aload_n 0, 1) := by decide +kernel
theorem dX4_heap_42 : decode cX4_heap 42 = .ok (.iload_n 2, 1) := by decide +kernel
theorem dX4_heap_43 : decode cX4_heap 43 = .ok (.iconst 3, 1) := by decide +kernel
theorem dX4_heap_44 : decode cX4_heap 44 = .ok (.isub, 1) := by decide +kernel
theorem dX4_heap_45 : decode cX4_heap 45 = .ok (.invokevirtual 166, 3) := by decide +kernel
theorem dX4_heap_48 : decode cX4_heap 48 = .ok (.aload_n 0, 1) := by decide +kernel
theorem dX4_heap_49 : decode cX4_heap 49 = .ok (.iload_n 2, 1) := by decide +kernel
theorem dX4_heap_50 : decode cX4_heap 50 = .ok (.invokevirtual 166, 3) := by decide +kernel
theorem dX4_heap_53 : decode cX4_heap 53 = .ok (.isub, 1) := by decide +kernel
theorem dX4_heap_54 : decode cX4_heap 54 = .ok (.istore 4, 2) := by decide +kernel
theorem dX4_heap_56 : decode cX4_heap 56 = .ok (.iload_n 3, 1) := by decide +kernel
theorem dX4_heap_57 : decode cX4_heap 57 = .ok (.iload 4, 2) := by decide +kernel
theorem dX4_heap_59 : decode cX4_heap 59 = .ok (.isub, 1) := by decide +kernel
theorem dX4_heap_60 : decode cX4_heap 60 = .ok (.ireturn, 1) := by decide +kernel
theorem dX4_kindest_0 : decode cX4_kindest 0 = .ok (.iload_n 1, 1) := by decide +kernel
theorem dX4_kindest_1 : decode cX4_kindest 1 = .ok (.invokestatic 192, 3) := by decide +kernel
theorem dX4_kindest_4 : decode cX4_kindest 4 = .ok (.ifCond .ne 10, 3) := by decide +kernel
theorem dX4_kindest_7 : decode cX4_kindest 7 = .ok (.aload_n 0, 1) := by decide +kernel
theorem dX4_kindest_8 : decode cX4_kindest 8 = .ok (.ldc 65, 2) := by decide +kernel
theorem dX4_kindest_10 : decode cX4_kindest 10 = .ok (.invokevirtual 66, 3) := by decide +kernel
theorem dX4_kindest_13 : decode cX4_kindest 13 = .ok (.ireturn, 1) := by decide +kernel
theorem dX4_kindest_14 : decode cX4_kindest 14 = .ok (.aload_n 0, 1) := by decide +kernel
theorem dX4_kindest_15 : decode cX4_kindest 15 = .ok (.getfield 12, 3) := by decide +kernel
theorem dX4_kindest_18 : decode cX4_kindest 18 = .ok (.getfield 144, 3) := by decide +kernel
theorem dX4_kindest_21 : decode cX4_kindest 21 = .ok (.ifCond .ne 10, 3) := by decide +kernel
theorem dX4_kindest_24 : decode cX4_kindest 24 = .ok (.aload_n 0, 1) := by decide +kernel
theorem dX4_kindest_25 : decode cX4_kindest 25 = .ok (.ldc 111, 2) := by decide +kernel
theorem dX4_kindest_27 : decode cX4_kindest 27 = .ok (.invokevirtual 66, 3) := by decide +kernel
theorem dX4_kindest_30 : decode cX4_kindest 30 = .ok (.ireturn, 1) := by decide +kernel
theorem dX4_kindest_31 : decode cX4_kindest 31 = .ok (.iconst 0, 1) := by decide +kernel
theorem dX4_kindest_32 : decode cX4_kindest 32 = .ok (.istore_n 2, 1) := by decide +kernel
theorem dX4_kindest_33 : decode cX4_kindest 33 = .ok (.iconst (-1), 1) := by decide +kernel
theorem dX4_kindest_34 : decode cX4_kindest 34 = .ok (.istore_n 3, 1) := by decide +kernel
theorem dX4_kindest_35 : decode cX4_kindest 35 = .ok (.iconst 0, 1) := by decide +kernel
theorem dX4_kindest_36 : decode cX4_kindest 36 = .ok (.istore 4, 2) := by decide +kernel
theorem dX4_kindest_38 : decode cX4_kindest 38 = .ok (.iload 4, 2) := by decide +kernel
theorem dX4_kindest_40 : decode cX4_kindest 40 = .ok (.aload_n 0, 1) := by decide +kernel
theorem dX4_kindest_41 : decode cX4_kindest 41 = .ok (.getfield 12, 3) := by decide +kernel
theorem dX4_kindest_44 : decode cX4_kindest 44 = .ok (.getfield 144, 3) := by decide +kernel
theorem dX4_kindest_47 : decode cX4_kindest 47 = .ok (.if_icmp .ge 34, 3) := by decide +kernel
theorem dX4_kindest_50 : decode cX4_kindest 50 = .ok (.aload_n 0, 1) := by decide +kernel
theorem dX4_kindest_51 : decode cX4_kindest 51 = .ok (.iload 4, 2) := by decide +kernel
theorem dX4_kindest_53 : decode cX4_kindest 53 = .ok (.invokevirtual 162, 3) := by decide +kernel
theorem dX4_kindest_56 : decode cX4_kindest 56 = .ok (.aload_n 0, 1) := by decide +kernel
theorem dX4_kindest_57 : decode cX4_kindest 57 = .ok (.iload_n 1, 1) := by decide +kernel
theorem dX4_kindest_58 : decode cX4_kindest 58 = .ok (.invokevirtual 166, 3) := by decide +kernel
theorem dX4_kindest_61 : decode cX4_kindest 61 = .ok (.istore 5, 2) := by decide +kernel
theorem dX4_kindest_63 : decode cX4_kindest 63 = .ok (.iload 5, 2) := by decide +kernel
theorem dX4_kindest_65 : decode cX4_kindest 65 = .ok (.iload_n 3, 1) := by decide +kernel
theorem dX4_kindest_66 : decode cX4_kindest 66 = .ok (.if_icmp .le 9, 3) := by decide +kernel
theorem dX4_kindest_69 : decode cX4_kindest 69 = .ok (.iload 5, 2) := by decide +kernel
theorem dX4_kindest_71 : decode cX4_kindest 71 = .ok (.istore_n 3, 1) := by decide +kernel
theorem dX4_kindest_72 : decode cX4_kindest 72 = .ok (.iload 4, 2) := by decide +kernel
theorem dX4_kindest_74 : decode cX4_kindest 74 = .ok (.istore_n 2, 1) := by decide +kernel
theorem dX4_kindest_75 : decode cX4_kindest 75 = .ok (.iinc 4 1, 3) := by decide +kernel
theorem dX4_kindest_78 : decode cX4_kindest 78 = .ok (.goto (-40), 3) := by decide +kernel
theorem dX4_kindest_81 : decode cX4_kindest 81 = .ok (.iload_n 2, 1) := by decide +kernel
theorem dX4_kindest_82 : decode cX4_kindest 82 = .ok (.ireturn, 1) := by decide +kernel
theorem dX4_byFor_0 : decode cX4_byFor 0 = .ok (.aload_n 0, 1) := by decide +kernel
theorem dX4_byFor_1 : decode cX4_byFor 1 = .ok (.iload_n 1, 1) := by decide +kernel
theorem dX4_byFor_2 : decode cX4_byFor 2 = .ok (.invokevirtual 150, 3) := by decide +kernel
theorem dX4_byFor_5 : decode cX4_byFor 5 = .ok (.ifCond .eq 10, 3) := by decide +kernel
theorem dX4_byFor_8 : decode cX4_byFor 8 = .ok (.iload_n 2, 1) := by decide +kernel
theorem dX4_byFor_9 : decode cX4_byFor 9 = .ok (.invokestatic 192, 3) := by decide +kernel
theorem dX4_byFor_12 : decode cX4_byFor 12 = .ok (.ifCond .ne 10, 3) := by decide +kernel
theorem dX4_byFor_15 : decode cX4_byFor 15 = .ok (.aload_n 0, 1) := by decide +kernel
theorem dX4_byFor_16 : decode cX4_byFor 16 = .ok (.ldc 65, 2) := by decide +kernel
theorem dX4_byFor_18 : decode cX4_byFor 18 = .ok (.invokevirtual 66, 3) := by decide +kernel
theorem dX4_byFor_21 : decode cX4_byFor 21 = .ok (.ireturn, 1) := by decide +kernel
theorem dX4_byFor_22 : decode cX4_byFor 22 = .ok (.aload_n 0, 1) := by decide +kernel
theorem dX4_byFor_23 : decode cX4_byFor 23 = .ok (.getfield 25, 3) := by decide +kernel
theorem dX4_byFor_26 : decode cX4_byFor 26 = .ok (.aload_n 0, 1) := by decide +kernel
theorem dX4_byFor_27 : decode cX4_byFor 27 = .ok (.getfield 12, 3) := by decide +kernel
theorem dX4_byFor_30 : decode cX4_byFor 30 = .ok (.invokevirtual 112, 3) := by decide +kernel
theorem dX4_byFor_33 : decode cX4_byFor 33 = .ok (.iconst 0, 1) := by decide +kernel
theorem dX4_byFor_34 : decode cX4_byFor 34 = .ok (.istore_n 3, 1) := by decide +kernel
theorem dX4_byFor_35 : decode cX4_byFor 35 = .ok (.iload_n 3, 1) := by decide +kernel
theorem dX4_byFor_36 : decode cX4_byFor 36 = .ok (.bipush 100, 2) := by decide +kernel
theorem dX4_byFor_38 : decode cX4_byFor 38 = .ok (.if_icmp .gt 47, 3) := by decide +kernel
theorem dX4_byFor_41 : decode cX4_byFor 41 = .ok (.aload_n 0, 1) := by decide +kernel
theorem dX4_byFor_42 : decode cX4_byFor 42 = .ok (.getfield 25, 3) := by decide +kernel
theorem dX4_byFor_45 : decode cX4_byFor 45 = .ok (.aload_n 0, 1) := by decide +kernel
theorem dX4_byFor_46 : decode cX4_byFor 46 = .ok (.getfield 12, 3) := by decide +kernel
theorem dX4_byFor_49 : decode cX4_byFor 49 = .ok (.getfield 153, 3) := by decide +kernel
theorem dX4_byFor_52 : decode cX4_byFor 52 = .ok (.iload_n 1, 1) := by decide +kernel
theorem dX4_byFor_53 : decode cX4_byFor 53 = .ok (.iaload, 1) := by decide +kernel
theorem dX4_byFor_54 : decode cX4_byFor 54 = .ok (.iload_n 3, 1) := by decide +kernel
theorem dX4_byFor_55 : decode cX4_byFor 55 = .ok (.aload_n 0, 1) := by decide +kernel
theorem dX4_byFor_56 : decode cX4_byFor 56 = .ok (.getfield 42, 3) := by decide +kernel
theorem dX4_byFor_59 : decode cX4_byFor 59 = .ok (.invokevirtual 185, 3) := by decide +kernel
theorem dX4_byFor_62 : decode cX4_byFor 62 = .ok (.aload_n 0, 1) := by decide +kernel
theorem dX4_byFor_63 : decode cX4_byFor 63 = .ok (.iload_n 2, 1) := by decide +kernel
theorem dX4_byFor_64 : decode cX4_byFor 64 = .ok (.invokevirtual 166, 3) := by decide +kernel
theorem dX4_byFor_67 : decode cX4_byFor 67 = .ok (.aload_n 0, 1) := by decide +kernel
theorem dX4_byFor_68 : decode cX4_byFor 68 = .ok (.getfield 12, 3) := by decide +kernel
theorem dX4_byFor_71 : decode cX4_byFor 71 = .ok (.getfield 80, 3) := by decide +kernel
theorem dX4_byFor_74 : decode cX4_byFor 74 = .ok (.if_icmp .ne 5, 3) := by decide +kernel
theorem dX4_byFor_77 : decode cX4_byFor 77 = .ok (.iload_n 3, 1) := by decide +kernel
theorem dX4_byFor_78 : decode cX4_byFor 78 = .ok (.ireturn, 1) := by decide +kernel
theorem dX4_byFor_79 : decode cX4_byFor 79 = .ok (.iinc 3 1, 3) := by decide +kernel
theorem dX4_byFor_82 : decode cX4_byFor 82 = .ok (.goto (-47), 3) := by decide +kernel
theorem dX4_byFor_85 : decode cX4_byFor 85 = .ok (.aload_n 0, 1) := by decide +kernel
theorem dX4_byFor_86 : decode cX4_byFor 86 = .ok (.ldc 111, 2) := by decide +kernel
theorem dX4_byFor_88 : decode cX4_byFor 88 = .ok (.invokevirtual 66, 3) := by decide +kernel
theorem dX4_byFor_91 : decode cX4_byFor 91 = .ok (.ireturn, 1) := by decide +kernel
theorem dX4_letters_0 : decode cX4_letters 0 = .ok (.aload_n 0, 1) := by decide +kernel
theorem dX4_letters_1 : decode cX4_letters 1 = .ok (.iload_n 1, 1) := by decide +kernel
theorem dX4_letters_2 : decode cX4_letters 2 = .ok (.invokevirtual 150, 3) := by decide +kernel
theorem dX4_letters_5 : decode cX4_letters 5 = .ok (.ifCond .eq 22, 3) := by decide +kernel
theorem dX4_letters_8 : decode cX4_letters 8 = .ok (.iload_n 2, 1) := by decide +kernel
theorem dX4_letters_9 : decode cX4_letters 9 = .ok (.invokestatic 192, 3) := by decide +kernel
theorem dX4_letters_12 : decode cX4_letters 12 = .ok (.ifCond .eq 15, 3) := by decide +kernel
theorem dX4_letters_15 : decode cX4_letters 15 = .ok (.iload_n 3, 1) := by decide +kernel
theorem dX4_letters_16 : decode cX4_letters 16 = .ok (.invokestatic 192, 3) := by decide +kernel
theorem dX4_letters_19 : decode cX4_letters 19 = .ok (.ifCond .eq 8, 3) := by decide +kernel
theorem dX4_letters_22 : decode cX4_letters 22 = .ok (.iload_n 2, 1) := by decide +kernel
theorem dX4_letters_23 : decode cX4_letters 23 = .ok (.iload_n 3, 1) := by decide +kernel
theorem dX4_letters_24 : decode cX4_letters 24 = .ok (.if_icmp .le 10, 3) := by decide +kernel
theorem dX4_letters_27 : decode cX4_letters 27 = .ok (.aload_n 0, 1) := by decide +kernel
theorem dX4_letters_28 : decode cX4_letters 28 = .ok (.ldc 65, 2) := by decide +kernel
theorem dX4_letters_30 : decode cX4_letters 30 = .ok (.invokevirtual 66, 3) := by decide +kernel
theorem dX4_letters_33 : decode cX4_letters 33 = .ok (.ireturn, 1) := by decide +kernel
theorem dX4_letters_34 : decode cX4_letters 34 = .ok (.aload_n 0, 1) := by decide +kernel
theorem dX4_letters_35 : decode cX4_letters 35 = .ok (.iload_n 1, 1) := by decide +kernel
theorem dX4_letters_36 : decode cX4_letters 36 = .ok (.invokevirtual 162, 3) := by decide +kernel
theorem dX4_letters_39 : decode cX4_letters 39 = .ok (.aload_n 0, 1) := by decide +kernel
theorem dX4_letters_40 : decode cX4_letters 40 = .ok (.iload_n 2, 1) := by decide +kernel
theorem dX4_letters_41 : decode cX4_letters 41 = .ok (.invokevirtual 166, 3) := by decide +kernel
theorem dX4_letters_44 : decode cX4_letters 44 = .ok (.aload_n 0, 1) := by decide +kernel
theorem dX4_letters_45 : decode cX4_letters 45 = .ok (.iload_n 3, 1) := by decide +kernel
theorem dX4_letters_46 : decode cX4_letters 46 = .ok (.iconst 1, 1) := by decide +kernel
theorem dX4_letters_47 : decode cX4_letters 47 = .ok (.iadd, 1) := by decide +kernel
theorem dX4_letters_48 : decode cX4_letters 48 = .ok (.invokevirtual 166, 3) := by decide +kernel
theorem dX4_letters_51 : decode cX4_letters 51 = .ok (.isub, 1) := by decide +kernel
theorem dX4_letters_52 : decode cX4_letters 52 = .ok (.ireturn, 1) := by decide +kernel
theorem dX4_lean_0 : decode cX4_lean 0 = .ok (.iconst 0, 1) := by decide +kernel
theorem dX4_lean_1 : decode cX4_lean 1 = .ok (.istore_n 1, 1) := by decide +kernel
theorem dX4_lean_2 : decode cX4_lean 2 = .ok (.iconst 0, 1) := by decide +kernel
theorem dX4_lean_3 : decode cX4_lean 3 = .ok (.istore_n 2, 1) := by decide +kernel
theorem dX4_lean_4 : decode cX4_lean 4 = .ok (.iload_n 2, 1) := by decide +kernel
theorem dX4_lean_5 : decode cX4_lean 5 = .ok (.aload_n 0, 1) := by decide +kernel
theorem dX4_lean_6 : decode cX4_lean 6 = .ok (.getfield 12, 3) := by decide +kernel
theorem dX4_lean_9 : decode cX4_lean 9 = .ok (.getfield 80, 3) := by decide +kernel
theorem dX4_lean_12 : decode cX4_lean 12 = .ok (.if_icmp .ge 35, 3) := by decide +kernel
theorem dX4_lean_15 : decode cX4_lean 15 = .ok (.iconst 0, 1) := by decide +kernel
theorem dX4_lean_16 : decode cX4_lean 16 = .ok (.istore_n 3, 1) := by decide +kernel
theorem dX4_lean_17 : decode cX4_lean 17 = .ok (.iload_n 3, 1) := by decide +kernel
theorem dX4_lean_18 : decode cX4_lean 18 = .ok (.bipush 8, 2) := by decide +kernel
theorem dX4_lean_20 : decode cX4_lean 20 = .ok (.if_icmp .ge 21, 3) := by decide +kernel
theorem dX4_lean_23 : decode cX4_lean 23 = .ok (.iload_n 1, 1) := by decide +kernel
theorem dX4_lean_24 : decode cX4_lean 24 = .ok (.aload_n 0, 1) := by decide +kernel
theorem dX4_lean_25 : decode cX4_lean 25 = .ok (.getfield 12, 3) := by decide +kernel
theorem dX4_lean_28 : decode cX4_lean 28 = .ok (.iload_n 2, 1) := by decide +kernel
theorem dX4_lean_29 : decode cX4_lean 29 = .ok (.iload_n 3, 1) := by decide +kernel
theorem dX4_lean_30 : decode cX4_lean 30 = .ok (.invokevirtual 200, 3) := by decide +kernel
theorem dX4_lean_33 : decode cX4_lean 33 = .ok (.iadd, 1) := by decide +kernel
theorem dX4_lean_34 : decode cX4_lean 34 = .ok (.istore_n 1, 1) := by decide +kernel
theorem dX4_lean_35 : decode cX4_lean 35 = .ok (.iinc 3 1, 3) := by decide +kernel
theorem dX4_lean_38 : decode cX4_lean 38 = .ok (.goto (-21), 3) := by decide +kernel
theorem dX4_lean_41 : decode cX4_lean 41 = .ok (.iinc 2 1, 3) := by decide +kernel
theorem dX4_lean_44 : decode cX4_lean 44 = .ok (.goto (-40), 3) := by decide +kernel
theorem dX4_lean_47 : decode cX4_lean 47 = .ok (.aload_n 0, 1) := by decide +kernel
theorem dX4_lean_48 : decode cX4_lean 48 = .ok (.getfield 12, 3) := by decide +kernel
theorem dX4_lean_51 : decode cX4_lean 51 = .ok (.getfield 80, 3) := by decide +kernel
theorem dX4_lean_54 : decode cX4_lean 54 = .ok (.ifCond .le 18, 3) := by decide +kernel
theorem dX4_lean_57 : decode cX4_lean 57 = .ok (.bipush 100, 2) := by decide +kernel
theorem dX4_lean_59 : decode cX4_lean 59 = .ok (.iload_n 1, 1) := by decide +kernel
theorem dX4_lean_60 : decode cX4_lean 60 = .ok (.imul, 1) := by decide +kernel
theorem dX4_lean_61 : decode cX4_lean 61 = .ok (.aload_n 0, 1) := by decide +kernel
theorem dX4_lean_62 : decode cX4_lean 62 = .ok (.getfield 12, 3) := by decide +kernel
theorem dX4_lean_65 : decode cX4_lean 65 = .ok (.getfield 80, 3) := by decide +kernel
theorem dX4_lean_68 : decode cX4_lean 68 = .ok (.idiv, 1) := by decide +kernel
theorem dX4_lean_69 : decode cX4_lean 69 = .ok (.goto 4, 3) := by decide +kernel
theorem dX4_lean_72 : decode cX4_lean 72 = .ok (.iconst 0, 1) := by decide +kernel
theorem dX4_lean_73 : decode cX4_lean 73 = .ok (.ireturn, 1) := by decide +kernel
theorem dX4_right_0 : decode cX4_right 0 = .ok (.iload_n 1, 1) := by decide +kernel
theorem dX4_right_1 : decode cX4_right 1 = .ok (.iconst 1, 1) := by decide +kernel
theorem dX4_right_2 : decode cX4_right 2 = .ok (.bipush 40, 2) := by decide +kernel
theorem dX4_right_4 : decode cX4_right 4 = .ok (.invokestatic 61, 3) := by decide +kernel
theorem dX4_right_7 : decode cX4_right 7 = .ok (.ifCond .ne 10, 3) := by decide +kernel
theorem dX4_right_10 : decode cX4_right 10 = .ok (.aload_n 0, 1) := by decide +kernel
theorem dX4_right_11 : decode cX4_right 11 = .ok (.ldc 65, 2) := by decide +kernel
theorem dX4_right_13 : decode cX4_right 13 = .ok (.invokevirtual 66, 3) := by decide +kernel
theorem dX4_right_16 : decode cX4_right 16 = .ok (.ireturn, 1) := by decide +kernel
theorem dX4_right_17 : decode cX4_right 17 = .ok (.iconst 0, 1) := by decide +kernel
theorem dX4_right_18 : decode cX4_right 18 = .ok (.istore_n 2, 1) := by decide +kernel
theorem dX4_right_19 : decode cX4_right 19 = .ok (.iconst 0, 1) := by decide +kernel
theorem dX4_right_20 : decode cX4_right 20 = .ok (.istore_n 3, 1) := by decide +kernel
theorem dX4_right_21 : decode cX4_right 21 = .ok (.iload_n 3, 1) := by decide +kernel
theorem dX4_right_22 : decode cX4_right 22 = .ok (.aload_n 0, 1) := by decide +kernel
theorem dX4_right_23 : decode cX4_right 23 = .ok (.getfield 12, 3) := by decide +kernel
theorem dX4_right_26 : decode cX4_right 26 = .ok (.getfield 80, 3) := by decide +kernel
theorem dX4_right_29 : decode cX4_right 29 = .ok (.if_icmp .ge 75, 3) := by decide +kernel
theorem dX4_right_32 : decode cX4_right 32 = .ok (.iconst 0, 1) := by decide +kernel
theorem dX4_right_33 : decode cX4_right 33 = .ok (.istore 4, 2) := by decide +kernel
theorem dX4_right_35 : decode cX4_right 35 = .ok (.iload 4, 2) := by decide +kernel
theorem dX4_right_37 : decode cX4_right 37 = .ok (.bipush 8, 2) := by decide +kernel
theorem dX4_right_39 : decode cX4_right 39 = .ok (.if_icmp .ge 59, 3) := by decide +kernel
theorem dX4_right_42 : decode cX4_right 42 = .ok (.aload_n 0, 1) := by decide +kernel
theorem dX4_right_43 : decode cX4_right 43 = .ok (.getfield 12, 3) := by decide +kernel
theorem dX4_right_46 : decode cX4_right 46 = .ok (.iload_n 3, 1) := by decide +kernel
theorem dX4_right_47 : decode cX4_right 47 = .ok (.iload 4, 2) := by decide +kernel
theorem dX4_right_49 : decode cX4_right 49 = .ok (.invokevirtual 200, 3) := by decide +kernel
theorem dX4_right_52 : decode cX4_right 52 = .ok (.invokestatic 203, 3) := by decide +kernel
theorem dX4_right_55 : decode cX4_right 55 = .ok (.iload_n 1, 1) := by decide +kernel
theorem dX4_right_56 : decode cX4_right 56 = .ok (.if_icmp .lt 36, 3) := by decide +kernel
theorem dX4_right_59 : decode cX4_right 59 = .ok (.aload_n 0, 1) := by decide +kernel
theorem dX4_right_60 : decode cX4_right 60 = .ok (.getfield 12, 3) := by decide +kernel
theorem dX4_right_63 : decode cX4_right 63 = .ok (.getfield 98, 3) := by decide +kernel
theorem dX4_right_66 : decode cX4_right 66 = .ok (.iload_n 3, 1) := by decide +kernel
theorem dX4_right_67 : decode cX4_right 67 = .ok (.iload 4, 2) := by decide +kernel
theorem dX4_right_69 : decode cX4_right 69 = .ok (.iconst 1, 1) := by decide +kernel
theorem dX4_right_70 : decode cX4_right 70 = .ok (.invokestatic 94, 3) := by decide +kernel
theorem dX4_right_73 : decode cX4_right 73 = .ok (.aload_n 0, 1) := by decide +kernel
theorem dX4_right_74 : decode cX4_right 74 = .ok (.getfield 12, 3) := by decide +kernel
theorem dX4_right_77 : decode cX4_right 77 = .ok (.getfield 98, 3) := by decide +kernel
theorem dX4_right_80 : decode cX4_right 80 = .ok (.iload_n 3, 1) := by decide +kernel
theorem dX4_right_81 : decode cX4_right 81 = .ok (.iload 4, 2) := by decide +kernel
theorem dX4_right_83 : decode cX4_right 83 = .ok (.iconst 0, 1) := by decide +kernel
theorem dX4_right_84 : decode cX4_right 84 = .ok (.invokestatic 94, 3) := by decide +kernel
theorem dX4_right_87 : decode cX4_right 87 = .ok (.iaload, 1) := by decide +kernel
theorem dX4_right_88 : decode cX4_right 88 = .ok (.iastore, 1) := by decide +kernel
theorem dX4_right_89 : decode cX4_right 89 = .ok (.iinc 2 1, 3) := by decide +kernel
theorem dX4_right_92 : decode cX4_right 92 = .ok (.iinc 4 1, 3) := by decide +kernel
theorem dX4_right_95 : decode cX4_right 95 = .ok (.goto (-60), 3) := by decide +kernel
theorem dX4_right_98 : decode cX4_right 98 = .ok (.iinc 3 1, 3) := by decide +kernel
theorem dX4_right_101 : decode cX4_right 101 = .ok (.goto (-80), 3) := by decide +kernel
theorem dX4_right_104 : decode cX4_right 104 = .ok (.iload_n 2, 1) := by decide +kernel
theorem dX4_right_105 : decode cX4_right 105 = .ok (.ireturn, 1) := by decide +kernel
theorem dX4_unlike_0 : decode cX4_unlike 0 = .ok (.iload_n 1, 1) := by decide +kernel
theorem dX4_unlike_1 : decode cX4_unlike 1 = .ok (.iconst 0, 1) := by decide +kernel
theorem dX4_unlike_2 : decode cX4_unlike 2 = .ok (.iconst 1, 1) := by decide +kernel
theorem dX4_unlike_3 : decode cX4_unlike 3 = .ok (.invokestatic 61, 3) := by decide +kernel
theorem dX4_unlike_6 : decode cX4_unlike 6 = .ok (.ifCond .ne 10, 3) := by decide +kernel
theorem dX4_unlike_9 : decode cX4_unlike 9 = .ok (.aload_n 0, 1) := by decide +kernel
theorem dX4_unlike_10 : decode cX4_unlike 10 = .ok (.ldc 65, 2) := by decide +kernel
theorem dX4_unlike_12 : decode cX4_unlike 12 = .ok (.invokevirtual 66, 3) := by decide +kernel
theorem dX4_unlike_15 : decode cX4_unlike 15 = .ok (.ireturn, 1) := by decide +kernel
theorem dX4_unlike_16 : decode cX4_unlike 16 = .ok (.aload_n 0, 1) := by decide +kernel
theorem dX4_unlike_17 : decode cX4_unlike 17 = .ok (.getfield 12, 3) := by decide +kernel
theorem dX4_unlike_20 : decode cX4_unlike 20 = .ok (.getfield 80, 3) := by decide +kernel
theorem dX4_unlike_23 : decode cX4_unlike 23 = .ok (.ifCond .ne 10, 3) := by decide +kernel
theorem dX4_unlike_26 : decode cX4_unlike 26 = .ok (.aload_n 0, 1) := by decide +kernel
theorem dX4_unlike_27 : decode cX4_unlike 27 = .ok (.ldc 111, 2) := by decide +kernel
theorem dX4_unlike_29 : decode cX4_unlike 29 = .ok (.invokevirtual 66, 3) := by decide +kernel
theorem dX4_unlike_32 : decode cX4_unlike 32 = .ok (.ireturn, 1) := by decide +kernel
theorem dX4_unlike_33 : decode cX4_unlike 33 = .ok (.iconst 0, 1) := by decide +kernel
theorem dX4_unlike_34 : decode cX4_unlike 34 = .ok (.istore_n 2, 1) := by decide +kernel
theorem dX4_unlike_35 : decode cX4_unlike 35 = .ok (.iconst (-1), 1) := by decide +kernel
theorem dX4_unlike_36 : decode cX4_unlike 36 = .ok (.istore_n 3, 1) := by decide +kernel
theorem dX4_unlike_37 : decode cX4_unlike 37 = .ok (.iconst 0, 1) := by decide +kernel
theorem dX4_unlike_38 : decode cX4_unlike 38 = .ok (.istore 4, 2) := by decide +kernel
theorem dX4_unlike_40 : decode cX4_unlike 40 = .ok (.iload 4, 2) := by decide +kernel
theorem dX4_unlike_42 : decode cX4_unlike 42 = .ok (.aload_n 0, 1) := by decide +kernel
theorem dX4_unlike_43 : decode cX4_unlike 43 = .ok (.getfield 12, 3) := by decide +kernel
theorem dX4_unlike_46 : decode cX4_unlike 46 = .ok (.getfield 80, 3) := by decide +kernel
theorem dX4_unlike_49 : decode cX4_unlike 49 = .ok (.if_icmp .ge 32, 3) := by decide +kernel
theorem dX4_unlike_52 : decode cX4_unlike 52 = .ok (.aload_n 0, 1) := by decide +kernel
theorem dX4_unlike_53 : decode cX4_unlike 53 = .ok (.getfield 12, 3) := by decide +kernel
theorem dX4_unlike_56 : decode cX4_unlike 56 = .ok (.iload 4, 2) := by decide +kernel
theorem dX4_unlike_58 : decode cX4_unlike 58 = .ok (.invokevirtual 206, 3) := by decide +kernel
theorem dX4_unlike_61 : decode cX4_unlike 61 = .ok (.istore 5, 2) := by decide +kernel
theorem dX4_unlike_63 : decode cX4_unlike 63 = .ok (.iload 5, 2) := by decide +kernel
theorem dX4_unlike_65 : decode cX4_unlike 65 = .ok (.iload_n 3, 1) := by decide +kernel
theorem dX4_unlike_66 : decode cX4_unlike 66 = .ok (.if_icmp .le 9, 3) := by decide +kernel
theorem dX4_unlike_69 : decode cX4_unlike 69 = .ok (.iload 5, 2) := by decide +kernel
theorem dX4_unlike_71 : decode cX4_unlike 71 = .ok (.istore_n 3, 1) := by decide +kernel
theorem dX4_unlike_72 : decode cX4_unlike 72 = .ok (.iload 4, 2) := by decide +kernel
theorem dX4_unlike_74 : decode cX4_unlike 74 = .ok (.istore_n 2, 1) := by decide +kernel
theorem dX4_unlike_75 : decode cX4_unlike 75 = .ok (.iinc 4 1, 3) := by decide +kernel
theorem dX4_unlike_78 : decode cX4_unlike 78 = .ok (.goto (-38), 3) := by decide +kernel
theorem dX4_unlike_81 : decode cX4_unlike 81 = .ok (.iload_n 1, 1) := by decide +kernel
theorem dX4_unlike_82 : decode cX4_unlike 82 = .ok (.ifCond .ne 7, 3) := by decide +kernel
theorem dX4_unlike_85 : decode cX4_unlike 85 = .ok (.iload_n 2, 1) := by decide +kernel
theorem dX4_unlike_86 : decode cX4_unlike 86 = .ok (.goto 4, 3) := by decide +kernel
theorem dX4_unlike_89 : decode cX4_unlike 89 = .ok (.iload_n 3, 1) := by decide +kernel
theorem dX4_unlike_90 : decode cX4_unlike 90 = .ok (.ireturn, 1) := by decide +kernel
theorem dX4_counts_0 : decode cX4_counts 0 = .ok (.iload_n 1, 1) := by decide +kernel
theorem dX4_counts_1 : decode cX4_counts 1 = .ok (.invokestatic 57, 3) := by decide +kernel
theorem dX4_counts_4 : decode cX4_counts 4 = .ok (.ifCond .ne 10, 3) := by decide +kernel
theorem dX4_counts_7 : decode cX4_counts 7 = .ok (.aload_n 0, 1) := by decide +kernel
theorem dX4_counts_8 : decode cX4_counts 8 = .ok (.ldc 65, 2) := by decide +kernel
theorem dX4_counts_10 : decode cX4_counts 10 = .ok (.invokevirtual 66, 3) := by decide +kernel
theorem dX4_counts_13 : decode cX4_counts 13 = .ok (.ireturn, 1) := by decide +kernel
theorem dX4_counts_14 : decode cX4_counts 14 = .ok (.aload_n 0, 1) := by decide +kernel
theorem dX4_counts_15 : decode cX4_counts 15 = .ok (.getfield 25, 3) := by decide +kernel
theorem dX4_counts_18 : decode cX4_counts 18 = .ok (.aload_n 0, 1) := by decide +kernel
theorem dX4_counts_19 : decode cX4_counts 19 = .ok (.getfield 12, 3) := by decide +kernel
theorem dX4_counts_22 : decode cX4_counts 22 = .ok (.invokevirtual 112, 3) := by decide +kernel
theorem dX4_counts_25 : decode cX4_counts 25 = .ok (.aload_n 0, 1) := by decide +kernel
theorem dX4_counts_26 : decode cX4_counts 26 = .ok (.getfield 25, 3) := by decide +kernel
theorem dX4_counts_29 : decode cX4_counts 29 = .ok (.iload_n 1, 1) := by decide +kernel
theorem dX4_counts_30 : decode cX4_counts 30 = .ok (.invokevirtual 209, 3) := by decide +kernel
theorem dX4_counts_33 : decode cX4_counts 33 = .ok (.ireturn, 1) := by decide +kernel
theorem dX4_heavy_0 : decode cX4_heavy 0 = .ok (.aload_n 0, 1) := by decide +kernel
theorem dX4_heavy_1 : decode cX4_heavy 1 = .ok (.getfield 25, 3) := by decide +kernel
theorem dX4_heavy_4 : decode cX4_heavy 4 = .ok (.aload_n 0, 1) := by decide +kernel
theorem dX4_heavy_5 : decode cX4_heavy 5 = .ok (.getfield 12, 3) := by decide +kernel
theorem dX4_heavy_8 : decode cX4_heavy 8 = .ok (.invokevirtual 112, 3) := by decide +kernel
theorem dX4_heavy_11 : decode cX4_heavy 11 = .ok (.iconst 0, 1) := by decide +kernel
theorem dX4_heavy_12 : decode cX4_heavy 12 = .ok (.istore_n 1, 1) := by decide +kernel
theorem dX4_heavy_13 : decode cX4_heavy 13 = .ok (.iconst (-1), 1) := by decide +kernel
theorem dX4_heavy_14 : decode cX4_heavy 14 = .ok (.istore_n 2, 1) := by decide +kernel
theorem dX4_heavy_15 : decode cX4_heavy 15 = .ok (.iconst 0, 1) := by decide +kernel
theorem dX4_heavy_16 : decode cX4_heavy 16 = .ok (.istore_n 3, 1) := by decide +kernel
theorem dX4_heavy_17 : decode cX4_heavy 17 = .ok (.iload_n 3, 1) := by decide +kernel
theorem dX4_heavy_18 : decode cX4_heavy 18 = .ok (.bipush 8, 2) := by decide +kernel
theorem dX4_heavy_20 : decode cX4_heavy 20 = .ok (.if_icmp .ge 30, 3) := by decide +kernel
theorem dX4_heavy_23 : decode cX4_heavy 23 = .ok (.aload_n 0, 1) := by decide +kernel
theorem dX4_heavy_24 : decode cX4_heavy 24 = .ok (.getfield 25, 3) := by decide +kernel
theorem dX4_heavy_27 : decode cX4_heavy 27 = .ok (.iload_n 3, 1) := by decide +kernel
theorem dX4_heavy_28 : decode cX4_heavy 28 = .ok (.invokevirtual 209, 3) := by decide +kernel
theorem dX4_heavy_31 : decode cX4_heavy 31 = .ok (.istore 4, 2) := by decide +kernel
theorem dX4_heavy_33 : decode cX4_heavy 33 = .ok (.iload 4, 2) := by decide +kernel
theorem dX4_heavy_35 : decode cX4_heavy 35 = .ok (.iload_n 2, 1) := by decide +kernel
theorem dX4_heavy_36 : decode cX4_heavy 36 = .ok (.if_icmp .le 8, 3) := by decide +kernel
theorem dX4_heavy_39 : decode cX4_heavy 39 = .ok (.iload 4, 2) := by decide +kernel
theorem dX4_heavy_41 : decode cX4_heavy 41 = .ok (.istore_n 2, 1) := by decide +kernel
theorem dX4_heavy_42 : decode cX4_heavy 42 = .ok (.iload_n 3, 1) := by decide +kernel
theorem dX4_heavy_43 : decode cX4_heavy 43 = .ok (.istore_n 1, 1) := by decide +kernel
theorem dX4_heavy_44 : decode cX4_heavy 44 = .ok (.iinc 3 1, 3) := by decide +kernel
theorem dX4_heavy_47 : decode cX4_heavy 47 = .ok (.goto (-30), 3) := by decide +kernel
theorem dX4_heavy_50 : decode cX4_heavy 50 = .ok (.iload_n 1, 1) := by decide +kernel
theorem dX4_heavy_51 : decode cX4_heavy 51 = .ok (.ireturn, 1) := by decide +kernel
theorem dX4_seed_0 : decode cX4_seed 0 = .ok (.aload_n 0, 1) := by decide +kernel
theorem dX4_seed_1 : decode cX4_seed 1 = .ok (.getfield 12, 3) := by decide +kernel
theorem dX4_seed_4 : decode cX4_seed 4 = .ok (.getfield 212, 3) := by decide +kernel
theorem dX4_seed_7 : decode cX4_seed 7 = .ok (.istore_n 2, 1) := by decide +kernel
theorem dX4_seed_8 : decode cX4_seed 8 = .ok (.aload_n 0, 1) := by decide +kernel
theorem dX4_seed_9 : decode cX4_seed 9 = .ok (.getfield 12, 3) := by decide +kernel
theorem dX4_seed_12 : decode cX4_seed 12 = .ok (.iload_n 1, 1) := by decide +kernel
theorem dX4_seed_13 : decode cX4_seed 13 = .ok (.putfield 212, 3) := by decide +kernel
theorem dX4_seed_16 : decode cX4_seed 16 = .ok (.iload_n 2, 1) := by decide +kernel
theorem dX4_seed_17 : decode cX4_seed 17 = .ok (.ireturn, 1) := by decide +kernel
theorem dX4_feed_0 : decode cX4_feed 0 = .ok (.iload_n 2, 1) := by decide +kernel
theorem dX4_feed_1 : decode cX4_feed 1 = .ok (.iconst 1, 1) := by decide +kernel
theorem dX4_feed_2 : decode cX4_feed 2 = .ok (.iconst 4, 1) := by decide +kernel
theorem dX4_feed_3 : decode cX4_feed 3 = .ok (.invokestatic 61, 3) := by decide +kernel
theorem dX4_feed_6 : decode cX4_feed 6 = .ok (.ifCond .ne 10, 3) := by decide +kernel
theorem dX4_feed_9 : decode cX4_feed 9 = .ok (.aload_n 0, 1) := by decide +kernel
theorem dX4_feed_10 : decode cX4_feed 10 = .ok (.ldc 65, 2) := by decide +kernel
theorem dX4_feed_12 : decode cX4_feed 12 = .ok (.invokevirtual 66, 3) := by decide +kernel
theorem dX4_feed_15 : decode cX4_feed 15 = .ok (.ireturn, 1) := by decide +kernel
theorem dX4_feed_16 : decode cX4_feed 16 = .ok (.aload_n 0, 1) := by decide +kernel
theorem dX4_feed_17 : decode cX4_feed 17 = .ok (.getfield 32, 3) := by decide +kernel
theorem dX4_feed_20 : decode cX4_feed 20 = .ok (.getfield 215, 3) := by decide +kernel
theorem dX4_feed_23 : decode cX4_feed 23 = .ok (.iload_n 2, 1) := by decide +kernel
theorem dX4_feed_24 : decode cX4_feed 24 = .ok (.iadd, 1) := by decide +kernel
theorem dX4_feed_25 : decode cX4_feed 25 = .ok (.bipush 120, 2) := by decide +kernel
theorem dX4_feed_27 : decode cX4_feed 27 = .ok (.if_icmp .le 10, 3) := by decide +kernel
theorem dX4_feed_30 : decode cX4_feed 30 = .ok (.aload_n 0, 1) := by decide +kernel
theorem dX4_feed_31 : decode cX4_feed 31 = .ok (.ldc 84, 2) := by decide +kernel
theorem dX4_feed_33 : decode cX4_feed 33 = .ok (.invokevirtual 66, 3) := by decide +kernel
theorem dX4_feed_36 : decode cX4_feed 36 = .ok (.ireturn, 1) := by decide +kernel
theorem dX4_feed_37 : decode cX4_feed 37 = .ok (.iload_n 2, 1) := by decide +kernel
theorem dX4_feed_38 : decode cX4_feed 38 = .ok (.iconst 1, 1) := by decide +kernel
theorem dX4_feed_39 : decode cX4_feed 39 = .ok (.isub, 1) := by decide +kernel
theorem dX4_feed_40 : decode cX4_feed 40 = .ok (.istore_n 3, 1) := by decide +kernel
theorem dX4_feed_41 : decode cX4_feed 41 = .ok (.iload_n 3, 1) := by decide +kernel
theorem dX4_feed_42 : decode cX4_feed 42 = .ok (.ifCond .lt 22, 3) := by decide +kernel
theorem dX4_feed_45 : decode cX4_feed 45 = .ok (.aload_n 0, 1) := by decide +kernel
theorem dX4_feed_46 : decode cX4_feed 46 = .ok (.getfield 32, 3) := by decide +kernel
theorem dX4_feed_49 : decode cX4_feed 49 = .ok (.iload_n 1, 1) := by decide +kernel
theorem dX4_feed_50 : decode cX4_feed 50 = .ok (.bipush 8, 2) := by decide +kernel
theorem dX4_feed_52 : decode cX4_feed 52 = .ok (.iload_n 3, 1) := by decide +kernel
theorem dX4_feed_53 : decode cX4_feed 53 = .ok (.imul, 1) := by decide +kernel
theorem dX4_feed_54 : decode cX4_feed 54 = .ok (.iushr, 1) := by decide +kernel
theorem dX4_feed_55 : decode cX4_feed 55 = .ok (.invokevirtual 218, 3) := by decide +kernel
theorem dX4_feed_58 : decode cX4_feed 58 = .ok (.iinc 3 (-1), 3) := by decide +kernel
theorem dX4_feed_61 : decode cX4_feed 61 = .ok (.goto (-20), 3) := by decide +kernel
theorem dX4_feed_64 : decode cX4_feed 64 = .ok (.aload_n 0, 1) := by decide +kernel
theorem dX4_feed_65 : decode cX4_feed 65 = .ok (.getfield 32, 3) := by decide +kernel
theorem dX4_feed_68 : decode cX4_feed 68 = .ok (.getfield 215, 3) := by decide +kernel
theorem dX4_feed_71 : decode cX4_feed 71 = .ok (.ireturn, 1) := by decide +kernel
theorem dX4_wipe_0 : decode cX4_wipe 0 = .ok (.aload_n 0, 1) := by decide +kernel
theorem dX4_wipe_1 : decode cX4_wipe 1 = .ok (.getfield 32, 3) := by decide +kernel
theorem dX4_wipe_4 : decode cX4_wipe 4 = .ok (.getfield 215, 3) := by decide +kernel
theorem dX4_wipe_7 : decode cX4_wipe 7 = .ok (.istore_n 1, 1) := by decide +kernel
theorem dX4_wipe_8 : decode cX4_wipe 8 = .ok (.aload_n 0, 1) := by decide +kernel
theorem dX4_wipe_9 : decode cX4_wipe 9 = .ok (.getfield 32, 3) := by decide +kernel
theorem dX4_wipe_12 : decode cX4_wipe 12 = .ok (.iconst 0, 1) := by decide +kernel
theorem dX4_wipe_13 : decode cX4_wipe 13 = .ok (.putfield 215, 3) := by decide +kernel
theorem dX4_wipe_16 : decode cX4_wipe 16 = .ok (.iload_n 1, 1) := by decide +kernel
theorem dX4_wipe_17 : decode cX4_wipe 17 = .ok (.ireturn, 1) := by decide +kernel
theorem dX4_text_0 : decode cX4_text 0 = .ok (.aload_n 0, 1) := by decide +kernel
theorem dX4_text_1 : decode cX4_text 1 = .ok (.getfield 19, 3) := by decide +kernel
theorem dX4_text_4 : decode cX4_text 4 = .ok (.aload_n 0, 1) := by decide +kernel
theorem dX4_text_5 : decode cX4_text 5 = .ok (.getfield 12, 3) := by decide +kernel
theorem dX4_text_8 : decode cX4_text 8 = .ok (.invokevirtual 221, 3) := by decide +kernel
theorem dX4_text_11 : decode cX4_text 11 = .ok (.aload_n 0, 1) := by decide +kernel
theorem dX4_text_12 : decode cX4_text 12 = .ok (.getfield 32, 3) := by decide +kernel
theorem dX4_text_15 : decode cX4_text 15 = .ok (.aload_n 0, 1) := by decide +kernel
theorem dX4_text_16 : decode cX4_text 16 = .ok (.getfield 19, 3) := by decide +kernel
theorem dX4_text_19 : decode cX4_text 19 = .ok (.invokevirtual 224, 3) := by decide +kernel
theorem dX4_text_22 : decode cX4_text 22 = .ok (.istore_n 1, 1) := by decide +kernel
theorem dX4_text_23 : decode cX4_text 23 = .ok (.aload_n 0, 1) := by decide +kernel
theorem dX4_text_24 : decode cX4_text 24 = .ok (.getfield 32, 3) := by decide +kernel
theorem dX4_text_27 : decode cX4_text 27 = .ok (.iconst 0, 1) := by decide +kernel
theorem dX4_text_28 : decode cX4_text 28 = .ok (.putfield 215, 3) := by decide +kernel
theorem dX4_text_31 : decode cX4_text 31 = .ok (.iload_n 1, 1) := by decide +kernel
theorem dX4_text_32 : decode cX4_text 32 = .ok (.ifCond .le 14, 3) := by decide +kernel
theorem dX4_text_35 : decode cX4_text 35 = .ok (.aload_n 0, 1) := by decide +kernel
theorem dX4_text_36 : decode cX4_text 36 = .ok (.getfield 12, 3) := by decide +kernel
theorem dX4_text_39 : decode cX4_text 39 = .ok (.aload_n 0, 1) := by decide +kernel
theorem dX4_text_40 : decode cX4_text 40 = .ok (.getfield 19, 3) := by decide +kernel
theorem dX4_text_43 : decode cX4_text 43 = .ok (.invokevirtual 221, 3) := by decide +kernel
theorem dX4_text_46 : decode cX4_text 46 = .ok (.iload_n 1, 1) := by decide +kernel
theorem dX4_text_47 : decode cX4_text 47 = .ok (.ireturn, 1) := by decide +kernel
theorem dX4_hold_0 : decode cX4_hold 0 = .ok (.iload_n 1, 1) := by decide +kernel
theorem dX4_hold_1 : decode cX4_hold 1 = .ok (.invokestatic 228, 3) := by decide +kernel
theorem dX4_hold_4 : decode cX4_hold 4 = .ok (.ifCond .eq 16, 3) := by decide +kernel
theorem dX4_hold_7 : decode cX4_hold 7 = .ok (.iload_n 2, 1) := by decide +kernel
theorem dX4_hold_8 : decode cX4_hold 8 = .ok (.iconst (-1), 1) := by decide +kernel
theorem dX4_hold_9 : decode cX4_hold 9 = .ok (.if_icmp .eq 18, 3) := by decide +kernel
theorem dX4_hold_12 : decode cX4_hold 12 = .ok (.aload_n 0, 1) := by decide +kernel
theorem dX4_hold_13 : decode cX4_hold 13 = .ok (.iload_n 2, 1) := by decide +kernel
theorem dX4_hold_14 : decode cX4_hold 14 = .ok (.invokevirtual 150, 3) := by decide +kernel
theorem dX4_hold_17 : decode cX4_hold 17 = .ok (.ifCond .ne 10, 3) := by decide +kernel
theorem dX4_hold_20 : decode cX4_hold 20 = .ok (.aload_n 0, 1) := by decide +kernel
theorem dX4_hold_21 : decode cX4_hold 21 = .ok (.ldc 65, 2) := by decide +kernel
theorem dX4_hold_23 : decode cX4_hold 23 = .ok (.invokevirtual 66, 3) := by decide +kernel
theorem dX4_hold_26 : decode cX4_hold 26 = .ok (.ireturn, 1) := by decide +kernel
theorem dX4_hold_27 : decode cX4_hold 27 = .ok (.aload_n 0, 1) := by decide +kernel
theorem dX4_hold_28 : decode cX4_hold 28 = .ok (.getfield 12, 3) := by decide +kernel
theorem dX4_hold_31 : decode cX4_hold 31 = .ok (.getfield 231, 3) := by decide +kernel
theorem dX4_hold_34 : decode cX4_hold 34 = .ok (.iload_n 1, 1) := by decide +kernel
theorem dX4_hold_35 : decode cX4_hold 35 = .ok (.iload_n 2, 1) := by decide +kernel
theorem dX4_hold_36 : decode cX4_hold 36 = .ok (.iastore, 1) := by decide +kernel
theorem dX4_hold_37 : decode cX4_hold 37 = .ok (.iconst 1, 1) := by decide +kernel
theorem dX4_hold_38 : decode cX4_hold 38 = .ok (.ireturn, 1) := by decide +kernel
theorem dX4_as_0 : decode cX4_as 0 = .ok (.iload_n 1, 1) := by decide +kernel
theorem dX4_as_1 : decode cX4_as 1 = .ok (.invokestatic 228, 3) := by decide +kernel
theorem dX4_as_4 : decode cX4_as 4 = .ok (.ifCond .eq 10, 3) := by decide +kernel
theorem dX4_as_7 : decode cX4_as 7 = .ok (.iload_n 2, 1) := by decide +kernel
theorem dX4_as_8 : decode cX4_as 8 = .ok (.invokestatic 138, 3) := by decide +kernel
theorem dX4_as_11 : decode cX4_as 11 = .ok (.ifCond .ne 10, 3) := by decide +kernel
theorem dX4_as_14 : decode cX4_as 14 = .ok (.aload_n 0, 1) := by decide +kernel
theorem dX4_as_15 : decode cX4_as 15 = .ok (.ldc 65, 2) := by decide +kernel
theorem dX4_as_17 : decode cX4_as 17 = .ok (.invokevirtual 66, 3) := by decide +kernel
theorem dX4_as_20 : decode cX4_as 20 = .ok (.ireturn, 1) := by decide +kernel
theorem dX4_as_21 : decode cX4_as 21 = .ok (.aload_n 0, 1) := by decide +kernel
theorem dX4_as_22 : decode cX4_as 22 = .ok (.getfield 12, 3) := by decide +kernel
theorem dX4_as_25 : decode cX4_as 25 = .ok (.getfield 231, 3) := by decide +kernel
theorem dX4_as_28 : decode cX4_as 28 = .ok (.iload_n 1, 1) := by decide +kernel
theorem dX4_as_29 : decode cX4_as 29 = .ok (.iaload, 1) := by decide +kernel
theorem dX4_as_30 : decode cX4_as 30 = .ok (.istore_n 3, 1) := by decide +kernel
theorem dX4_as_31 : decode cX4_as 31 = .ok (.aload_n 0, 1) := by decide +kernel
theorem dX4_as_32 : decode cX4_as 32 = .ok (.iload_n 3, 1) := by decide +kernel
theorem dX4_as_33 : decode cX4_as 33 = .ok (.invokevirtual 150, 3) := by decide +kernel
theorem dX4_as_36 : decode cX4_as 36 = .ok (.ifCond .ne 10, 3) := by decide +kernel
theorem dX4_as_39 : decode cX4_as 39 = .ok (.aload_n 0, 1) := by decide +kernel
theorem dX4_as_40 : decode cX4_as 40 = .ok (.ldc 234, 2) := by decide +kernel
theorem dX4_as_42 : decode cX4_as 42 = .ok (.invokevirtual 66, 3) := by decide +kernel
theorem dX4_as_45 : decode cX4_as 45 = .ok (.ireturn, 1) := by decide +kernel
theorem dX4_as_46 : decode cX4_as 46 = .ok (.aload_n 0, 1) := by decide +kernel
theorem dX4_as_47 : decode cX4_as 47 = .ok (.getfield 12, 3) := by decide +kernel
theorem dX4_as_50 : decode cX4_as 50 = .ok (.getfield 153, 3) := by decide +kernel
theorem dX4_as_53 : decode cX4_as 53 = .ok (.iload_n 3, 1) := by decide +kernel
theorem dX4_as_54 : decode cX4_as 54 = .ok (.iaload, 1) := by decide +kernel
theorem dX4_as_55 : decode cX4_as 55 = .ok (.iload_n 2, 1) := by decide +kernel
theorem dX4_as_56 : decode cX4_as 56 = .ok (.invokestatic 235, 3) := by decide +kernel
theorem dX4_as_59 : decode cX4_as 59 = .ok (.ifCond .eq 7, 3) := by decide +kernel
theorem dX4_as_62 : decode cX4_as 62 = .ok (.iload_n 3, 1) := by decide +kernel
theorem dX4_as_63 : decode cX4_as 63 = .ok (.goto 9, 3) := by decide +kernel
theorem dX4_as_66 : decode cX4_as 66 = .ok (.aload_n 0, 1) := by decide +kernel
theorem dX4_as_67 : decode cX4_as 67 = .ok (.ldc 239, 2) := by decide +kernel
theorem dX4_as_69 : decode cX4_as 69 = .ok (.invokevirtual 66, 3) := by decide +kernel
theorem dX4_as_72 : decode cX4_as 72 = .ok (.ireturn, 1) := by decide +kernel
theorem dX4_sheet_0 : decode cX4_sheet 0 = .ok (.iload_n 1, 1) := by decide +kernel
theorem dX4_sheet_1 : decode cX4_sheet 1 = .ok (.invokestatic 240, 3) := by decide +kernel
theorem dX4_sheet_4 : decode cX4_sheet 4 = .ok (.ifCond .eq 25, 3) := by decide +kernel
theorem dX4_sheet_7 : decode cX4_sheet 7 = .ok (.iload_n 2, 1) := by decide +kernel
theorem dX4_sheet_8 : decode cX4_sheet 8 = .ok (.ifCond .eq 28, 3) := by decide +kernel
theorem dX4_sheet_11 : decode cX4_sheet 11 = .ok (.iload_n 2, 1) := by decide +kernel
theorem dX4_sheet_12 : decode cX4_sheet 12 = .ok (.bipush 8, 2) := by decide +kernel
theorem dX4_sheet_14 : decode cX4_sheet 14 = .ok (.if_icmp .eq 22, 3) := by decide +kernel
theorem dX4_sheet_17 : decode cX4_sheet 17 = .ok (.iload_n 2, 1) := by decide +kernel
theorem dX4_sheet_18 : decode cX4_sheet 18 = .ok (.bipush 16, 2) := by decide +kernel
theorem dX4_sheet_20 : decode cX4_sheet 20 = .ok (.if_icmp .eq 16, 3) := by decide +kernel
theorem dX4_sheet_23 : decode cX4_sheet 23 = .ok (.iload_n 2, 1) := by decide +kernel
theorem dX4_sheet_24 : decode cX4_sheet 24 = .ok (.bipush 32, 2) := by decide +kernel
theorem dX4_sheet_26 : decode cX4_sheet 26 = .ok (.if_icmp .eq 10, 3) := by decide +kernel
theorem dX4_sheet_29 : decode cX4_sheet 29 = .ok (.aload_n 0, 1) := by decide +kernel
theorem dX4_sheet_30 : decode cX4_sheet 30 = .ok (.ldc 65, 2) := by decide +kernel
theorem dX4_sheet_32 : decode cX4_sheet 32 = .ok (.invokevirtual 66, 3) := by decide +kernel
theorem dX4_sheet_35 : decode cX4_sheet 35 = .ok (.ireturn, 1) := by decide +kernel
theorem dX4_sheet_36 : decode cX4_sheet 36 = .ok (.iload_n 3, 1) := by decide +kernel
theorem dX4_sheet_37 : decode cX4_sheet 37 = .ok (.ifCond .ge 10, 3) := by decide +kernel
theorem dX4_sheet_40 : decode cX4_sheet 40 = .ok (.aload_n 0, 1) := by decide +kernel
theorem dX4_sheet_41 : decode cX4_sheet 41 = .ok (.ldc 243, 2) := by decide +kernel
theorem dX4_sheet_43 : decode cX4_sheet 43 = .ok (.invokevirtual 66, 3) := by decide +kernel
theorem dX4_sheet_46 : decode cX4_sheet 46 = .ok (.ireturn, 1) := by decide +kernel
theorem dX4_sheet_47 : decode cX4_sheet 47 = .ok (.iload_n 3, 1) := by decide +kernel
theorem dX4_sheet_48 : decode cX4_sheet 48 = .ok (.bipush 40, 2) := by decide +kernel
theorem dX4_sheet_50 : decode cX4_sheet 50 = .ok (.if_icmp .le 10, 3) := by decide +kernel
theorem dX4_sheet_53 : decode cX4_sheet 53 = .ok (.aload_n 0, 1) := by decide +kernel
theorem dX4_sheet_54 : decode cX4_sheet 54 = .ok (.ldc 65, 2) := by decide +kernel
theorem dX4_sheet_56 : decode cX4_sheet 56 = .ok (.invokevirtual 66, 3) := by decide +kernel
theorem dX4_sheet_59 : decode cX4_sheet 59 = .ok (.ireturn, 1) := by decide +kernel
theorem dX4_sheet_60 : decode cX4_sheet 60 = .ok (.aload_n 0, 1) := by decide +kernel
theorem dX4_sheet_61 : decode cX4_sheet 61 = .ok (.getfield 38, 3) := by decide +kernel
theorem dX4_sheet_64 : decode cX4_sheet 64 = .ok (.iload_n 1, 1) := by decide +kernel
theorem dX4_sheet_65 : decode cX4_sheet 65 = .ok (.aaload, 1) := by decide +kernel
theorem dX4_sheet_66 : decode cX4_sheet 66 = .ok (.iload_n 2, 1) := by decide +kernel
theorem dX4_sheet_67 : decode cX4_sheet 67 = .ok (.iload_n 3, 1) := by decide +kernel
theorem dX4_sheet_68 : decode cX4_sheet 68 = .ok (.invokevirtual 244, 3) := by decide +kernel
theorem dX4_sheet_71 : decode cX4_sheet 71 = .ok (.aload_n 0, 1) := by decide +kernel
theorem dX4_sheet_72 : decode cX4_sheet 72 = .ok (.getfield 38, 3) := by decide +kernel
theorem dX4_sheet_75 : decode cX4_sheet 75 = .ok (.iload_n 1, 1) := by decide +kernel
theorem dX4_sheet_76 : decode cX4_sheet 76 = .ok (.aaload, 1) := by decide +kernel
theorem dX4_sheet_77 : decode cX4_sheet 77 = .ok (.getfield 247, 3) := by decide +kernel
theorem dX4_sheet_80 : decode cX4_sheet 80 = .ok (.ireturn, 1) := by decide +kernel
theorem dX4_write_0 : decode cX4_write 0 = .ok (.iload_n 1, 1) := by decide +kernel
theorem dX4_write_1 : decode cX4_write 1 = .ok (.invokestatic 240, 3) := by decide +kernel
theorem dX4_write_4 : decode cX4_write 4 = .ok (.ifCond .ne 10, 3) := by decide +kernel
theorem dX4_write_7 : decode cX4_write 7 = .ok (.aload_n 0, 1) := by decide +kernel
theorem dX4_write_8 : decode cX4_write 8 = .ok (.ldc 65, 2) := by decide +kernel
theorem dX4_write_10 : decode cX4_write 10 = .ok (.invokevirtual 66, 3) := by decide +kernel
theorem dX4_write_13 : decode cX4_write 13 = .ok (.ireturn, 1) := by decide +kernel
theorem dX4_write_14 : decode cX4_write 14 = .ok (.aload_n 0, 1) := by decide +kernel
theorem dX4_write_15 : decode cX4_write 15 = .ok (.getfield 38, 3) := by decide +kernel
theorem dX4_write_18 : decode cX4_write 18 = .ok (.iload_n 1, 1) := by decide +kernel
theorem dX4_write_19 : decode cX4_write 19 = .ok (.aaload, 1) := by decide +kernel
theorem dX4_write_20 : decode cX4_write 20 = .ok (.invokevirtual 250, 3) := by decide +kernel
theorem dX4_write_23 : decode cX4_write 23 = .ok (.ifCond .eq 10, 3) := by decide +kernel
theorem dX4_write_26 : decode cX4_write 26 = .ok (.aload_n 0, 1) := by decide +kernel
theorem dX4_write_27 : decode cX4_write 27 = .ok (.ldc 234, 2) := by decide +kernel
theorem dX4_write_29 : decode cX4_write 29 = .ok (.invokevirtual 66, 3) := by decide +kernel
theorem dX4_write_32 : decode cX4_write 32 = .ok (.ireturn, 1) := by decide +kernel
theorem dX4_write_33 : decode cX4_write 33 = .ok (.iload_n 2, 1) := by decide +kernel
theorem dX4_write_34 : decode cX4_write 34 = .ok (.iconst 0, 1) := by decide +kernel
theorem dX4_write_35 : decode cX4_write 35 = .ok (.aload_n 0, 1) := by decide +kernel
theorem dX4_write_36 : decode cX4_write 36 = .ok (.getfield 38, 3) := by decide +kernel
theorem dX4_write_39 : decode cX4_write 39 = .ok (.iload_n 1, 1) := by decide +kernel
theorem dX4_write_40 : decode cX4_write 40 = .ok (.aaload, 1) := by decide +kernel
theorem dX4_write_41 : decode cX4_write 41 = .ok (.getfield 247, 3) := by decide +kernel
theorem dX4_write_44 : decode cX4_write 44 = .ok (.iconst 1, 1) := by decide +kernel
theorem dX4_write_45 : decode cX4_write 45 = .ok (.isub, 1) := by decide +kernel
theorem dX4_write_46 : decode cX4_write 46 = .ok (.invokestatic 61, 3) := by decide +kernel
theorem dX4_write_49 : decode cX4_write 49 = .ok (.ifCond .ne 10, 3) := by decide +kernel
theorem dX4_write_52 : decode cX4_write 52 = .ok (.aload_n 0, 1) := by decide +kernel
theorem dX4_write_53 : decode cX4_write 53 = .ok (.ldc 65, 2) := by decide +kernel
theorem dX4_write_55 : decode cX4_write 55 = .ok (.invokevirtual 66, 3) := by decide +kernel
theorem dX4_write_58 : decode cX4_write 58 = .ok (.ireturn, 1) := by decide +kernel
theorem dX4_write_59 : decode cX4_write 59 = .ok (.aload_n 0, 1) := by decide +kernel
theorem dX4_write_60 : decode cX4_write 60 = .ok (.getfield 38, 3) := by decide +kernel
theorem dX4_write_63 : decode cX4_write 63 = .ok (.iload_n 1, 1) := by decide +kernel
theorem dX4_write_64 : decode cX4_write 64 = .ok (.aaload, 1) := by decide +kernel
theorem dX4_write_65 : decode cX4_write 65 = .ok (.iload_n 2, 1) := by decide +kernel
theorem dX4_write_66 : decode cX4_write 66 = .ok (.iload_n 3, 1) := by decide +kernel
theorem dX4_write_67 : decode cX4_write 67 = .ok (.invokevirtual 254, 3) := by decide +kernel
theorem dX4_write_70 : decode cX4_write 70 = .ok (.iconst 1, 1) := by decide +kernel
theorem dX4_write_71 : decode cX4_write 71 = .ok (.ireturn, 1) := by decide +kernel
theorem dX4_copy_0 : decode cX4_copy 0 = .ok (.iload_n 1, 1) := by decide +kernel
theorem dX4_copy_1 : decode cX4_copy 1 = .ok (.invokestatic 240, 3) := by decide +kernel
theorem dX4_copy_4 : decode cX4_copy 4 = .ok (.ifCond .eq 10, 3) := by decide +kernel
theorem dX4_copy_7 : decode cX4_copy 7 = .ok (.iload_n 3, 1) := by decide +kernel
theorem dX4_copy_8 : decode cX4_copy 8 = .ok (.invokestatic 240, 3) := by decide +kernel
theorem dX4_copy_11 : decode cX4_copy 11 = .ok (.ifCond .ne 10, 3) := by decide +kernel
theorem dX4_copy_14 : decode cX4_copy 14 = .ok (.aload_n 0, 1) := by decide +kernel
theorem dX4_copy_15 : decode cX4_copy 15 = .ok (.ldc 65, 2) := by decide +kernel
theorem dX4_copy_17 : decode cX4_copy 17 = .ok (.invokevirtual 66, 3) := by decide +kernel
theorem dX4_copy_20 : decode cX4_copy 20 = .ok (.ireturn, 1) := by decide +kernel
theorem dX4_copy_21 : decode cX4_copy 21 = .ok (.aload_n 0, 1) := by decide +kernel
theorem dX4_copy_22 : decode cX4_copy 22 = .ok (.getfield 38, 3) := by decide +kernel
theorem dX4_copy_25 : decode cX4_copy 25 = .ok (.iload_n 1, 1) := by decide +kernel
theorem dX4_copy_26 : decode cX4_copy 26 = .ok (.aaload, 1) := by decide +kernel
theorem dX4_copy_27 : decode cX4_copy 27 = .ok (.astore 6, 2) := by decide +kernel
theorem dX4_copy_29 : decode cX4_copy 29 = .ok (.aload_n 0, 1) := by decide +kernel
theorem dX4_copy_30 : decode cX4_copy 30 = .ok (.getfield 38, 3) := by decide +kernel
theorem dX4_copy_33 : decode cX4_copy 33 = .ok (.iload_n 3, 1) := by decide +kernel
theorem dX4_copy_34 : decode cX4_copy 34 = .ok (.aaload, 1) := by decide +kernel
theorem dX4_copy_35 : decode cX4_copy 35 = .ok (.astore 7, 2) := by decide +kernel
theorem dX4_copy_37 : decode cX4_copy 37 = .ok (.aload 6, 2) := by decide +kernel
theorem dX4_copy_39 : decode cX4_copy 39 = .ok (.invokevirtual 250, 3) := by decide +kernel
theorem dX4_copy_42 : decode cX4_copy 42 = .ok (.ifCond .ne 11, 3) := by decide +kernel
theorem dX4_copy_45 : decode cX4_copy 45 = .ok (.aload 7, 2) := by decide +kernel
theorem dX4_copy_47 : decode cX4_copy 47 = .ok (.invokevirtual 250, 3) := by decide +kernel
theorem dX4_copy_50 : decode cX4_copy 50 = .ok (.ifCond .eq 10, 3) := by decide +kernel
theorem dX4_copy_53 : decode cX4_copy 53 = .ok (.aload_n 0, 1) := by decide +kernel
theorem dX4_copy_54 : decode cX4_copy 54 = .ok (.ldc 234, 2) := by decide +kernel
theorem dX4_copy_56 : decode cX4_copy 56 = .ok (.invokevirtual 66, 3) := by decide +kernel
theorem dX4_copy_59 : decode cX4_copy 59 = .ok (.ireturn, 1) := by decide +kernel
theorem dX4_copy_60 : decode cX4_copy 60 = .ok (.aload 6, 2) := by decide +kernel
theorem dX4_copy_62 : decode cX4_copy 62 = .ok (.getfield 257, 3) := by decide +kernel
theorem dX4_copy_65 : decode cX4_copy 65 = .ok (.aload 7, 2) := by decide +kernel
theorem dX4_copy_67 : decode cX4_copy 67 = .ok (.getfield 257, 3) := by decide +kernel
theorem dX4_copy_70 : decode cX4_copy 70 = .ok (.if_icmp .eq 10, 3) := by decide +kernel
theorem dX4_copy_73 : decode cX4_copy 73 = .ok (.aload_n 0, 1) := by decide +kernel
theorem dX4_copy_74 : decode cX4_copy 74 = .ok (.ldc 239, 2) := by decide +kernel
theorem dX4_copy_76 : decode cX4_copy 76 = .ok (.invokevirtual 66, 3) := by decide +kernel
theorem dX4_copy_79 : decode cX4_copy 79 = .ok (.ireturn, 1) := by decide +kernel
theorem dX4_copy_80 : decode cX4_copy 80 = .ok (.aload 6, 2) := by decide +kernel
theorem dX4_copy_82 : decode cX4_copy 82 = .ok (.iload_n 2, 1) := by decide +kernel
theorem dX4_copy_83 : decode cX4_copy 83 = .ok (.iload 5, 2) := by decide +kernel
theorem dX4_copy_85 : decode cX4_copy 85 = .ok (.invokevirtual 260, 3) := by decide +kernel
theorem dX4_copy_88 : decode cX4_copy 88 = .ok (.ifCond .eq 15, 3) := by decide +kernel
theorem dX4_copy_91 : decode cX4_copy 91 = .ok (.aload 7, 2) := by decide +kernel
theorem dX4_copy_93 : decode cX4_copy 93 = .ok (.iload 4, 2) := by decide +kernel
theorem dX4_copy_95 : decode cX4_copy 95 = .ok (.iload 5, 2) := by decide +kernel
theorem dX4_copy_97 : decode cX4_copy 97 = .ok (.invokevirtual 260, 3) := by decide +kernel
theorem dX4_copy_100 : decode cX4_copy 100 = .ok (.ifCond .ne 10, 3) := by decide +kernel
theorem dX4_copy_103 : decode cX4_copy 103 = .ok (.aload_n 0, 1) := by decide +kernel
theorem dX4_copy_104 : decode cX4_copy 104 = .ok (.ldc 65, 2) := by decide +kernel
theorem dX4_copy_106 : decode cX4_copy 106 = .ok (.invokevirtual 66, 3) := by decide +kernel
theorem dX4_copy_109 : decode cX4_copy 109 = .ok (.ireturn, 1) := by decide +kernel
theorem dX4_copy_110 : decode cX4_copy 110 = .ok (.aload 6, 2) := by decide +kernel
theorem dX4_copy_112 : decode cX4_copy 112 = .ok (.getfield 263, 3) := by decide +kernel
theorem dX4_copy_115 : decode cX4_copy 115 = .ok (.iload_n 2, 1) := by decide +kernel
theorem dX4_copy_116 : decode cX4_copy 116 = .ok (.aload 7, 2) := by decide +kernel
theorem dX4_copy_118 : decode cX4_copy 118 = .ok (.getfield 263, 3) := by decide +kernel
theorem dX4_copy_121 : decode cX4_copy 121 = .ok (.iload 4, 2) := by decide +kernel
theorem dX4_copy_123 : decode cX4_copy 123 = .ok (.iload 5, 2) := by decide +kernel
theorem dX4_copy_125 : decode cX4_copy 125 = .ok (.invokestatic 266, 3) := by decide +kernel
theorem dX4_copy_128 : decode cX4_copy 128 = .ok (.iload 5, 2) := by decide +kernel
theorem dX4_copy_130 : decode cX4_copy 130 = .ok (.ireturn, 1) := by decide +kernel
theorem dX4_load_0 : decode cX4_load 0 = .ok (.iload_n 1, 1) := by decide +kernel
theorem dX4_load_1 : decode cX4_load 1 = .ok (.invokestatic 240, 3) := by decide +kernel
theorem dX4_load_4 : decode cX4_load 4 = .ok (.ifCond .ne 10, 3) := by decide +kernel
theorem dX4_load_7 : decode cX4_load 7 = .ok (.aload_n 0, 1) := by decide +kernel
theorem dX4_load_8 : decode cX4_load 8 = .ok (.ldc 65, 2) := by decide +kernel
theorem dX4_load_10 : decode cX4_load 10 = .ok (.invokevirtual 66, 3) := by decide +kernel
theorem dX4_load_13 : decode cX4_load 13 = .ok (.ireturn, 1) := by decide +kernel
theorem dX4_load_14 : decode cX4_load 14 = .ok (.aload_n 0, 1) := by decide +kernel
theorem dX4_load_15 : decode cX4_load 15 = .ok (.getfield 38, 3) := by decide +kernel
theorem dX4_load_18 : decode cX4_load 18 = .ok (.iload_n 1, 1) := by decide +kernel
theorem dX4_load_19 : decode cX4_load 19 = .ok (.aaload, 1) := by decide +kernel
theorem dX4_load_20 : decode cX4_load 20 = .ok (.astore 4, 2) := by decide +kernel
theorem dX4_load_22 : decode cX4_load 22 = .ok (.aload 4, 2) := by decide +kernel
theorem dX4_load_24 : decode cX4_load 24 = .ok (.invokevirtual 250, 3) := by decide +kernel
theorem dX4_load_27 : decode cX4_load 27 = .ok (.ifCond .eq 10, 3) := by decide +kernel
theorem dX4_load_30 : decode cX4_load 30 = .ok (.aload_n 0, 1) := by decide +kernel
theorem dX4_load_31 : decode cX4_load 31 = .ok (.ldc 234, 2) := by decide +kernel
theorem dX4_load_33 : decode cX4_load 33 = .ok (.invokevirtual 66, 3) := by decide +kernel
theorem dX4_load_36 : decode cX4_load 36 = .ok (.ireturn, 1) := by decide +kernel
theorem dX4_load_37 : decode cX4_load 37 = .ok (.aload_n 0, 1) := by decide +kernel
theorem dX4_load_38 : decode cX4_load 38 = .ok (.iload_n 2, 1) := by decide +kernel
theorem dX4_load_39 : decode cX4_load 39 = .ok (.invokevirtual 88, 3) := by decide +kernel
theorem dX4_load_42 : decode cX4_load 42 = .ok (.ifCond .eq 10, 3) := by decide +kernel
theorem dX4_load_45 : decode cX4_load 45 = .ok (.iload_n 3, 1) := by decide +kernel
theorem dX4_load_46 : decode cX4_load 46 = .ok (.invokestatic 91, 3) := by decide +kernel
theorem dX4_load_49 : decode cX4_load 49 = .ok (.ifCond .ne 10, 3) := by decide +kernel
theorem dX4_load_52 : decode cX4_load 52 = .ok (.aload_n 0, 1) := by decide +kernel
theorem dX4_load_53 : decode cX4_load 53 = .ok (.ldc 65, 2) := by decide +kernel
theorem dX4_load_55 : decode cX4_load 55 = .ok (.invokevirtual 66, 3) := by decide +kernel
theorem dX4_load_58 : decode cX4_load 58 = .ok (.ireturn, 1) := by decide +kernel
theorem dX4_load_59 : decode cX4_load 59 = .ok (.iconst 0, 1) := by decide +kernel
theorem dX4_load_60 : decode cX4_load 60 = .ok (.istore 5, 2) := by decide +kernel
theorem dX4_load_62 : decode cX4_load 62 = .ok (.iload 5, 2) := by decide +kernel
theorem dX4_load_64 : decode cX4_load 64 = .ok (.aload 4, 2) := by decide +kernel
theorem dX4_load_66 : decode cX4_load 66 = .ok (.getfield 247, 3) := by decide +kernel
theorem dX4_load_69 : decode cX4_load 69 = .ok (.if_icmp .ge 64, 3) := by decide +kernel
theorem dX4_load_72 : decode cX4_load 72 = .ok (.iload 5, 2) := by decide +kernel
theorem dX4_load_74 : decode cX4_load 74 = .ok (.bipush 8, 2) := by decide +kernel
theorem dX4_load_76 : decode cX4_load 76 = .ok (.if_icmp .ge 57, 3) := by decide +kernel
theorem dX4_load_79 : decode cX4_load 79 = .ok (.aload 4, 2) := by decide +kernel
theorem dX4_load_81 : decode cX4_load 81 = .ok (.getfield 263, 3) := by decide +kernel
theorem dX4_load_84 : decode cX4_load 84 = .ok (.iload 5, 2) := by decide +kernel
theorem dX4_load_86 : decode cX4_load 86 = .ok (.iaload, 1) := by decide +kernel
theorem dX4_load_87 : decode cX4_load 87 = .ok (.iconst 0, 1) := by decide +kernel
theorem dX4_load_88 : decode cX4_load 88 = .ok (.aload_n 0, 1) := by decide +kernel
theorem dX4_load_89 : decode cX4_load 89 = .ok (.getfield 12, 3) := by decide +kernel
theorem dX4_load_92 : decode cX4_load 92 = .ok (.getfield 70, 3) := by decide +kernel
theorem dX4_load_95 : decode cX4_load 95 = .ok (.iload 5, 2) := by decide +kernel
theorem dX4_load_97 : decode cX4_load 97 = .ok (.iaload, 1) := by decide +kernel
theorem dX4_load_98 : decode cX4_load 98 = .ok (.invokestatic 61, 3) := by decide +kernel
theorem dX4_load_101 : decode cX4_load 101 = .ok (.ifCond .eq 32, 3) := by decide +kernel
theorem dX4_load_104 : decode cX4_load 104 = .ok (.aload_n 0, 1) := by decide +kernel
theorem dX4_load_105 : decode cX4_load 105 = .ok (.getfield 12, 3) := by decide +kernel
theorem dX4_load_108 : decode cX4_load 108 = .ok (.getfield 98, 3) := by decide +kernel
theorem dX4_load_111 : decode cX4_load 111 = .ok (.iload_n 2, 1) := by decide +kernel
theorem dX4_load_112 : decode cX4_load 112 = .ok (.iload 5, 2) := by decide +kernel
theorem dX4_load_114 : decode cX4_load 114 = .ok (.iload_n 3, 1) := by decide +kernel
theorem dX4_load_115 : decode cX4_load 115 = .ok (.invokestatic 94, 3) := by decide +kernel
theorem dX4_load_118 : decode cX4_load 118 = .ok (.aload 4, 2) := by decide +kernel
theorem dX4_load_120 : decode cX4_load 120 = .ok (.getfield 263, 3) := by decide +kernel
theorem dX4_load_123 : decode cX4_load 123 = .ok (.iload 5, 2) := by decide +kernel
theorem dX4_load_125 : decode cX4_load 125 = .ok (.iaload, 1) := by decide +kernel
theorem dX4_load_126 : decode cX4_load 126 = .ok (.iastore, 1) := by decide +kernel
theorem dX4_load_127 : decode cX4_load 127 = .ok (.iinc 5 1, 3) := by decide +kernel
theorem dX4_load_130 : decode cX4_load 130 = .ok (.goto (-68), 3) := by decide +kernel
theorem dX4_load_133 : decode cX4_load 133 = .ok (.iload 5, 2) := by decide +kernel
theorem dX4_load_135 : decode cX4_load 135 = .ok (.ireturn, 1) := by decide +kernel
theorem dX4_judge_0 : decode cX4_judge 0 = .ok (.iload_n 1, 1) := by decide +kernel
theorem dX4_judge_1 : decode cX4_judge 1 = .ok (.invokestatic 240, 3) := by decide +kernel
theorem dX4_judge_4 : decode cX4_judge 4 = .ok (.ifCond .ne 10, 3) := by decide +kernel
theorem dX4_judge_7 : decode cX4_judge 7 = .ok (.aload_n 0, 1) := by decide +kernel
theorem dX4_judge_8 : decode cX4_judge 8 = .ok (.ldc 65, 2) := by decide +kernel
theorem dX4_judge_10 : decode cX4_judge 10 = .ok (.invokevirtual 66, 3) := by decide +kernel
theorem dX4_judge_13 : decode cX4_judge 13 = .ok (.ireturn, 1) := by decide +kernel
theorem dX4_judge_14 : decode cX4_judge 14 = .ok (.aload_n 0, 1) := by decide +kernel
theorem dX4_judge_15 : decode cX4_judge 15 = .ok (.getfield 38, 3) := by decide +kernel
theorem dX4_judge_18 : decode cX4_judge 18 = .ok (.iload_n 1, 1) := by decide +kernel
theorem dX4_judge_19 : decode cX4_judge 19 = .ok (.aaload, 1) := by decide +kernel
theorem dX4_judge_20 : decode cX4_judge 20 = .ok (.astore_n 3, 1) := by decide +kernel
theorem dX4_judge_21 : decode cX4_judge 21 = .ok (.aload_n 3, 1) := by decide +kernel
theorem dX4_judge_22 : decode cX4_judge 22 = .ok (.invokevirtual 250, 3) := by decide +kernel
theorem dX4_judge_25 : decode cX4_judge 25 = .ok (.ifCond .eq 10, 3) := by decide +kernel
theorem dX4_judge_28 : decode cX4_judge 28 = .ok (.aload_n 0, 1) := by decide +kernel
theorem dX4_judge_29 : decode cX4_judge 29 = .ok (.ldc 234, 2) := by decide +kernel
theorem dX4_judge_31 : decode cX4_judge 31 = .ok (.invokevirtual 66, 3) := by decide +kernel
theorem dX4_judge_34 : decode cX4_judge 34 = .ok (.ireturn, 1) := by decide +kernel
theorem dX4_judge_35 : decode cX4_judge 35 = .ok (.aload_n 0, 1) := by decide +kernel
theorem dX4_judge_36 : decode cX4_judge 36 = .ok (.iload_n 2, 1) := by decide +kernel
theorem dX4_judge_37 : decode cX4_judge 37 = .ok (.invokevirtual 150, 3) := by decide +kernel
theorem dX4_judge_40 : decode cX4_judge 40 = .ok (.ifCond .ne 10, 3) := by decide +kernel
theorem dX4_judge_43 : decode cX4_judge 43 = .ok (.aload_n 0, 1) := by decide +kernel
theorem dX4_judge_44 : decode cX4_judge 44 = .ok (.ldc 65, 2) := by decide +kernel
theorem dX4_judge_46 : decode cX4_judge 46 = .ok (.invokevirtual 66, 3) := by decide +kernel
theorem dX4_judge_49 : decode cX4_judge 49 = .ok (.ireturn, 1) := by decide +kernel
theorem dX4_judge_50 : decode cX4_judge 50 = .ok (.aload_n 0, 1) := by decide +kernel
theorem dX4_judge_51 : decode cX4_judge 51 = .ok (.iload_n 2, 1) := by decide +kernel
theorem dX4_judge_52 : decode cX4_judge 52 = .ok (.invokevirtual 162, 3) := by decide +kernel
theorem dX4_judge_55 : decode cX4_judge 55 = .ok (.iconst 0, 1) := by decide +kernel
theorem dX4_judge_56 : decode cX4_judge 56 = .ok (.istore 4, 2) := by decide +kernel
theorem dX4_judge_58 : decode cX4_judge 58 = .ok (.iload 4, 2) := by decide +kernel
theorem dX4_judge_60 : decode cX4_judge 60 = .ok (.aload_n 3, 1) := by decide +kernel
theorem dX4_judge_61 : decode cX4_judge 61 = .ok (.getfield 247, 3) := by decide +kernel
theorem dX4_judge_64 : decode cX4_judge 64 = .ok (.if_icmp .ge 38, 3) := by decide +kernel
theorem dX4_judge_67 : decode cX4_judge 67 = .ok (.iload 4, 2) := by decide +kernel
theorem dX4_judge_69 : decode cX4_judge 69 = .ok (.aload_n 0, 1) := by decide +kernel
theorem dX4_judge_70 : decode cX4_judge 70 = .ok (.getfield 12, 3) := by decide +kernel
theorem dX4_judge_73 : decode cX4_judge 73 = .ok (.getfield 80, 3) := by decide +kernel
theorem dX4_judge_76 : decode cX4_judge 76 = .ok (.if_icmp .ge 26, 3) := by decide +kernel
theorem dX4_judge_79 : decode cX4_judge 79 = .ok (.aload_n 3, 1) := by decide +kernel
theorem dX4_judge_80 : decode cX4_judge 80 = .ok (.getfield 263, 3) := by decide +kernel
theorem dX4_judge_83 : decode cX4_judge 83 = .ok (.iload 4, 2) := by decide +kernel
theorem dX4_judge_85 : decode cX4_judge 85 = .ok (.iaload, 1) := by decide +kernel
theorem dX4_judge_86 : decode cX4_judge 86 = .ok (.aload_n 0, 1) := by decide +kernel
theorem dX4_judge_87 : decode cX4_judge 87 = .ok (.getfield 42, 3) := by decide +kernel
theorem dX4_judge_90 : decode cX4_judge 90 = .ok (.iload 4, 2) := by decide +kernel
theorem dX4_judge_92 : decode cX4_judge 92 = .ok (.iaload, 1) := by decide +kernel
theorem dX4_judge_93 : decode cX4_judge 93 = .ok (.if_icmp .ne 9, 3) := by decide +kernel
theorem dX4_judge_96 : decode cX4_judge 96 = .ok (.iinc 4 1, 3) := by decide +kernel
theorem dX4_judge_99 : decode cX4_judge 99 = .ok (.goto (-41), 3) := by decide +kernel
theorem dX4_judge_102 : decode cX4_judge 102 = .ok (.iload 4, 2) := by decide +kernel
theorem dX4_judge_104 : decode cX4_judge 104 = .ok (.aload_n 3, 1) := by decide +kernel
theorem dX4_judge_105 : decode cX4_judge 105 = .ok (.getfield 247, 3) := by decide +kernel
theorem dX4_judge_108 : decode cX4_judge 108 = .ok (.if_icmp .ne 19, 3) := by decide +kernel
theorem dX4_judge_111 : decode cX4_judge 111 = .ok (.iload 4, 2) := by decide +kernel
theorem dX4_judge_113 : decode cX4_judge 113 = .ok (.aload_n 0, 1) := by decide +kernel
theorem dX4_judge_114 : decode cX4_judge 114 = .ok (.getfield 12, 3) := by decide +kernel
theorem dX4_judge_117 : decode cX4_judge 117 = .ok (.getfield 80, 3) := by decide +kernel
theorem dX4_judge_120 : decode cX4_judge 120 = .ok (.if_icmp .ne 7, 3) := by decide +kernel
theorem dX4_judge_123 : decode cX4_judge 123 = .ok (.iconst 0, 1) := by decide +kernel
theorem dX4_judge_124 : decode cX4_judge 124 = .ok (.goto 7, 3) := by decide +kernel
theorem dX4_judge_127 : decode cX4_judge 127 = .ok (.iconst 1, 1) := by decide +kernel
theorem dX4_judge_128 : decode cX4_judge 128 = .ok (.iload 4, 2) := by decide +kernel
theorem dX4_judge_130 : decode cX4_judge 130 = .ok (.iadd, 1) := by decide +kernel
theorem dX4_judge_131 : decode cX4_judge 131 = .ok (.ireturn, 1) := by decide +kernel
theorem dX4_image_0 : decode cX4_image 0 = .ok (.aload_n 0, 1) := by decide +kernel
theorem dX4_image_1 : decode cX4_image 1 = .ok (.getfield 16, 3) := by decide +kernel
theorem dX4_image_4 : decode cX4_image 4 = .ok (.aload_n 0, 1) := by decide +kernel
theorem dX4_image_5 : decode cX4_image 5 = .ok (.getfield 12, 3) := by decide +kernel
theorem dX4_image_8 : decode cX4_image 8 = .ok (.invokevirtual 221, 3) := by decide +kernel
theorem dX4_image_11 : decode cX4_image 11 = .ok (.aload_n 0, 1) := by decide +kernel
theorem dX4_image_12 : decode cX4_image 12 = .ok (.iconst 1, 1) := by decide +kernel
theorem dX4_image_13 : decode cX4_image 13 = .ok (.putfield 52, 3) := by decide +kernel
theorem dX4_image_16 : decode cX4_image 16 = .ok (.iconst 1, 1) := by decide +kernel
theorem dX4_image_17 : decode cX4_image 17 = .ok (.ireturn, 1) := by decide +kernel
theorem dX4_undo_0 : decode cX4_undo 0 = .ok (.aload_n 0, 1) := by decide +kernel
theorem dX4_undo_1 : decode cX4_undo 1 = .ok (.getfield 52, 3) := by decide +kernel
theorem dX4_undo_4 : decode cX4_undo 4 = .ok (.ifCond .ne 10, 3) := by decide +kernel
theorem dX4_undo_7 : decode cX4_undo 7 = .ok (.aload_n 0, 1) := by decide +kernel
theorem dX4_undo_8 : decode cX4_undo 8 = .ok (.ldc 111, 2) := by decide +kernel
theorem dX4_undo_10 : decode cX4_undo 10 = .ok (.invokevirtual 66, 3) := by decide +kernel
theorem dX4_undo_13 : decode cX4_undo 13 = .ok (.ireturn, 1) := by decide +kernel
theorem dX4_undo_14 : decode cX4_undo 14 = .ok (.aload_n 0, 1) := by decide +kernel
theorem dX4_undo_15 : decode cX4_undo 15 = .ok (.getfield 12, 3) := by decide +kernel
theorem dX4_undo_18 : decode cX4_undo 18 = .ok (.aload_n 0, 1) := by decide +kernel
theorem dX4_undo_19 : decode cX4_undo 19 = .ok (.getfield 16, 3) := by decide +kernel
theorem dX4_undo_22 : decode cX4_undo 22 = .ok (.invokevirtual 221, 3) := by decide +kernel
theorem dX4_undo_25 : decode cX4_undo 25 = .ok (.aload_n 0, 1) := by decide +kernel
theorem dX4_undo_26 : decode cX4_undo 26 = .ok (.getfield 12, 3) := by decide +kernel
theorem dX4_undo_29 : decode cX4_undo 29 = .ok (.getfield 80, 3) := by decide +kernel
theorem dX4_undo_32 : decode cX4_undo 32 = .ok (.ireturn, 1) := by decide +kernel
theorem dX4_tear_0 : decode cX4_tear 0 = .ok (.aload_n 0, 1) := by decide +kernel
theorem dX4_tear_1 : decode cX4_tear 1 = .ok (.getfield 52, 3) := by decide +kernel
theorem dX4_tear_4 : decode cX4_tear 4 = .ok (.ifCond .eq 7, 3) := by decide +kernel
theorem dX4_tear_7 : decode cX4_tear 7 = .ok (.iconst 1, 1) := by decide +kernel
theorem dX4_tear_8 : decode cX4_tear 8 = .ok (.goto 4, 3) := by decide +kernel
theorem dX4_tear_11 : decode cX4_tear 11 = .ok (.iconst 0, 1) := by decide +kernel
theorem dX4_tear_12 : decode cX4_tear 12 = .ok (.istore_n 1, 1) := by decide +kernel
theorem dX4_tear_13 : decode cX4_tear 13 = .ok (.aload_n 0, 1) := by decide +kernel
theorem dX4_tear_14 : decode cX4_tear 14 = .ok (.iconst 0, 1) := by decide +kernel
theorem dX4_tear_15 : decode cX4_tear 15 = .ok (.putfield 52, 3) := by decide +kernel
theorem dX4_tear_18 : decode cX4_tear 18 = .ok (.iload_n 1, 1) := by decide +kernel
theorem dX4_tear_19 : decode cX4_tear 19 = .ok (.ireturn, 1) := by decide +kernel
theorem dX4_count_0 : decode cX4_count 0 = .ok (.iload_n 1, 1) := by decide +kernel
theorem dX4_count_1 : decode cX4_count 1 = .ok (.tableswitch 90 0 5 #[39, 47, 55, 66, 74, 82], 39) := by decide +kernel
theorem dX4_count_40 : decode cX4_count 40 = .ok (.aload_n 0, 1) := by decide +kernel
theorem dX4_count_41 : decode cX4_count 41 = .ok (.getfield 12, 3) := by decide +kernel
theorem dX4_count_44 : decode cX4_count 44 = .ok (.getfield 80, 3) := by decide +kernel
theorem dX4_count_47 : decode cX4_count 47 = .ok (.ireturn, 1) := by decide +kernel
theorem dX4_count_48 : decode cX4_count 48 = .ok (.aload_n 0, 1) := by decide +kernel
theorem dX4_count_49 : decode cX4_count 49 = .ok (.getfield 12, 3) := by decide +kernel
theorem dX4_count_52 : decode cX4_count 52 = .ok (.getfield 144, 3) := by decide +kernel
theorem dX4_count_55 : decode cX4_count 55 = .ok (.ireturn, 1) := by decide +kernel
theorem dX4_count_56 : decode cX4_count 56 = .ok (.aload_n 0, 1) := by decide +kernel
theorem dX4_count_57 : decode cX4_count 57 = .ok (.getfield 12, 3) := by decide +kernel
theorem dX4_count_60 : decode cX4_count 60 = .ok (.invokevirtual 272, 3) := by decide +kernel
theorem dX4_count_63 : decode cX4_count 63 = .ok (.invokestatic 275, 3) := by decide +kernel
theorem dX4_count_66 : decode cX4_count 66 = .ok (.ireturn, 1) := by decide +kernel
theorem dX4_count_67 : decode cX4_count 67 = .ok (.aload_n 0, 1) := by decide +kernel
theorem dX4_count_68 : decode cX4_count 68 = .ok (.getfield 32, 3) := by decide +kernel
theorem dX4_count_71 : decode cX4_count 71 = .ok (.getfield 215, 3) := by decide +kernel
theorem dX4_count_74 : decode cX4_count 74 = .ok (.ireturn, 1) := by decide +kernel
theorem dX4_count_75 : decode cX4_count 75 = .ok (.aload_n 0, 1) := by decide +kernel
theorem dX4_count_76 : decode cX4_count 76 = .ok (.getfield 12, 3) := by decide +kernel
theorem dX4_count_79 : decode cX4_count 79 = .ok (.getfield 212, 3) := by decide +kernel
theorem dX4_count_82 : decode cX4_count 82 = .ok (.ireturn, 1) := by decide +kernel
theorem dX4_count_83 : decode cX4_count 83 = .ok (.aload_n 0, 1) := by decide +kernel
theorem dX4_count_84 : decode cX4_count 84 = .ok (.getfield 12, 3) := by decide +kernel
theorem dX4_count_87 : decode cX4_count 87 = .ok (.invokevirtual 280, 3) := by decide +kernel
theorem dX4_count_90 : decode cX4_count 90 = .ok (.ireturn, 1) := by decide +kernel
theorem dX4_count_91 : decode cX4_count 91 = .ok (.aload_n 0, 1) := by decide +kernel
theorem dX4_count_92 : decode cX4_count 92 = .ok (.ldc 65, 2) := by decide +kernel
theorem dX4_count_94 : decode cX4_count 94 = .ok (.invokevirtual 66, 3) := by decide +kernel
theorem dX4_count_97 : decode cX4_count 97 = .ok (.ireturn, 1) := by decide +kernel
theorem dX4_status_0 : decode cX4_status 0 = .ok (.iload_n 1, 1) := by decide +kernel
theorem dX4_status_1 : decode cX4_status 1 = .ok (.iconst (-1), 1) := by decide +kernel
theorem dX4_status_2 : decode cX4_status 2 = .ok (.bipush 6, 2) := by decide +kernel
theorem dX4_status_4 : decode cX4_status 4 = .ok (.invokestatic 61, 3) := by decide +kernel
theorem dX4_status_7 : decode cX4_status 7 = .ok (.ifCond .ne 10, 3) := by decide +kernel
theorem dX4_status_10 : decode cX4_status 10 = .ok (.aload_n 0, 1) := by decide +kernel
theorem dX4_status_11 : decode cX4_status 11 = .ok (.ldc 65, 2) := by decide +kernel
theorem dX4_status_13 : decode cX4_status 13 = .ok (.invokevirtual 66, 3) := by decide +kernel
theorem dX4_status_16 : decode cX4_status 16 = .ok (.ireturn, 1) := by decide +kernel
theorem dX4_status_17 : decode cX4_status 17 = .ok (.iload_n 1, 1) := by decide +kernel
theorem dX4_status_18 : decode cX4_status 18 = .ok (.ifCond .lt 10, 3) := by decide +kernel
theorem dX4_status_21 : decode cX4_status 21 = .ok (.aload_n 0, 1) := by decide +kernel
theorem dX4_status_22 : decode cX4_status 22 = .ok (.getfield 49, 3) := by decide +kernel
theorem dX4_status_25 : decode cX4_status 25 = .ok (.iload_n 1, 1) := by decide +kernel
theorem dX4_status_26 : decode cX4_status 26 = .ok (.iaload, 1) := by decide +kernel
theorem dX4_status_27 : decode cX4_status 27 = .ok (.ireturn, 1) := by decide +kernel
theorem dX4_status_28 : decode cX4_status 28 = .ok (.iconst 0, 1) := by decide +kernel
theorem dX4_status_29 : decode cX4_status 29 = .ok (.istore_n 2, 1) := by decide +kernel
theorem dX4_status_30 : decode cX4_status 30 = .ok (.iconst 0, 1) := by decide +kernel
theorem dX4_status_31 : decode cX4_status 31 = .ok (.istore_n 3, 1) := by decide +kernel
theorem dX4_status_32 : decode cX4_status 32 = .ok (.iload_n 3, 1) := by decide +kernel
theorem dX4_status_33 : decode cX4_status 33 = .ok (.bipush 7, 2) := by decide +kernel
theorem dX4_status_35 : decode cX4_status 35 = .ok (.if_icmp .ge 18, 3) := by decide +kernel
theorem dX4_status_38 : decode cX4_status 38 = .ok (.iload_n 2, 1) := by decide +kernel
theorem dX4_status_39 : decode cX4_status 39 = .ok (.aload_n 0, 1) := by decide +kernel
theorem dX4_status_40 : decode cX4_status 40 = .ok (.getfield 49, 3) := by decide +kernel
theorem dX4_status_43 : decode cX4_status 43 = .ok (.iload_n 3, 1) := by decide +kernel
theorem dX4_status_44 : decode cX4_status 44 = .ok (.iaload, 1) := by decide +kernel
theorem dX4_status_45 : decode cX4_status 45 = .ok (.iadd, 1) := by decide +kernel
theorem dX4_status_46 : decode cX4_status 46 = .ok (.istore_n 2, 1) := by decide +kernel
theorem dX4_status_47 : decode cX4_status 47 = .ok (.iinc 3 1, 3) := by decide +kernel
theorem dX4_status_50 : decode cX4_status 50 = .ok (.goto (-18), 3) := by decide +kernel
theorem dX4_status_53 : decode cX4_status 53 = .ok (.iload_n 2, 1) := by decide +kernel
theorem dX4_status_54 : decode cX4_status 54 = .ok (.ireturn, 1) := by decide +kernel
theorem dX4_tell_0 : decode cX4_tell 0 = .ok (.ldc 65, 2) := by decide +kernel
theorem dX4_tell_2 : decode cX4_tell 2 = .ok (.iload_n 1, 1) := by decide +kernel
theorem dX4_tell_3 : decode cX4_tell 3 = .ok (.isub, 1) := by decide +kernel
theorem dX4_tell_4 : decode cX4_tell 4 = .ok (.istore_n 2, 1) := by decide +kernel
theorem dX4_tell_5 : decode cX4_tell 5 = .ok (.iload_n 2, 1) := by decide +kernel
theorem dX4_tell_6 : decode cX4_tell 6 = .ok (.iconst 0, 1) := by decide +kernel
theorem dX4_tell_7 : decode cX4_tell 7 = .ok (.bipush 6, 2) := by decide +kernel
theorem dX4_tell_9 : decode cX4_tell 9 = .ok (.invokestatic 61, 3) := by decide +kernel
theorem dX4_tell_12 : decode cX4_tell 12 = .ok (.ifCond .eq 13, 3) := by decide +kernel
theorem dX4_tell_15 : decode cX4_tell 15 = .ok (.aload_n 0, 1) := by decide +kernel
theorem dX4_tell_16 : decode cX4_tell 16 = .ok (.getfield 49, 3) := by decide +kernel
theorem dX4_tell_19 : decode cX4_tell 19 = .ok (.iload_n 2, 1) := by decide +kernel
theorem dX4_tell_20 : decode cX4_tell 20 = .ok (.dup2, 1) := by decide +kernel
theorem dX4_tell_21 : decode cX4_tell 21 = .ok (.iaload, 1) := by decide +kernel
theorem dX4_tell_22 : decode cX4_tell 22 = .ok (.iconst 1, 1) := by decide +kernel
theorem dX4_tell_23 : decode cX4_tell 23 = .ok (.iadd, 1) := by decide +kernel
theorem dX4_tell_24 : decode cX4_tell 24 = .ok (.iastore, 1) := by decide +kernel
theorem dX4_tell_25 : decode cX4_tell 25 = .ok (.iload_n 1, 1) := by decide +kernel
theorem dX4_tell_26 : decode cX4_tell 26 = .ok (.ireturn, 1) := by decide +kernel
theorem dX4_within_0 : decode cX4_within 0 = .ok (.iload_n 0, 1) := by decide +kernel
theorem dX4_within_1 : decode cX4_within 1 = .ok (.iload_n 1, 1) := by decide +kernel
theorem dX4_within_2 : decode cX4_within 2 = .ok (.if_icmp .lt 12, 3) := by decide +kernel
theorem dX4_within_5 : decode cX4_within 5 = .ok (.iload_n 0, 1) := by decide +kernel
theorem dX4_within_6 : decode cX4_within 6 = .ok (.iload_n 2, 1) := by decide +kernel
theorem dX4_within_7 : decode cX4_within 7 = .ok (.if_icmp .gt 7, 3) := by decide +kernel
theorem dX4_within_10 : decode cX4_within 10 = .ok (.iconst 1, 1) := by decide +kernel
theorem dX4_within_11 : decode cX4_within 11 = .ok (.goto 4, 3) := by decide +kernel
theorem dX4_within_14 : decode cX4_within 14 = .ok (.iconst 0, 1) := by decide +kernel
theorem dX4_within_15 : decode cX4_within 15 = .ok (.ireturn, 1) := by decide +kernel
theorem dX4_isQuestion_0 : decode cX4_isQuestion 0 = .ok (.iload_n 0, 1) := by decide +kernel
theorem dX4_isQuestion_1 : decode cX4_isQuestion 1 = .ok (.iconst 0, 1) := by decide +kernel
theorem dX4_isQuestion_2 : decode cX4_isQuestion 2 = .ok (.bipush 7, 2) := by decide +kernel
theorem dX4_isQuestion_4 : decode cX4_isQuestion 4 = .ok (.invokestatic 61, 3) := by decide +kernel
theorem dX4_isQuestion_7 : decode cX4_isQuestion 7 = .ok (.ireturn, 1) := by decide +kernel
theorem dX4_isMarker_0 : decode cX4_isMarker 0 = .ok (.iload_n 0, 1) := by decide +kernel
theorem dX4_isMarker_1 : decode cX4_isMarker 1 = .ok (.iconst 0, 1) := by decide +kernel
theorem dX4_isMarker_2 : decode cX4_isMarker 2 = .ok (.iconst 1, 1) := by decide +kernel
theorem dX4_isMarker_3 : decode cX4_isMarker 3 = .ok (.invokestatic 61, 3) := by decide +kernel
theorem dX4_isMarker_6 : decode cX4_isMarker 6 = .ok (.ireturn, 1) := by decide +kernel
theorem dX4_isKind_0 : decode cX4_isKind 0 = .ok (.iload_n 0, 1) := by decide +kernel
theorem dX4_isKind_1 : decode cX4_isKind 1 = .ok (.iconst 0, 1) := by decide +kernel
theorem dX4_isKind_2 : decode cX4_isKind 2 = .ok (.bipush 6, 2) := by decide +kernel
theorem dX4_isKind_4 : decode cX4_isKind 4 = .ok (.invokestatic 61, 3) := by decide +kernel
theorem dX4_isKind_7 : decode cX4_isKind 7 = .ok (.ireturn, 1) := by decide +kernel
theorem dX4_isBy_0 : decode cX4_isBy 0 = .ok (.iload_n 0, 1) := by decide +kernel
theorem dX4_isBy_1 : decode cX4_isBy 1 = .ok (.iconst 0, 1) := by decide +kernel
theorem dX4_isBy_2 : decode cX4_isBy 2 = .ok (.bipush 100, 2) := by decide +kernel
theorem dX4_isBy_4 : decode cX4_isBy 4 = .ok (.invokestatic 61, 3) := by decide +kernel
theorem dX4_isBy_7 : decode cX4_isBy 7 = .ok (.ireturn, 1) := by decide +kernel
theorem dX4_isLine_0 : decode cX4_isLine 0 = .ok (.iload_n 0, 1) := by decide +kernel
theorem dX4_isLine_1 : decode cX4_isLine 1 = .ok (.iconst 0, 1) := by decide +kernel
theorem dX4_isLine_2 : decode cX4_isLine 2 = .ok (.sipush 400, 3) := by decide +kernel
theorem dX4_isLine_5 : decode cX4_isLine 5 = .ok (.invokestatic 61, 3) := by decide +kernel
theorem dX4_isLine_8 : decode cX4_isLine 8 = .ok (.ireturn, 1) := by decide +kernel
theorem dX4_isSpot_0 : decode cX4_isSpot 0 = .ok (.iload_n 0, 1) := by decide +kernel
theorem dX4_isSpot_1 : decode cX4_isSpot 1 = .ok (.iconst 0, 1) := by decide +kernel
theorem dX4_isSpot_2 : decode cX4_isSpot 2 = .ok (.bipush 9, 2) := by decide +kernel
theorem dX4_isSpot_4 : decode cX4_isSpot 4 = .ok (.invokestatic 61, 3) := by decide +kernel
theorem dX4_isSpot_7 : decode cX4_isSpot 7 = .ok (.ireturn, 1) := by decide +kernel
theorem dX4_isSheet_0 : decode cX4_isSheet 0 = .ok (.iload_n 0, 1) := by decide +kernel
theorem dX4_isSheet_1 : decode cX4_isSheet 1 = .ok (.iconst 0, 1) := by decide +kernel
theorem dX4_isSheet_2 : decode cX4_isSheet 2 = .ok (.iconst 3, 1) := by decide +kernel
theorem dX4_isSheet_3 : decode cX4_isSheet 3 = .ok (.invokestatic 61, 3) := by decide +kernel
theorem dX4_isSheet_6 : decode cX4_isSheet 6 = .ok (.ireturn, 1) := by decide +kernel
theorem dX4_isPupil_0 : decode cX4_isPupil 0 = .ok (.iload_n 1, 1) := by decide +kernel
theorem dX4_isPupil_1 : decode cX4_isPupil 1 = .ok (.iconst 0, 1) := by decide +kernel
theorem dX4_isPupil_2 : decode cX4_isPupil 2 = .ok (.aload_n 0, 1) := by decide +kernel
theorem dX4_isPupil_3 : decode cX4_isPupil 3 = .ok (.getfield 12, 3) := by decide +kernel
theorem dX4_isPupil_6 : decode cX4_isPupil 6 = .ok (.getfield 80, 3) := by decide +kernel
theorem dX4_isPupil_9 : decode cX4_isPupil 9 = .ok (.iconst 1, 1) := by decide +kernel
theorem dX4_isPupil_10 : decode cX4_isPupil 10 = .ok (.isub, 1) := by decide +kernel
theorem dX4_isPupil_11 : decode cX4_isPupil 11 = .ok (.invokestatic 61, 3) := by decide +kernel
theorem dX4_isPupil_14 : decode cX4_isPupil 14 = .ok (.ireturn, 1) := by decide +kernel
theorem dX4_isCurve_0 : decode cX4_isCurve 0 = .ok (.iload_n 1, 1) := by decide +kernel
theorem dX4_isCurve_1 : decode cX4_isCurve 1 = .ok (.iconst 0, 1) := by decide +kernel
theorem dX4_isCurve_2 : decode cX4_isCurve 2 = .ok (.aload_n 0, 1) := by decide +kernel
theorem dX4_isCurve_3 : decode cX4_isCurve 3 = .ok (.getfield 12, 3) := by decide +kernel
theorem dX4_isCurve_6 : decode cX4_isCurve 6 = .ok (.getfield 144, 3) := by decide +kernel
theorem dX4_isCurve_9 : decode cX4_isCurve 9 = .ok (.iconst 1, 1) := by decide +kernel
theorem dX4_isCurve_10 : decode cX4_isCurve 10 = .ok (.isub, 1) := by decide +kernel
theorem dX4_isCurve_11 : decode cX4_isCurve 11 = .ok (.invokestatic 61, 3) := by decide +kernel
theorem dX4_isCurve_14 : decode cX4_isCurve 14 = .ok (.ireturn, 1) := by decide +kernel
theorem dX4_spotOfPoint_0 : decode cX4_spotOfPoint 0 = .ok (.iload_n 0, 1) := by decide +kernel
theorem dX4_spotOfPoint_1 : decode cX4_spotOfPoint 1 = .ok (.bipush 8, 2) := by decide +kernel
theorem dX4_spotOfPoint_3 : decode cX4_spotOfPoint 3 = .ok (.imul, 1) := by decide +kernel
theorem dX4_spotOfPoint_4 : decode cX4_spotOfPoint 4 = .ok (.iload_n 1, 1) := by decide +kernel
theorem dX4_spotOfPoint_5 : decode cX4_spotOfPoint 5 = .ok (.iadd, 1) := by decide +kernel
theorem dX4_spotOfPoint_6 : decode cX4_spotOfPoint 6 = .ok (.iconst 2, 1) := by decide +kernel
theorem dX4_spotOfPoint_7 : decode cX4_spotOfPoint 7 = .ok (.imul, 1) := by decide +kernel
theorem dX4_spotOfPoint_8 : decode cX4_spotOfPoint 8 = .ok (.iload_n 2, 1) := by decide +kernel
theorem dX4_spotOfPoint_9 : decode cX4_spotOfPoint 9 = .ok (.iadd, 1) := by decide +kernel
theorem dX4_spotOfPoint_10 : decode cX4_spotOfPoint 10 = .ok (.ireturn, 1) := by decide +kernel
theorem dX4_isUnder_0 : decode cX4_isUnder 0 = .ok (.iload_n 0, 1) := by decide +kernel
theorem dX4_isUnder_1 : decode cX4_isUnder 1 = .ok (.istore_n 2, 1) := by decide +kernel
theorem dX4_isUnder_2 : decode cX4_isUnder 2 = .ok (.iconst 0, 1) := by decide +kernel
theorem dX4_isUnder_3 : decode cX4_isUnder 3 = .ok (.istore_n 3, 1) := by decide +kernel
theorem dX4_isUnder_4 : decode cX4_isUnder 4 = .ok (.iload_n 3, 1) := by decide +kernel
theorem dX4_isUnder_5 : decode cX4_isUnder 5 = .ok (.bipush 7, 2) := by decide +kernel
theorem dX4_isUnder_7 : decode cX4_isUnder 7 = .ok (.if_icmp .ge 29, 3) := by decide +kernel
theorem dX4_isUnder_10 : decode cX4_isUnder 10 = .ok (.iload_n 2, 1) := by decide +kernel
theorem dX4_isUnder_11 : decode cX4_isUnder 11 = .ok (.invokestatic 138, 3) := by decide +kernel
theorem dX4_isUnder_14 : decode cX4_isUnder 14 = .ok (.ifCond .eq 22, 3) := by decide +kernel
theorem dX4_isUnder_17 : decode cX4_isUnder 17 = .ok (.iload_n 2, 1) := by decide +kernel
theorem dX4_isUnder_18 : decode cX4_isUnder 18 = .ok (.iload_n 1, 1) := by decide +kernel
theorem dX4_isUnder_19 : decode cX4_isUnder 19 = .ok (.if_icmp .ne 5, 3) := by decide +kernel
theorem dX4_isUnder_22 : decode cX4_isUnder 22 = .ok (.iconst 1, 1) := by decide +kernel
theorem dX4_isUnder_23 : decode cX4_isUnder 23 = .ok (.ireturn, 1) := by decide +kernel
theorem dX4_isUnder_24 : decode cX4_isUnder 24 = .ok (.getstatic 283, 3) := by decide +kernel
theorem dX4_isUnder_27 : decode cX4_isUnder 27 = .ok (.iload_n 2, 1) := by decide +kernel
theorem dX4_isUnder_28 : decode cX4_isUnder 28 = .ok (.iaload, 1) := by decide +kernel
theorem dX4_isUnder_29 : decode cX4_isUnder 29 = .ok (.istore_n 2, 1) := by decide +kernel
theorem dX4_isUnder_30 : decode cX4_isUnder 30 = .ok (.iinc 3 1, 3) := by decide +kernel
theorem dX4_isUnder_33 : decode cX4_isUnder 33 = .ok (.goto (-29), 3) := by decide +kernel
theorem dX4_isUnder_36 : decode cX4_isUnder 36 = .ok (.iconst 0, 1) := by decide +kernel
theorem dX4_isUnder_37 : decode cX4_isUnder 37 = .ok (.ireturn, 1) := by decide +kernel
theorem dX4_workOut_0 : decode cX4_workOut 0 = .ok (.aload_n 0, 1) := by decide +kernel
theorem dX4_workOut_1 : decode cX4_workOut 1 = .ok (.getfield 25, 3) := by decide +kernel
theorem dX4_workOut_4 : decode cX4_workOut 4 = .ok (.aload_n 0, 1) := by decide +kernel
theorem dX4_workOut_5 : decode cX4_workOut 5 = .ok (.getfield 12, 3) := by decide +kernel
theorem dX4_workOut_8 : decode cX4_workOut 8 = .ok (.invokevirtual 112, 3) := by decide +kernel
theorem dX4_workOut_11 : decode cX4_workOut 11 = .ok (.aload_n 0, 1) := by decide +kernel
theorem dX4_workOut_12 : decode cX4_workOut 12 = .ok (.getfield 25, 3) := by decide +kernel
theorem dX4_workOut_15 : decode cX4_workOut 15 = .ok (.aload_n 0, 1) := by decide +kernel
theorem dX4_workOut_16 : decode cX4_workOut 16 = .ok (.getfield 12, 3) := by decide +kernel
theorem dX4_workOut_19 : decode cX4_workOut 19 = .ok (.getfield 153, 3) := by decide +kernel
theorem dX4_workOut_22 : decode cX4_workOut 22 = .ok (.iload_n 1, 1) := by decide +kernel
theorem dX4_workOut_23 : decode cX4_workOut 23 = .ok (.iaload, 1) := by decide +kernel
theorem dX4_workOut_24 : decode cX4_workOut 24 = .ok (.aload_n 0, 1) := by decide +kernel
theorem dX4_workOut_25 : decode cX4_workOut 25 = .ok (.getfield 12, 3) := by decide +kernel
theorem dX4_workOut_28 : decode cX4_workOut 28 = .ok (.getfield 156, 3) := by decide +kernel
theorem dX4_workOut_31 : decode cX4_workOut 31 = .ok (.iload_n 1, 1) := by decide +kernel
theorem dX4_workOut_32 : decode cX4_workOut 32 = .ok (.iaload, 1) := by decide +kernel
theorem dX4_workOut_33 : decode cX4_workOut 33 = .ok (.aload_n 0, 1) := by decide +kernel
theorem dX4_workOut_34 : decode cX4_workOut 34 = .ok (.getfield 42, 3) := by decide +kernel
theorem dX4_workOut_37 : decode cX4_workOut 37 = .ok (.invokevirtual 185, 3) := by decide +kernel
theorem dX4_workOut_40 : decode cX4_workOut 40 = .ok (.return_, 1) := by decide +kernel
theorem dX4_marksFrom_0 : decode cX4_marksFrom 0 = .ok (.iconst 0, 1) := by decide +kernel
theorem dX4_marksFrom_1 : decode cX4_marksFrom 1 = .ok (.istore_n 2, 1) := by decide +kernel
theorem dX4_marksFrom_2 : decode cX4_marksFrom 2 = .ok (.iconst 0, 1) := by decide +kernel
theorem dX4_marksFrom_3 : decode cX4_marksFrom 3 = .ok (.istore_n 3, 1) := by decide +kernel
theorem dX4_marksFrom_4 : decode cX4_marksFrom 4 = .ok (.iload_n 3, 1) := by decide +kernel
theorem dX4_marksFrom_5 : decode cX4_marksFrom 5 = .ok (.aload_n 0, 1) := by decide +kernel
theorem dX4_marksFrom_6 : decode cX4_marksFrom 6 = .ok (.getfield 12, 3) := by decide +kernel
theorem dX4_marksFrom_9 : decode cX4_marksFrom 9 = .ok (.getfield 80, 3) := by decide +kernel
theorem dX4_marksFrom_12 : decode cX4_marksFrom 12 = .ok (.if_icmp .ge 22, 3) := by decide +kernel
theorem dX4_marksFrom_15 : decode cX4_marksFrom 15 = .ok (.aload_n 0, 1) := by decide +kernel
theorem dX4_marksFrom_16 : decode cX4_marksFrom 16 = .ok (.getfield 42, 3) := by decide +kernel
theorem dX4_marksFrom_19 : decode cX4_marksFrom 19 = .ok (.iload_n 3, 1) := by decide +kernel
theorem dX4_marksFrom_20 : decode cX4_marksFrom 20 = .ok (.iaload, 1) := by decide +kernel
theorem dX4_marksFrom_21 : decode cX4_marksFrom 21 = .ok (.iload_n 1, 1) := by decide +kernel
theorem dX4_marksFrom_22 : decode cX4_marksFrom 22 = .ok (.if_icmp .lt 6, 3) := by decide +kernel
theorem dX4_marksFrom_25 : decode cX4_marksFrom 25 = .ok (.iinc 2 1, 3) := by decide +kernel
theorem dX4_marksFrom_28 : decode cX4_marksFrom 28 = .ok (.iinc 3 1, 3) := by decide +kernel
theorem dX4_marksFrom_31 : decode cX4_marksFrom 31 = .ok (.goto (-27), 3) := by decide +kernel
theorem dX4_marksFrom_34 : decode cX4_marksFrom 34 = .ok (.iload_n 2, 1) := by decide +kernel
theorem dX4_marksFrom_35 : decode cX4_marksFrom 35 = .ok (.ireturn, 1) := by decide +kernel
theorem dX4_greatestReachedBy_0 : decode cX4_greatestReachedBy 0 = .ok (.iconst 0, 1) := by decide +kernel
theorem dX4_greatestReachedBy_1 : decode cX4_greatestReachedBy 1 = .ok (.istore_n 2, 1) := by decide +kernel
theorem dX4_greatestReachedBy_2 : decode cX4_greatestReachedBy 2 = .ok (.iconst 0, 1) := by decide +kernel
theorem dX4_greatestReachedBy_3 : decode cX4_greatestReachedBy 3 = .ok (.istore_n 3, 1) := by decide +kernel
theorem dX4_greatestReachedBy_4 : decode cX4_greatestReachedBy 4 = .ok (.iload_n 3, 1) := by decide +kernel
theorem dX4_greatestReachedBy_5 : decode cX4_greatestReachedBy 5 = .ok (.aload_n 0, 1) := by decide +kernel
theorem dX4_greatestReachedBy_6 : decode cX4_greatestReachedBy 6 = .ok (.getfield 12, 3) := by decide +kernel
theorem dX4_greatestReachedBy_9 : decode cX4_greatestReachedBy 9 = .ok (.getfield 80, 3) := by decide +kernel
theorem dX4_greatestReachedBy_12 : decode cX4_greatestReachedBy 12 = .ok (.if_icmp .ge 40, 3) := by decide +kernel
theorem dX4_greatestReachedBy_15 : decode cX4_greatestReachedBy 15 = .ok (.aload_n 0, 1) := by decide +kernel
theorem dX4_greatestReachedBy_16 : decode cX4_greatestReachedBy 16 = .ok (.getfield 42, 3) := by decide +kernel
theorem dX4_greatestReachedBy_19 : decode cX4_greatestReachedBy 19 = .ok (.iload_n 3, 1) := by decide +kernel
theorem dX4_greatestReachedBy_20 : decode cX4_greatestReachedBy 20 = .ok (.iaload, 1) := by decide +kernel
theorem dX4_greatestReachedBy_21 : decode cX4_greatestReachedBy 21 = .ok (.iload_n 2, 1) := by decide +kernel
theorem dX4_greatestReachedBy_22 : decode cX4_greatestReachedBy 22 = .ok (.if_icmp .le 24, 3) := by decide +kernel
theorem dX4_greatestReachedBy_25 : decode cX4_greatestReachedBy 25 = .ok (.aload_n 0, 1) := by decide +kernel
theorem dX4_greatestReachedBy_26 : decode cX4_greatestReachedBy 26 = .ok (.aload_n 0, 1) := by decide +kernel
theorem dX4_greatestReachedBy_27 : decode cX4_greatestReachedBy 27 = .ok (.getfield 42, 3) := by decide +kernel
theorem dX4_greatestReachedBy_30 : decode cX4_greatestReachedBy 30 = .ok (.iload_n 3, 1) := by decide +kernel
theorem dX4_greatestReachedBy_31 : decode cX4_greatestReachedBy 31 = .ok (.iaload, 1) := by decide +kernel
theorem dX4_greatestReachedBy_32 : decode cX4_greatestReachedBy 32 = .ok (.invokevirtual 166, 3) := by decide +kernel
theorem dX4_greatestReachedBy_35 : decode cX4_greatestReachedBy 35 = .ok (.iload_n 1, 1) := by decide +kernel
theorem dX4_greatestReachedBy_36 : decode cX4_greatestReachedBy 36 = .ok (.if_icmp .lt 10, 3) := by decide +kernel
theorem dX4_greatestReachedBy_39 : decode cX4_greatestReachedBy 39 = .ok (.aload_n 0, 1) := by decide +kernel
theorem dX4_greatestReachedBy_40 : decode cX4_greatestReachedBy 40 = .ok (.getfield 42, 3) := by decide +kernel
theorem dX4_greatestReachedBy_43 : decode cX4_greatestReachedBy 43 = .ok (.iload_n 3, 1) := by decide +kernel
theorem dX4_greatestReachedBy_44 : decode cX4_greatestReachedBy 44 = .ok (.iaload, 1) := by decide +kernel
theorem dX4_greatestReachedBy_45 : decode cX4_greatestReachedBy 45 = .ok (.istore_n 2, 1) := by decide +kernel
theorem dX4_greatestReachedBy_46 : decode cX4_greatestReachedBy 46 = .ok (.iinc 3 1, 3) := by decide +kernel
theorem dX4_greatestReachedBy_49 : decode cX4_greatestReachedBy 49 = .ok (.goto (-45), 3) := by decide +kernel
theorem dX4_greatestReachedBy_52 : decode cX4_greatestReachedBy 52 = .ok (.iload_n 2, 1) := by decide +kernel
theorem dX4_greatestReachedBy_53 : decode cX4_greatestReachedBy 53 = .ok (.ireturn, 1) := by decide +kernel
theorem dX4_firstBreak_0 : decode cX4_firstBreak 0 = .ok (.aload_n 0, 1) := by decide +kernel
theorem dX4_firstBreak_1 : decode cX4_firstBreak 1 = .ok (.iload_n 1, 1) := by decide +kernel
theorem dX4_firstBreak_2 : decode cX4_firstBreak 2 = .ok (.invokevirtual 162, 3) := by decide +kernel
theorem dX4_firstBreak_5 : decode cX4_firstBreak 5 = .ok (.iconst 0, 1) := by decide +kernel
theorem dX4_firstBreak_6 : decode cX4_firstBreak 6 = .ok (.istore_n 2, 1) := by decide +kernel
theorem dX4_firstBreak_7 : decode cX4_firstBreak 7 = .ok (.iload_n 2, 1) := by decide +kernel
theorem dX4_firstBreak_8 : decode cX4_firstBreak 8 = .ok (.aload_n 0, 1) := by decide +kernel
theorem dX4_firstBreak_9 : decode cX4_firstBreak 9 = .ok (.getfield 12, 3) := by decide +kernel
theorem dX4_firstBreak_12 : decode cX4_firstBreak 12 = .ok (.getfield 80, 3) := by decide +kernel
theorem dX4_firstBreak_15 : decode cX4_firstBreak 15 = .ok (.if_icmp .ge 71, 3) := by decide +kernel
theorem dX4_firstBreak_18 : decode cX4_firstBreak 18 = .ok (.iconst 0, 1) := by decide +kernel
theorem dX4_firstBreak_19 : decode cX4_firstBreak 19 = .ok (.istore_n 3, 1) := by decide +kernel
theorem dX4_firstBreak_20 : decode cX4_firstBreak 20 = .ok (.iload_n 3, 1) := by decide +kernel
theorem dX4_firstBreak_21 : decode cX4_firstBreak 21 = .ok (.aload_n 0, 1) := by decide +kernel
theorem dX4_firstBreak_22 : decode cX4_firstBreak 22 = .ok (.getfield 12, 3) := by decide +kernel
theorem dX4_firstBreak_25 : decode cX4_firstBreak 25 = .ok (.getfield 80, 3) := by decide +kernel
theorem dX4_firstBreak_28 : decode cX4_firstBreak 28 = .ok (.if_icmp .ge 52, 3) := by decide +kernel
theorem dX4_firstBreak_31 : decode cX4_firstBreak 31 = .ok (.aload_n 0, 1) := by decide +kernel
theorem dX4_firstBreak_32 : decode cX4_firstBreak 32 = .ok (.getfield 25, 3) := by decide +kernel
theorem dX4_firstBreak_35 : decode cX4_firstBreak 35 = .ok (.getfield 175, 3) := by decide +kernel
theorem dX4_firstBreak_38 : decode cX4_firstBreak 38 = .ok (.iload_n 2, 1) := by decide +kernel
theorem dX4_firstBreak_39 : decode cX4_firstBreak 39 = .ok (.iaload, 1) := by decide +kernel
theorem dX4_firstBreak_40 : decode cX4_firstBreak 40 = .ok (.aload_n 0, 1) := by decide +kernel
theorem dX4_firstBreak_41 : decode cX4_firstBreak 41 = .ok (.getfield 25, 3) := by decide +kernel
theorem dX4_firstBreak_44 : decode cX4_firstBreak 44 = .ok (.getfield 175, 3) := by decide +kernel
theorem dX4_firstBreak_47 : decode cX4_firstBreak 47 = .ok (.iload_n 3, 1) := by decide +kernel
theorem dX4_firstBreak_48 : decode cX4_firstBreak 48 = .ok (.iaload, 1) := by decide +kernel
theorem dX4_firstBreak_49 : decode cX4_firstBreak 49 = .ok (.if_icmp .le 25, 3) := by decide +kernel
theorem dX4_firstBreak_52 : decode cX4_firstBreak 52 = .ok (.aload_n 0, 1) := by decide +kernel
theorem dX4_firstBreak_53 : decode cX4_firstBreak 53 = .ok (.getfield 42, 3) := by decide +kernel
theorem dX4_firstBreak_56 : decode cX4_firstBreak 56 = .ok (.iload_n 2, 1) := by decide +kernel
theorem dX4_firstBreak_57 : decode cX4_firstBreak 57 = .ok (.iaload, 1) := by decide +kernel
theorem dX4_firstBreak_58 : decode cX4_firstBreak 58 = .ok (.aload_n 0, 1) := by decide +kernel
theorem dX4_firstBreak_59 : decode cX4_firstBreak 59 = .ok (.getfield 42, 3) := by decide +kernel
theorem dX4_firstBreak_62 : decode cX4_firstBreak 62 = .ok (.iload_n 3, 1) := by decide +kernel
theorem dX4_firstBreak_63 : decode cX4_firstBreak 63 = .ok (.iaload, 1) := by decide +kernel
theorem dX4_firstBreak_64 : decode cX4_firstBreak 64 = .ok (.if_icmp .ge 10, 3) := by decide +kernel
theorem dX4_firstBreak_67 : decode cX4_firstBreak 67 = .ok (.bipush 100, 2) := by decide +kernel
theorem dX4_firstBreak_69 : decode cX4_firstBreak 69 = .ok (.iload_n 2, 1) := by decide +kernel
theorem dX4_firstBreak_70 : decode cX4_firstBreak 70 = .ok (.imul, 1) := by decide +kernel
theorem dX4_firstBreak_71 : decode cX4_firstBreak 71 = .ok (.iload_n 3, 1) := by decide +kernel
theorem dX4_firstBreak_72 : decode cX4_firstBreak 72 = .ok (.iadd, 1) := by decide +kernel
theorem dX4_firstBreak_73 : decode cX4_firstBreak 73 = .ok (.ireturn, 1) := by decide +kernel
theorem dX4_firstBreak_74 : decode cX4_firstBreak 74 = .ok (.iinc 3 1, 3) := by decide +kernel
theorem dX4_firstBreak_77 : decode cX4_firstBreak 77 = .ok (.goto (-57), 3) := by decide +kernel
theorem dX4_firstBreak_80 : decode cX4_firstBreak 80 = .ok (.iinc 2 1, 3) := by decide +kernel
theorem dX4_firstBreak_83 : decode cX4_firstBreak 83 = .ok (.goto (-76), 3) := by decide +kernel
theorem dX4_firstBreak_86 : decode cX4_firstBreak 86 = .ok (.iconst (-1), 1) := by decide +kernel
theorem dX4_firstBreak_87 : decode cX4_firstBreak 87 = .ok (.ireturn, 1) := by decide +kernel
theorem dX4_gainOf_0 : decode cX4_gainOf 0 = .ok (.iconst (-1), 1) := by decide +kernel
theorem dX4_gainOf_1 : decode cX4_gainOf 1 = .ok (.istore_n 3, 1) := by decide +kernel
theorem dX4_gainOf_2 : decode cX4_gainOf 2 = .ok (.bipush 41, 2) := by decide +kernel
theorem dX4_gainOf_4 : decode cX4_gainOf 4 = .ok (.istore 4, 2) := by decide +kernel
theorem dX4_gainOf_6 : decode cX4_gainOf 6 = .ok (.iconst 0, 1) := by decide +kernel
theorem dX4_gainOf_7 : decode cX4_gainOf 7 = .ok (.istore 5, 2) := by decide +kernel
theorem dX4_gainOf_9 : decode cX4_gainOf 9 = .ok (.iload 5, 2) := by decide +kernel
theorem dX4_gainOf_11 : decode cX4_gainOf 11 = .ok (.bipush 8, 2) := by decide +kernel
theorem dX4_gainOf_13 : decode cX4_gainOf 13 = .ok (.if_icmp .ge 35, 3) := by decide +kernel
theorem dX4_gainOf_16 : decode cX4_gainOf 16 = .ok (.aload_n 0, 1) := by decide +kernel
theorem dX4_gainOf_17 : decode cX4_gainOf 17 = .ok (.iload_n 1, 1) := by decide +kernel
theorem dX4_gainOf_18 : decode cX4_gainOf 18 = .ok (.iload_n 2, 1) := by decide +kernel
theorem dX4_gainOf_19 : decode cX4_gainOf 19 = .ok (.iload 5, 2) := by decide +kernel
theorem dX4_gainOf_21 : decode cX4_gainOf 21 = .ok (.iload 4, 2) := by decide +kernel
theorem dX4_gainOf_23 : decode cX4_gainOf 23 = .ok (.iconst 1, 1) := by decide +kernel
theorem dX4_gainOf_24 : decode cX4_gainOf 24 = .ok (.isub, 1) := by decide +kernel
theorem dX4_gainOf_25 : decode cX4_gainOf 25 = .ok (.invokevirtual 286, 3) := by decide +kernel
theorem dX4_gainOf_28 : decode cX4_gainOf 28 = .ok (.istore 6, 2) := by decide +kernel
theorem dX4_gainOf_30 : decode cX4_gainOf 30 = .ok (.iload 6, 2) := by decide +kernel
theorem dX4_gainOf_32 : decode cX4_gainOf 32 = .ok (.ifCond .le 10, 3) := by decide +kernel
theorem dX4_gainOf_35 : decode cX4_gainOf 35 = .ok (.iload 6, 2) := by decide +kernel
theorem dX4_gainOf_37 : decode cX4_gainOf 37 = .ok (.istore 4, 2) := by decide +kernel
theorem dX4_gainOf_39 : decode cX4_gainOf 39 = .ok (.iload 5, 2) := by decide +kernel
theorem dX4_gainOf_41 : decode cX4_gainOf 41 = .ok (.istore_n 3, 1) := by decide +kernel
theorem dX4_gainOf_42 : decode cX4_gainOf 42 = .ok (.iinc 5 1, 3) := by decide +kernel
theorem dX4_gainOf_45 : decode cX4_gainOf 45 = .ok (.goto (-36), 3) := by decide +kernel
theorem dX4_gainOf_48 : decode cX4_gainOf 48 = .ok (.iload_n 3, 1) := by decide +kernel
theorem dX4_gainOf_49 : decode cX4_gainOf 49 = .ok (.ifCond .ge 7, 3) := by decide +kernel
theorem dX4_gainOf_52 : decode cX4_gainOf 52 = .ok (.iconst (-1), 1) := by decide +kernel
theorem dX4_gainOf_53 : decode cX4_gainOf 53 = .ok (.goto 10, 3) := by decide +kernel
theorem dX4_gainOf_56 : decode cX4_gainOf 56 = .ok (.bipush 100, 2) := by decide +kernel
theorem dX4_gainOf_58 : decode cX4_gainOf 58 = .ok (.iload_n 3, 1) := by decide +kernel
theorem dX4_gainOf_59 : decode cX4_gainOf 59 = .ok (.imul, 1) := by decide +kernel
theorem dX4_gainOf_60 : decode cX4_gainOf 60 = .ok (.iload 4, 2) := by decide +kernel
theorem dX4_gainOf_62 : decode cX4_gainOf 62 = .ok (.iadd, 1) := by decide +kernel
theorem dX4_gainOf_63 : decode cX4_gainOf 63 = .ok (.ireturn, 1) := by decide +kernel
theorem dX4_leastGainfulLoss_0 : decode cX4_leastGainfulLoss 0 = .ok (.aload_n 0, 1) := by decide +kernel
theorem dX4_leastGainfulLoss_1 : decode cX4_leastGainfulLoss 1 = .ok (.getfield 12, 3) := by decide +kernel
theorem dX4_leastGainfulLoss_4 : decode cX4_leastGainfulLoss 4 = .ok (.getfield 153, 3) := by decide +kernel
theorem dX4_leastGainfulLoss_7 : decode cX4_leastGainfulLoss 7 = .ok (.iload_n 1, 1) := by decide +kernel
theorem dX4_leastGainfulLoss_8 : decode cX4_leastGainfulLoss 8 = .ok (.iaload, 1) := by decide +kernel
theorem dX4_leastGainfulLoss_9 : decode cX4_leastGainfulLoss 9 = .ok (.istore 5, 2) := by decide +kernel
theorem dX4_leastGainfulLoss_11 : decode cX4_leastGainfulLoss 11 = .ok (.aload_n 0, 1) := by decide +kernel
theorem dX4_leastGainfulLoss_12 : decode cX4_leastGainfulLoss 12 = .ok (.getfield 12, 3) := by decide +kernel
theorem dX4_leastGainfulLoss_15 : decode cX4_leastGainfulLoss 15 = .ok (.getfield 156, 3) := by decide +kernel
theorem dX4_leastGainfulLoss_18 : decode cX4_leastGainfulLoss 18 = .ok (.iload_n 1, 1) := by decide +kernel
theorem dX4_leastGainfulLoss_19 : decode cX4_leastGainfulLoss 19 = .ok (.iaload, 1) := by decide +kernel
theorem dX4_leastGainfulLoss_20 : decode cX4_leastGainfulLoss 20 = .ok (.istore 6, 2) := by decide +kernel
theorem dX4_leastGainfulLoss_22 : decode cX4_leastGainfulLoss 22 = .ok (.aload_n 0, 1) := by decide +kernel
theorem dX4_leastGainfulLoss_23 : decode cX4_leastGainfulLoss 23 = .ok (.getfield 25, 3) := by decide +kernel
theorem dX4_leastGainfulLoss_26 : decode cX4_leastGainfulLoss 26 = .ok (.iload 5, 2) := by decide +kernel
theorem dX4_leastGainfulLoss_28 : decode cX4_leastGainfulLoss 28 = .ok (.iload 6, 2) := by decide +kernel
theorem dX4_leastGainfulLoss_30 : decode cX4_leastGainfulLoss 30 = .ok (.iload_n 2, 1) := by decide +kernel
theorem dX4_leastGainfulLoss_31 : decode cX4_leastGainfulLoss 31 = .ok (.invokevirtual 159, 3) := by decide +kernel
theorem dX4_leastGainfulLoss_34 : decode cX4_leastGainfulLoss 34 = .ok (.istore 7, 2) := by decide +kernel
theorem dX4_leastGainfulLoss_36 : decode cX4_leastGainfulLoss 36 = .ok (.aload_n 0, 1) := by decide +kernel
theorem dX4_leastGainfulLoss_37 : decode cX4_leastGainfulLoss 37 = .ok (.getfield 12, 3) := by decide +kernel
theorem dX4_leastGainfulLoss_40 : decode cX4_leastGainfulLoss 40 = .ok (.getfield 98, 3) := by decide +kernel
theorem dX4_leastGainfulLoss_43 : decode cX4_leastGainfulLoss 43 = .ok (.iload_n 2, 1) := by decide +kernel
theorem dX4_leastGainfulLoss_44 : decode cX4_leastGainfulLoss 44 = .ok (.iload_n 3, 1) := by decide +kernel
theorem dX4_leastGainfulLoss_45 : decode cX4_leastGainfulLoss 45 = .ok (.iconst 0, 1) := by decide +kernel
theorem dX4_leastGainfulLoss_46 : decode cX4_leastGainfulLoss 46 = .ok (.invokestatic 94, 3) := by decide +kernel
theorem dX4_leastGainfulLoss_49 : decode cX4_leastGainfulLoss 49 = .ok (.iaload, 1) := by decide +kernel
theorem dX4_leastGainfulLoss_50 : decode cX4_leastGainfulLoss 50 = .ok (.istore 8, 2) := by decide +kernel
theorem dX4_leastGainfulLoss_52 : decode cX4_leastGainfulLoss 52 = .ok (.iload 8, 2) := by decide +kernel
theorem dX4_leastGainfulLoss_54 : decode cX4_leastGainfulLoss 54 = .ok (.aload_n 0, 1) := by decide +kernel
theorem dX4_leastGainfulLoss_55 : decode cX4_leastGainfulLoss 55 = .ok (.getfield 12, 3) := by decide +kernel
theorem dX4_leastGainfulLoss_58 : decode cX4_leastGainfulLoss 58 = .ok (.getfield 98, 3) := by decide +kernel
theorem dX4_leastGainfulLoss_61 : decode cX4_leastGainfulLoss 61 = .ok (.iload_n 2, 1) := by decide +kernel
theorem dX4_leastGainfulLoss_62 : decode cX4_leastGainfulLoss 62 = .ok (.iload_n 3, 1) := by decide +kernel
theorem dX4_leastGainfulLoss_63 : decode cX4_leastGainfulLoss 63 = .ok (.iconst 1, 1) := by decide +kernel
theorem dX4_leastGainfulLoss_64 : decode cX4_leastGainfulLoss 64 = .ok (.invokestatic 94, 3) := by decide +kernel
theorem dX4_leastGainfulLoss_67 : decode cX4_leastGainfulLoss 67 = .ok (.iaload, 1) := by decide +kernel
theorem dX4_leastGainfulLoss_68 : decode cX4_leastGainfulLoss 68 = .ok (.iadd, 1) := by decide +kernel
theorem dX4_leastGainfulLoss_69 : decode cX4_leastGainfulLoss 69 = .ok (.istore 9, 2) := by decide +kernel
theorem dX4_leastGainfulLoss_71 : decode cX4_leastGainfulLoss 71 = .ok (.iload 9, 2) := by decide +kernel
theorem dX4_leastGainfulLoss_73 : decode cX4_leastGainfulLoss 73 = .ok (.iconst 2, 1) := by decide +kernel
theorem dX4_leastGainfulLoss_74 : decode cX4_leastGainfulLoss 74 = .ok (.idiv, 1) := by decide +kernel
theorem dX4_leastGainfulLoss_75 : decode cX4_leastGainfulLoss 75 = .ok (.istore 10, 2) := by decide +kernel
theorem dX4_leastGainfulLoss_77 : decode cX4_leastGainfulLoss 77 = .ok (.iconst 1, 1) := by decide +kernel
theorem dX4_leastGainfulLoss_78 : decode cX4_leastGainfulLoss 78 = .ok (.istore 11, 2) := by decide +kernel
theorem dX4_leastGainfulLoss_80 : decode cX4_leastGainfulLoss 80 = .ok (.iload 11, 2) := by decide +kernel
theorem dX4_leastGainfulLoss_82 : decode cX4_leastGainfulLoss 82 = .ok (.iload 4, 2) := by decide +kernel
theorem dX4_leastGainfulLoss_84 : decode cX4_leastGainfulLoss 84 = .ok (.if_icmp .gt 75, 3) := by decide +kernel
theorem dX4_leastGainfulLoss_87 : decode cX4_leastGainfulLoss 87 = .ok (.iload 11, 2) := by decide +kernel
theorem dX4_leastGainfulLoss_89 : decode cX4_leastGainfulLoss 89 = .ok (.iload 8, 2) := by decide +kernel
theorem dX4_leastGainfulLoss_91 : decode cX4_leastGainfulLoss 91 = .ok (.if_icmp .gt 68, 3) := by decide +kernel
theorem dX4_leastGainfulLoss_94 : decode cX4_leastGainfulLoss 94 = .ok (.aload_n 0, 1) := by decide +kernel
theorem dX4_leastGainfulLoss_95 : decode cX4_leastGainfulLoss 95 = .ok (.getfield 25, 3) := by decide +kernel
theorem dX4_leastGainfulLoss_98 : decode cX4_leastGainfulLoss 98 = .ok (.iload_n 2, 1) := by decide +kernel
theorem dX4_leastGainfulLoss_99 : decode cX4_leastGainfulLoss 99 = .ok (.iload_n 3, 1) := by decide +kernel
theorem dX4_leastGainfulLoss_100 : decode cX4_leastGainfulLoss 100 = .ok (.iload 9, 2) := by decide +kernel
theorem dX4_leastGainfulLoss_102 : decode cX4_leastGainfulLoss 102 = .ok (.iload 11, 2) := by decide +kernel
theorem dX4_leastGainfulLoss_104 : decode cX4_leastGainfulLoss 104 = .ok (.isub, 1) := by decide +kernel
theorem dX4_leastGainfulLoss_105 : decode cX4_leastGainfulLoss 105 = .ok (.iconst 2, 1) := by decide +kernel
theorem dX4_leastGainfulLoss_106 : decode cX4_leastGainfulLoss 106 = .ok (.idiv, 1) := by decide +kernel
theorem dX4_leastGainfulLoss_107 : decode cX4_leastGainfulLoss 107 = .ok (.invokevirtual 290, 3) := by decide +kernel
theorem dX4_leastGainfulLoss_110 : decode cX4_leastGainfulLoss 110 = .ok (.aload_n 0, 1) := by decide +kernel
theorem dX4_leastGainfulLoss_111 : decode cX4_leastGainfulLoss 111 = .ok (.getfield 25, 3) := by decide +kernel
theorem dX4_leastGainfulLoss_114 : decode cX4_leastGainfulLoss 114 = .ok (.iload 5, 2) := by decide +kernel
theorem dX4_leastGainfulLoss_116 : decode cX4_leastGainfulLoss 116 = .ok (.iload 6, 2) := by decide +kernel
theorem dX4_leastGainfulLoss_118 : decode cX4_leastGainfulLoss 118 = .ok (.iload_n 2, 1) := by decide +kernel
theorem dX4_leastGainfulLoss_119 : decode cX4_leastGainfulLoss 119 = .ok (.invokevirtual 159, 3) := by decide +kernel
theorem dX4_leastGainfulLoss_122 : decode cX4_leastGainfulLoss 122 = .ok (.iload 7, 2) := by decide +kernel
theorem dX4_leastGainfulLoss_124 : decode cX4_leastGainfulLoss 124 = .ok (.if_icmp .le 7, 3) := by decide +kernel
theorem dX4_leastGainfulLoss_127 : decode cX4_leastGainfulLoss 127 = .ok (.iconst 1, 1) := by decide +kernel
theorem dX4_leastGainfulLoss_128 : decode cX4_leastGainfulLoss 128 = .ok (.goto 4, 3) := by decide +kernel
theorem dX4_leastGainfulLoss_131 : decode cX4_leastGainfulLoss 131 = .ok (.iconst 0, 1) := by decide +kernel
theorem dX4_leastGainfulLoss_132 : decode cX4_leastGainfulLoss 132 = .ok (.istore 12, 2) := by decide +kernel
theorem dX4_leastGainfulLoss_134 : decode cX4_leastGainfulLoss 134 = .ok (.aload_n 0, 1) := by decide +kernel
theorem dX4_leastGainfulLoss_135 : decode cX4_leastGainfulLoss 135 = .ok (.getfield 25, 3) := by decide +kernel
theorem dX4_leastGainfulLoss_138 : decode cX4_leastGainfulLoss 138 = .ok (.iload_n 2, 1) := by decide +kernel
theorem dX4_leastGainfulLoss_139 : decode cX4_leastGainfulLoss 139 = .ok (.iload_n 3, 1) := by decide +kernel
theorem dX4_leastGainfulLoss_140 : decode cX4_leastGainfulLoss 140 = .ok (.iload 10, 2) := by decide +kernel
theorem dX4_leastGainfulLoss_142 : decode cX4_leastGainfulLoss 142 = .ok (.invokevirtual 290, 3) := by decide +kernel
theorem dX4_leastGainfulLoss_145 : decode cX4_leastGainfulLoss 145 = .ok (.iload 12, 2) := by decide +kernel
theorem dX4_leastGainfulLoss_147 : decode cX4_leastGainfulLoss 147 = .ok (.ifCond .eq 6, 3) := by decide +kernel
theorem dX4_leastGainfulLoss_150 : decode cX4_leastGainfulLoss 150 = .ok (.iload 11, 2) := by decide +kernel
theorem dX4_leastGainfulLoss_152 : decode cX4_leastGainfulLoss 152 = .ok (.ireturn, 1) := by decide +kernel
theorem dX4_leastGainfulLoss_153 : decode cX4_leastGainfulLoss 153 = .ok (.iinc 11 1, 3) := by decide +kernel
theorem dX4_leastGainfulLoss_156 : decode cX4_leastGainfulLoss 156 = .ok (.goto (-76), 3) := by decide +kernel
theorem dX4_leastGainfulLoss_159 : decode cX4_leastGainfulLoss 159 = .ok (.iconst 0, 1) := by decide +kernel
theorem dX4_leastGainfulLoss_160 : decode cX4_leastGainfulLoss 160 = .ok (.ireturn, 1) := by decide +kernel
theorem dX5_init_0 : decode cX5_init 0 = .ok (.aload_n 0, 1) := by decide +kernel
theorem dX5_init_1 : decode cX5_init 1 = .ok (.invokespecial 1, 3) := by decide +kernel
theorem dX5_init_4 : decode cX5_init 4 = .ok (.aload_n 0, 1) := by decide +kernel
theorem dX5_init_5 : decode cX5_init 5 = .ok (.sipush 245, 3) := by decide +kernel
theorem dX5_init_8 : decode cX5_init 8 = .ok (.newarray .int, 2) := by decide +kernel
theorem dX5_init_10 : decode cX5_init 10 = .ok (.putfield 7, 3) := by decide +kernel
theorem dX5_init_13 : decode cX5_init 13 = .ok (.aload_n 0, 1) := by decide +kernel
theorem dX5_init_14 : decode cX5_init 14 = .ok (.sipush 245, 3) := by decide +kernel
theorem dX5_init_17 : decode cX5_init 17 = .ok (.newarray .int, 2) := by decide +kernel
theorem dX5_init_19 : decode cX5_init 19 = .ok (.putfield 13, 3) := by decide +kernel
theorem dX5_init_22 : decode cX5_init 22 = .ok (.aload_n 0, 1) := by decide +kernel
theorem dX5_init_23 : decode cX5_init 23 = .ok (.sipush 245, 3) := by decide +kernel
theorem dX5_init_26 : decode cX5_init 26 = .ok (.newarray .int, 2) := by decide +kernel
theorem dX5_init_28 : decode cX5_init 28 = .ok (.putfield 16, 3) := by decide +kernel
theorem dX5_init_31 : decode cX5_init 31 = .ok (.aload_n 0, 1) := by decide +kernel
theorem dX5_init_32 : decode cX5_init 32 = .ok (.bipush 7, 2) := by decide +kernel
theorem dX5_init_34 : decode cX5_init 34 = .ok (.newarray .int, 2) := by decide +kernel
theorem dX5_init_36 : decode cX5_init 36 = .ok (.putfield 19, 3) := by decide +kernel
theorem dX5_init_39 : decode cX5_init 39 = .ok (.aload_n 0, 1) := by decide +kernel
theorem dX5_init_40 : decode cX5_init 40 = .ok (.bipush 12, 2) := by decide +kernel
theorem dX5_init_42 : decode cX5_init 42 = .ok (.newarray .int, 2) := by decide +kernel
theorem dX5_init_44 : decode cX5_init 44 = .ok (.putfield 22, 3) := by decide +kernel
theorem dX5_init_47 : decode cX5_init 47 = .ok (.aload_n 0, 1) := by decide +kernel
theorem dX5_init_48 : decode cX5_init 48 = .ok (.bipush 120, 2) := by decide +kernel
theorem dX5_init_50 : decode cX5_init 50 = .ok (.newarray .int, 2) := by decide +kernel
theorem dX5_init_52 : decode cX5_init 52 = .ok (.putfield 25, 3) := by decide +kernel
theorem dX5_init_55 : decode cX5_init 55 = .ok (.aload_n 0, 1) := by decide +kernel
theorem dX5_init_56 : decode cX5_init 56 = .ok (.iconst 4, 1) := by decide +kernel
theorem dX5_init_57 : decode cX5_init 57 = .ok (.newarray .int, 2) := by decide +kernel
theorem dX5_init_59 : decode cX5_init 59 = .ok (.putfield 28, 3) := by decide +kernel
theorem dX5_init_62 : decode cX5_init 62 = .ok (.aload_n 0, 1) := by decide +kernel
theorem dX5_init_63 : decode cX5_init 63 = .ok (.iconst 4, 1) := by decide +kernel
theorem dX5_init_64 : decode cX5_init 64 = .ok (.newarray .int, 2) := by decide +kernel
theorem dX5_init_66 : decode cX5_init 66 = .ok (.putfield 31, 3) := by decide +kernel
theorem dX5_init_69 : decode cX5_init 69 = .ok (.aload_n 0, 1) := by decide +kernel
theorem dX5_init_70 : decode cX5_init 70 = .ok (.sipush 160, 3) := by decide +kernel
theorem dX5_init_73 : decode cX5_init 73 = .ok (.newarray .int, 2) := by decide +kernel
theorem dX5_init_75 : decode cX5_init 75 = .ok (.putfield 34, 3) := by decide +kernel
theorem dX5_init_78 : decode cX5_init 78 = .ok (.aload_n 0, 1) := by decide +kernel
theorem dX5_init_79 : decode cX5_init 79 = .ok (.bipush 40, 2) := by decide +kernel
theorem dX5_init_81 : decode cX5_init 81 = .ok (.newarray .int, 2) := by decide +kernel
theorem dX5_init_83 : decode cX5_init 83 = .ok (.putfield 37, 3) := by decide +kernel
theorem dX5_init_86 : decode cX5_init 86 = .ok (.aload_n 0, 1) := by decide +kernel
theorem dX5_init_87 : decode cX5_init 87 = .ok (.getfield 7, 3) := by decide +kernel
theorem dX5_init_90 : decode cX5_init 90 = .ok (.bipush 16, 2) := by decide +kernel
theorem dX5_init_92 : decode cX5_init 92 = .ok (.iconst 1, 1) := by decide +kernel
theorem dX5_init_93 : decode cX5_init 93 = .ok (.iastore, 1) := by decide +kernel
theorem dX5_init_94 : decode cX5_init 94 = .ok (.iconst 0, 1) := by decide +kernel
theorem dX5_init_95 : decode cX5_init 95 = .ok (.istore_n 1, 1) := by decide +kernel
theorem dX5_init_96 : decode cX5_init 96 = .ok (.iload_n 1, 1) := by decide +kernel
theorem dX5_init_97 : decode cX5_init 97 = .ok (.bipush 8, 2) := by decide +kernel
theorem dX5_init_99 : decode cX5_init 99 = .ok (.if_icmp .ge 29, 3) := by decide +kernel
theorem dX5_init_102 : decode cX5_init 102 = .ok (.aload_n 0, 1) := by decide +kernel
theorem dX5_init_103 : decode cX5_init 103 = .ok (.getfield 7, 3) := by decide +kernel
theorem dX5_init_106 : decode cX5_init 106 = .ok (.iconst 0, 1) := by decide +kernel
theorem dX5_init_107 : decode cX5_init 107 = .ok (.iload_n 1, 1) := by decide +kernel
theorem dX5_init_108 : decode cX5_init 108 = .ok (.iadd, 1) := by decide +kernel
theorem dX5_init_109 : decode cX5_init 109 = .ok (.bipush 10, 2) := by decide +kernel
theorem dX5_init_111 : decode cX5_init 111 = .ok (.iastore, 1) := by decide +kernel
theorem dX5_init_112 : decode cX5_init 112 = .ok (.aload_n 0, 1) := by decide +kernel
theorem dX5_init_113 : decode cX5_init 113 = .ok (.getfield 7, 3) := by decide +kernel
theorem dX5_init_116 : decode cX5_init 116 = .ok (.bipush 8, 2) := by decide +kernel
theorem dX5_init_118 : decode cX5_init 118 = .ok (.iload_n 1, 1) := by decide +kernel
theorem dX5_init_119 : decode cX5_init 119 = .ok (.iadd, 1) := by decide +kernel
theorem dX5_init_120 : decode cX5_init 120 = .ok (.iconst (-1), 1) := by decide +kernel
theorem dX5_init_121 : decode cX5_init 121 = .ok (.iastore, 1) := by decide +kernel
theorem dX5_init_122 : decode cX5_init 122 = .ok (.iinc 1 1, 3) := by decide +kernel
theorem dX5_init_125 : decode cX5_init 125 = .ok (.goto (-29), 3) := by decide +kernel
theorem dX5_init_128 : decode cX5_init 128 = .ok (.iconst 0, 1) := by decide +kernel
theorem dX5_init_129 : decode cX5_init 129 = .ok (.istore_n 1, 1) := by decide +kernel
theorem dX5_init_130 : decode cX5_init 130 = .ok (.iload_n 1, 1) := by decide +kernel
theorem dX5_init_131 : decode cX5_init 131 = .ok (.bipush 10, 2) := by decide +kernel
theorem dX5_init_133 : decode cX5_init 133 = .ok (.if_icmp .ge 20, 3) := by decide +kernel
theorem dX5_init_136 : decode cX5_init 136 = .ok (.aload_n 0, 1) := by decide +kernel
theorem dX5_init_137 : decode cX5_init 137 = .ok (.getfield 7, 3) := by decide +kernel
theorem dX5_init_140 : decode cX5_init 140 = .ok (.sipush 235, 3) := by decide +kernel
theorem dX5_init_143 : decode cX5_init 143 = .ok (.iload_n 1, 1) := by decide +kernel
theorem dX5_init_144 : decode cX5_init 144 = .ok (.iadd, 1) := by decide +kernel
theorem dX5_init_145 : decode cX5_init 145 = .ok (.iconst (-1), 1) := by decide +kernel
theorem dX5_init_146 : decode cX5_init 146 = .ok (.iastore, 1) := by decide +kernel
theorem dX5_init_147 : decode cX5_init 147 = .ok (.iinc 1 1, 3) := by decide +kernel
theorem dX5_init_150 : decode cX5_init 150 = .ok (.goto (-20), 3) := by decide +kernel
theorem dX5_init_153 : decode cX5_init 153 = .ok (.return_, 1) := by decide +kernel
theorem dX5_in_0 : decode cX5_in 0 = .ok (.lload_n 0, 1) := by decide +kernel
theorem dX5_in_1 : decode cX5_in 1 = .ok (.lload_n 2, 1) := by decide +kernel
theorem dX5_in_2 : decode cX5_in 2 = .ok (.lcmp, 1) := by decide +kernel
theorem dX5_in_3 : decode cX5_in 3 = .ok (.ifCond .lt 14, 3) := by decide +kernel
theorem dX5_in_6 : decode cX5_in 6 = .ok (.lload_n 0, 1) := by decide +kernel
theorem dX5_in_7 : decode cX5_in 7 = .ok (.lload 4, 2) := by decide +kernel
theorem dX5_in_9 : decode cX5_in 9 = .ok (.lcmp, 1) := by decide +kernel
theorem dX5_in_10 : decode cX5_in 10 = .ok (.ifCond .gt 7, 3) := by decide +kernel
theorem dX5_in_13 : decode cX5_in 13 = .ok (.iconst 1, 1) := by decide +kernel
theorem dX5_in_14 : decode cX5_in 14 = .ok (.goto 4, 3) := by decide +kernel
theorem dX5_in_17 : decode cX5_in 17 = .ok (.iconst 0, 1) := by decide +kernel
theorem dX5_in_18 : decode cX5_in 18 = .ok (.ireturn, 1) := by decide +kernel
theorem dX5_finds_0 : decode cX5_finds 0 = .ok (.aload_n 0, 1) := by decide +kernel
theorem dX5_finds_1 : decode cX5_finds 1 = .ok (.getfield 19, 3) := by decide +kernel
theorem dX5_finds_4 : decode cX5_finds 4 = .ok (.ldc 40, 2) := by decide +kernel
theorem dX5_finds_6 : decode cX5_finds 6 = .ok (.iload_n 1, 1) := by decide +kernel
theorem dX5_finds_7 : decode cX5_finds 7 = .ok (.isub, 1) := by decide +kernel
theorem dX5_finds_8 : decode cX5_finds 8 = .ok (.dup2, 1) := by decide +kernel
theorem dX5_finds_9 : decode cX5_finds 9 = .ok (.iaload, 1) := by decide +kernel
theorem dX5_finds_10 : decode cX5_finds 10 = .ok (.iconst 1, 1) := by decide +kernel
theorem dX5_finds_11 : decode cX5_finds 11 = .ok (.iadd, 1) := by decide +kernel
theorem dX5_finds_12 : decode cX5_finds 12 = .ok (.iastore, 1) := by decide +kernel
theorem dX5_finds_13 : decode cX5_finds 13 = .ok (.iload_n 1, 1) := by decide +kernel
theorem dX5_finds_14 : decode cX5_finds 14 = .ok (.ireturn, 1) := by decide +kernel
theorem dX5_isQuestion_0 : decode cX5_isQuestion 0 = .ok (.iload_n 0, 1) := by decide +kernel
theorem dX5_isQuestion_1 : decode cX5_isQuestion 1 = .ok (.i2l, 1) := by decide +kernel
theorem dX5_isQuestion_2 : decode cX5_isQuestion 2 = .ok (.lconst 0, 1) := by decide +kernel
theorem dX5_isQuestion_3 : decode cX5_isQuestion 3 = .ok (.ldc2_w 41, 3) := by decide +kernel
theorem dX5_isQuestion_6 : decode cX5_isQuestion 6 = .ok (.invokestatic 43, 3) := by decide +kernel
theorem dX5_isQuestion_9 : decode cX5_isQuestion 9 = .ok (.ireturn, 1) := by decide +kernel
theorem dX5_isPupil_0 : decode cX5_isPupil 0 = .ok (.iload_n 1, 1) := by decide +kernel
theorem dX5_isPupil_1 : decode cX5_isPupil 1 = .ok (.i2l, 1) := by decide +kernel
theorem dX5_isPupil_2 : decode cX5_isPupil 2 = .ok (.lconst 0, 1) := by decide +kernel
theorem dX5_isPupil_3 : decode cX5_isPupil 3 = .ok (.aload_n 0, 1) := by decide +kernel
theorem dX5_isPupil_4 : decode cX5_isPupil 4 = .ok (.getfield 7, 3) := by decide +kernel
theorem dX5_isPupil_7 : decode cX5_isPupil 7 = .ok (.bipush 17, 2) := by decide +kernel
theorem dX5_isPupil_9 : decode cX5_isPupil 9 = .ok (.iaload, 1) := by decide +kernel
theorem dX5_isPupil_10 : decode cX5_isPupil 10 = .ok (.iconst 1, 1) := by decide +kernel
theorem dX5_isPupil_11 : decode cX5_isPupil 11 = .ok (.isub, 1) := by decide +kernel
theorem dX5_isPupil_12 : decode cX5_isPupil 12 = .ok (.i2l, 1) := by decide +kernel
theorem dX5_isPupil_13 : decode cX5_isPupil 13 = .ok (.invokestatic 43, 3) := by decide +kernel
theorem dX5_isPupil_16 : decode cX5_isPupil 16 = .ok (.ireturn, 1) := by decide +kernel
theorem dX5_isCurve_0 : decode cX5_isCurve 0 = .ok (.iload_n 1, 1) := by decide +kernel
theorem dX5_isCurve_1 : decode cX5_isCurve 1 = .ok (.i2l, 1) := by decide +kernel
theorem dX5_isCurve_2 : decode cX5_isCurve 2 = .ok (.lconst 0, 1) := by decide +kernel
theorem dX5_isCurve_3 : decode cX5_isCurve 3 = .ok (.aload_n 0, 1) := by decide +kernel
theorem dX5_isCurve_4 : decode cX5_isCurve 4 = .ok (.getfield 7, 3) := by decide +kernel
theorem dX5_isCurve_7 : decode cX5_isCurve 7 = .ok (.bipush 18, 2) := by decide +kernel
theorem dX5_isCurve_9 : decode cX5_isCurve 9 = .ok (.iaload, 1) := by decide +kernel
theorem dX5_isCurve_10 : decode cX5_isCurve 10 = .ok (.iconst 1, 1) := by decide +kernel
theorem dX5_isCurve_11 : decode cX5_isCurve 11 = .ok (.isub, 1) := by decide +kernel
theorem dX5_isCurve_12 : decode cX5_isCurve 12 = .ok (.i2l, 1) := by decide +kernel
theorem dX5_isCurve_13 : decode cX5_isCurve 13 = .ok (.invokestatic 43, 3) := by decide +kernel
theorem dX5_isCurve_16 : decode cX5_isCurve 16 = .ok (.ireturn, 1) := by decide +kernel
theorem dX5_isLine_0 : decode cX5_isLine 0 = .ok (.iload_n 0, 1) := by decide +kernel
theorem dX5_isLine_1 : decode cX5_isLine 1 = .ok (.i2l, 1) := by decide +kernel
theorem dX5_isLine_2 : decode cX5_isLine 2 = .ok (.lconst 0, 1) := by decide +kernel
theorem dX5_isLine_3 : decode cX5_isLine 3 = .ok (.ldc2_w 47, 3) := by decide +kernel
theorem dX5_isLine_6 : decode cX5_isLine 6 = .ok (.invokestatic 43, 3) := by decide +kernel
theorem dX5_isLine_9 : decode cX5_isLine 9 = .ok (.ireturn, 1) := by decide +kernel
theorem dX5_at_0 : decode cX5_at 0 = .ok (.bipush 19, 2) := by decide +kernel
theorem dX5_at_2 : decode cX5_at 2 = .ok (.bipush 17, 2) := by decide +kernel
theorem dX5_at_4 : decode cX5_at 4 = .ok (.iload_n 0, 1) := by decide +kernel
theorem dX5_at_5 : decode cX5_at 5 = .ok (.imul, 1) := by decide +kernel
theorem dX5_at_6 : decode cX5_at 6 = .ok (.iadd, 1) := by decide +kernel
theorem dX5_at_7 : decode cX5_at 7 = .ok (.iconst 1, 1) := by decide +kernel
theorem dX5_at_8 : decode cX5_at 8 = .ok (.iadd, 1) := by decide +kernel
theorem dX5_at_9 : decode cX5_at 9 = .ok (.bipush 8, 2) := by decide +kernel
theorem dX5_at_11 : decode cX5_at 11 = .ok (.iload_n 1, 1) := by decide +kernel
theorem dX5_at_12 : decode cX5_at 12 = .ok (.imul, 1) := by decide +kernel
theorem dX5_at_13 : decode cX5_at 13 = .ok (.iadd, 1) := by decide +kernel
theorem dX5_at_14 : decode cX5_at 14 = .ok (.iload_n 2, 1) := by decide +kernel
theorem dX5_at_15 : decode cX5_at 15 = .ok (.iadd, 1) := by decide +kernel
theorem dX5_at_16 : decode cX5_at 16 = .ok (.ireturn, 1) := by decide +kernel
theorem dX5_puts_0 : decode cX5_puts 0 = .ok (.iconst 0, 1) := by decide +kernel
theorem dX5_puts_1 : decode cX5_puts 1 = .ok (.istore_n 1, 1) := by decide +kernel
theorem dX5_puts_2 : decode cX5_puts 2 = .ok (.iload_n 1, 1) := by decide +kernel
theorem dX5_puts_3 : decode cX5_puts 3 = .ok (.sipush 245, 3) := by decide +kernel
theorem dX5_puts_6 : decode cX5_puts 6 = .ok (.if_icmp .ge 21, 3) := by decide +kernel
theorem dX5_puts_9 : decode cX5_puts 9 = .ok (.aload_n 0, 1) := by decide +kernel
theorem dX5_puts_10 : decode cX5_puts 10 = .ok (.getfield 16, 3) := by decide +kernel
theorem dX5_puts_13 : decode cX5_puts 13 = .ok (.iload_n 1, 1) := by decide +kernel
theorem dX5_puts_14 : decode cX5_puts 14 = .ok (.aload_n 0, 1) := by decide +kernel
theorem dX5_puts_15 : decode cX5_puts 15 = .ok (.getfield 7, 3) := by decide +kernel
theorem dX5_puts_18 : decode cX5_puts 18 = .ok (.iload_n 1, 1) := by decide +kernel
theorem dX5_puts_19 : decode cX5_puts 19 = .ok (.iaload, 1) := by decide +kernel
theorem dX5_puts_20 : decode cX5_puts 20 = .ok (.iastore, 1) := by decide +kernel
theorem dX5_puts_21 : decode cX5_puts 21 = .ok (.iinc 1 1, 3) := by decide +kernel
theorem dX5_puts_24 : decode cX5_puts 24 = .ok (.goto (-22), 3) := by decide +kernel
theorem dX5_puts_27 : decode cX5_puts 27 = .ok (.return_, 1) := by decide +kernel
theorem dX5_putsBack_0 : decode cX5_putsBack 0 = .ok (.iconst 0, 1) := by decide +kernel
theorem dX5_putsBack_1 : decode cX5_putsBack 1 = .ok (.istore_n 1, 1) := by decide +kernel
theorem dX5_putsBack_2 : decode cX5_putsBack 2 = .ok (.iload_n 1, 1) := by decide +kernel
theorem dX5_putsBack_3 : decode cX5_putsBack 3 = .ok (.sipush 245, 3) := by decide +kernel
theorem dX5_putsBack_6 : decode cX5_putsBack 6 = .ok (.if_icmp .ge 21, 3) := by decide +kernel
theorem dX5_putsBack_9 : decode cX5_putsBack 9 = .ok (.aload_n 0, 1) := by decide +kernel
theorem dX5_putsBack_10 : decode cX5_putsBack 10 = .ok (.getfield 7, 3) := by decide +kernel
theorem dX5_putsBack_13 : decode cX5_putsBack 13 = .ok (.iload_n 1, 1) := by decide +kernel
theorem dX5_putsBack_14 : decode cX5_putsBack 14 = .ok (.aload_n 0, 1) := by decide +kernel
theorem dX5_putsBack_15 : decode cX5_putsBack 15 = .ok (.getfield 16, 3) := by decide +kernel
theorem dX5_putsBack_18 : decode cX5_putsBack 18 = .ok (.iload_n 1, 1) := by decide +kernel
theorem dX5_putsBack_19 : decode cX5_putsBack 19 = .ok (.iaload, 1) := by decide +kernel
theorem dX5_putsBack_20 : decode cX5_putsBack 20 = .ok (.iastore, 1) := by decide +kernel
theorem dX5_putsBack_21 : decode cX5_putsBack 21 = .ok (.iinc 1 1, 3) := by decide +kernel
theorem dX5_putsBack_24 : decode cX5_putsBack 24 = .ok (.goto (-22), 3) := by decide +kernel
theorem dX5_putsBack_27 : decode cX5_putsBack 27 = .ok (.return_, 1) := by decide +kernel
end
section
theorem dX5_worths_0 : decode cX5_worths 0 = .ok (.aload_n 0, 1) := by decide +kernel
theorem dX5_worths_1 : decode cX5_worths 1 = .ok (.getfield 7, 3) := by decide +kernel
theorem dX5_worths_4 : decode cX5_worths 4 = .ok (.iconst 0, 1) := by decide +kernel
theorem dX5_worths_5 : decode cX5_worths 5 = .ok (.iload_n 1, 1) := by decide +kernel
theorem dX5_worths_6 : decode cX5_worths 6 = .ok (.iadd, 1) := by decide +kernel
theorem dX5_worths_7 : decode cX5_worths 7 = .ok (.iload_n 2, 1) := by decide +kernel
theorem dX5_worths_8 : decode cX5_worths 8 = .ok (.iastore, 1) := by decide +kernel
theorem dX5_worths_9 : decode cX5_worths 9 = .ok (.iconst 0, 1) := by decide +kernel
theorem dX5_worths_10 : decode cX5_worths 10 = .ok (.istore_n 3, 1) := by decide +kernel
theorem dX5_worths_11 : decode cX5_worths 11 = .ok (.iload_n 3, 1) := by decide +kernel
theorem dX5_worths_12 : decode cX5_worths 12 = .ok (.aload_n 0, 1) := by decide +kernel
theorem dX5_worths_13 : decode cX5_worths 13 = .ok (.getfield 7, 3) := by decide +kernel
theorem dX5_worths_16 : decode cX5_worths 16 = .ok (.bipush 17, 2) := by decide +kernel
theorem dX5_worths_18 : decode cX5_worths 18 = .ok (.iaload, 1) := by decide +kernel
theorem dX5_worths_19 : decode cX5_worths 19 = .ok (.if_icmp .ge 68, 3) := by decide +kernel
theorem dX5_worths_22 : decode cX5_worths 22 = .ok (.iconst 0, 1) := by decide +kernel
theorem dX5_worths_23 : decode cX5_worths 23 = .ok (.istore 4, 2) := by decide +kernel
theorem dX5_worths_25 : decode cX5_worths 25 = .ok (.iload 4, 2) := by decide +kernel
theorem dX5_worths_27 : decode cX5_worths 27 = .ok (.iconst 2, 1) := by decide +kernel
theorem dX5_worths_28 : decode cX5_worths 28 = .ok (.if_icmp .ge 53, 3) := by decide +kernel
theorem dX5_worths_31 : decode cX5_worths 31 = .ok (.aload_n 0, 1) := by decide +kernel
theorem dX5_worths_32 : decode cX5_worths 32 = .ok (.getfield 7, 3) := by decide +kernel
theorem dX5_worths_35 : decode cX5_worths 35 = .ok (.iload_n 3, 1) := by decide +kernel
theorem dX5_worths_36 : decode cX5_worths 36 = .ok (.iload 4, 2) := by decide +kernel
theorem dX5_worths_38 : decode cX5_worths 38 = .ok (.iload_n 1, 1) := by decide +kernel
theorem dX5_worths_39 : decode cX5_worths 39 = .ok (.invokestatic 49, 3) := by decide +kernel
theorem dX5_worths_42 : decode cX5_worths 42 = .ok (.aload_n 0, 1) := by decide +kernel
theorem dX5_worths_43 : decode cX5_worths 43 = .ok (.getfield 7, 3) := by decide +kernel
theorem dX5_worths_46 : decode cX5_worths 46 = .ok (.iload_n 3, 1) := by decide +kernel
theorem dX5_worths_47 : decode cX5_worths 47 = .ok (.iload 4, 2) := by decide +kernel
theorem dX5_worths_49 : decode cX5_worths 49 = .ok (.iload_n 1, 1) := by decide +kernel
theorem dX5_worths_50 : decode cX5_worths 50 = .ok (.invokestatic 49, 3) := by decide +kernel
theorem dX5_worths_53 : decode cX5_worths 53 = .ok (.iaload, 1) := by decide +kernel
theorem dX5_worths_54 : decode cX5_worths 54 = .ok (.iload_n 2, 1) := by decide +kernel
theorem dX5_worths_55 : decode cX5_worths 55 = .ok (.if_icmp .le 7, 3) := by decide +kernel
theorem dX5_worths_58 : decode cX5_worths 58 = .ok (.iload_n 2, 1) := by decide +kernel
theorem dX5_worths_59 : decode cX5_worths 59 = .ok (.goto 15, 3) := by decide +kernel
theorem dX5_worths_62 : decode cX5_worths 62 = .ok (.aload_n 0, 1) := by decide +kernel
theorem dX5_worths_63 : decode cX5_worths 63 = .ok (.getfield 7, 3) := by decide +kernel
theorem dX5_worths_66 : decode cX5_worths 66 = .ok (.iload_n 3, 1) := by decide +kernel
theorem dX5_worths_67 : decode cX5_worths 67 = .ok (.iload 4, 2) := by decide +kernel
theorem dX5_worths_69 : decode cX5_worths 69 = .ok (.iload_n 1, 1) := by decide +kernel
theorem dX5_worths_70 : decode cX5_worths 70 = .ok (.invokestatic 49, 3) := by decide +kernel
theorem dX5_worths_73 : decode cX5_worths 73 = .ok (.iaload, 1) := by decide +kernel
theorem dX5_worths_74 : decode cX5_worths 74 = .ok (.iastore, 1) := by decide +kernel
theorem dX5_worths_75 : decode cX5_worths 75 = .ok (.iinc 4 1, 3) := by decide +kernel
theorem dX5_worths_78 : decode cX5_worths 78 = .ok (.goto (-53), 3) := by decide +kernel
theorem dX5_worths_81 : decode cX5_worths 81 = .ok (.iinc 3 1, 3) := by decide +kernel
theorem dX5_worths_84 : decode cX5_worths 84 = .ok (.goto (-73), 3) := by decide +kernel
theorem dX5_worths_87 : decode cX5_worths 87 = .ok (.return_, 1) := by decide +kernel
theorem dX5_worth_0 : decode cX5_worth 0 = .ok (.iload_n 1, 1) := by decide +kernel
theorem dX5_worth_1 : decode cX5_worth 1 = .ok (.invokestatic 53, 3) := by decide +kernel
theorem dX5_worth_4 : decode cX5_worth 4 = .ok (.ifCond .eq 15, 3) := by decide +kernel
theorem dX5_worth_7 : decode cX5_worth 7 = .ok (.iload_n 2, 1) := by decide +kernel
theorem dX5_worth_8 : decode cX5_worth 8 = .ok (.i2l, 1) := by decide +kernel
theorem dX5_worth_9 : decode cX5_worth 9 = .ok (.lconst 0, 1) := by decide +kernel
theorem dX5_worth_10 : decode cX5_worth 10 = .ok (.ldc2_w 57, 3) := by decide +kernel
theorem dX5_worth_13 : decode cX5_worth 13 = .ok (.invokestatic 43, 3) := by decide +kernel
theorem dX5_worth_16 : decode cX5_worth 16 = .ok (.ifCond .ne 10, 3) := by decide +kernel
theorem dX5_worth_19 : decode cX5_worth 19 = .ok (.aload_n 0, 1) := by decide +kernel
theorem dX5_worth_20 : decode cX5_worth 20 = .ok (.ldc 40, 2) := by decide +kernel
theorem dX5_worth_22 : decode cX5_worth 22 = .ok (.invokevirtual 59, 3) := by decide +kernel
theorem dX5_worth_25 : decode cX5_worth 25 = .ok (.ireturn, 1) := by decide +kernel
theorem dX5_worth_26 : decode cX5_worth 26 = .ok (.aload_n 0, 1) := by decide +kernel
theorem dX5_worth_27 : decode cX5_worth 27 = .ok (.getfield 7, 3) := by decide +kernel
theorem dX5_worth_30 : decode cX5_worth 30 = .ok (.iconst 0, 1) := by decide +kernel
theorem dX5_worth_31 : decode cX5_worth 31 = .ok (.iload_n 1, 1) := by decide +kernel
theorem dX5_worth_32 : decode cX5_worth 32 = .ok (.iadd, 1) := by decide +kernel
theorem dX5_worth_33 : decode cX5_worth 33 = .ok (.iaload, 1) := by decide +kernel
theorem dX5_worth_34 : decode cX5_worth 34 = .ok (.istore_n 3, 1) := by decide +kernel
theorem dX5_worth_35 : decode cX5_worth 35 = .ok (.aload_n 0, 1) := by decide +kernel
theorem dX5_worth_36 : decode cX5_worth 36 = .ok (.iload_n 1, 1) := by decide +kernel
theorem dX5_worth_37 : decode cX5_worth 37 = .ok (.iload_n 2, 1) := by decide +kernel
theorem dX5_worth_38 : decode cX5_worth 38 = .ok (.invokevirtual 63, 3) := by decide +kernel
theorem dX5_worth_41 : decode cX5_worth 41 = .ok (.iload_n 3, 1) := by decide +kernel
theorem dX5_worth_42 : decode cX5_worth 42 = .ok (.ireturn, 1) := by decide +kernel
theorem dX5_common_0 : decode cX5_common 0 = .ok (.iload_n 1, 1) := by decide +kernel
theorem dX5_common_1 : decode cX5_common 1 = .ok (.invokestatic 53, 3) := by decide +kernel
theorem dX5_common_4 : decode cX5_common 4 = .ok (.ifCond .eq 17, 3) := by decide +kernel
theorem dX5_common_7 : decode cX5_common 7 = .ok (.iload_n 2, 1) := by decide +kernel
theorem dX5_common_8 : decode cX5_common 8 = .ok (.i2l, 1) := by decide +kernel
theorem dX5_common_9 : decode cX5_common 9 = .ok (.ldc2_w 67, 3) := by decide +kernel
theorem dX5_common_12 : decode cX5_common 12 = .ok (.ldc2_w 47, 3) := by decide +kernel
theorem dX5_common_15 : decode cX5_common 15 = .ok (.invokestatic 43, 3) := by decide +kernel
theorem dX5_common_18 : decode cX5_common 18 = .ok (.ifCond .ne 10, 3) := by decide +kernel
theorem dX5_common_21 : decode cX5_common 21 = .ok (.aload_n 0, 1) := by decide +kernel
theorem dX5_common_22 : decode cX5_common 22 = .ok (.ldc 40, 2) := by decide +kernel
theorem dX5_common_24 : decode cX5_common 24 = .ok (.invokevirtual 59, 3) := by decide +kernel
theorem dX5_common_27 : decode cX5_common 27 = .ok (.ireturn, 1) := by decide +kernel
theorem dX5_common_28 : decode cX5_common 28 = .ok (.aload_n 0, 1) := by decide +kernel
theorem dX5_common_29 : decode cX5_common 29 = .ok (.getfield 7, 3) := by decide +kernel
theorem dX5_common_32 : decode cX5_common 32 = .ok (.bipush 8, 2) := by decide +kernel
theorem dX5_common_34 : decode cX5_common 34 = .ok (.iload_n 1, 1) := by decide +kernel
theorem dX5_common_35 : decode cX5_common 35 = .ok (.iadd, 1) := by decide +kernel
theorem dX5_common_36 : decode cX5_common 36 = .ok (.iaload, 1) := by decide +kernel
theorem dX5_common_37 : decode cX5_common 37 = .ok (.istore_n 3, 1) := by decide +kernel
theorem dX5_common_38 : decode cX5_common 38 = .ok (.aload_n 0, 1) := by decide +kernel
theorem dX5_common_39 : decode cX5_common 39 = .ok (.getfield 7, 3) := by decide +kernel
theorem dX5_common_42 : decode cX5_common 42 = .ok (.bipush 8, 2) := by decide +kernel
theorem dX5_common_44 : decode cX5_common 44 = .ok (.iload_n 1, 1) := by decide +kernel
theorem dX5_common_45 : decode cX5_common 45 = .ok (.iadd, 1) := by decide +kernel
theorem dX5_common_46 : decode cX5_common 46 = .ok (.iload_n 2, 1) := by decide +kernel
theorem dX5_common_47 : decode cX5_common 47 = .ok (.iastore, 1) := by decide +kernel
theorem dX5_common_48 : decode cX5_common 48 = .ok (.iload_n 3, 1) := by decide +kernel
theorem dX5_common_49 : decode cX5_common 49 = .ok (.ireturn, 1) := by decide +kernel
theorem dX5_newPupil_0 : decode cX5_newPupil 0 = .ok (.bipush 19, 2) := by decide +kernel
theorem dX5_newPupil_2 : decode cX5_newPupil 2 = .ok (.bipush 17, 2) := by decide +kernel
theorem dX5_newPupil_4 : decode cX5_newPupil 4 = .ok (.aload_n 0, 1) := by decide +kernel
theorem dX5_newPupil_5 : decode cX5_newPupil 5 = .ok (.getfield 7, 3) := by decide +kernel
theorem dX5_newPupil_8 : decode cX5_newPupil 8 = .ok (.bipush 17, 2) := by decide +kernel
theorem dX5_newPupil_10 : decode cX5_newPupil 10 = .ok (.iaload, 1) := by decide +kernel
theorem dX5_newPupil_11 : decode cX5_newPupil 11 = .ok (.imul, 1) := by decide +kernel
theorem dX5_newPupil_12 : decode cX5_newPupil 12 = .ok (.iadd, 1) := by decide +kernel
theorem dX5_newPupil_13 : decode cX5_newPupil 13 = .ok (.istore_n 2, 1) := by decide +kernel
theorem dX5_newPupil_14 : decode cX5_newPupil 14 = .ok (.aload_n 0, 1) := by decide +kernel
theorem dX5_newPupil_15 : decode cX5_newPupil 15 = .ok (.getfield 7, 3) := by decide +kernel
theorem dX5_newPupil_18 : decode cX5_newPupil 18 = .ok (.iload_n 2, 1) := by decide +kernel
theorem dX5_newPupil_19 : decode cX5_newPupil 19 = .ok (.iload_n 1, 1) := by decide +kernel
theorem dX5_newPupil_20 : decode cX5_newPupil 20 = .ok (.iastore, 1) := by decide +kernel
theorem dX5_newPupil_21 : decode cX5_newPupil 21 = .ok (.iconst 1, 1) := by decide +kernel
theorem dX5_newPupil_22 : decode cX5_newPupil 22 = .ok (.istore_n 3, 1) := by decide +kernel
theorem dX5_newPupil_23 : decode cX5_newPupil 23 = .ok (.iload_n 3, 1) := by decide +kernel
theorem dX5_newPupil_24 : decode cX5_newPupil 24 = .ok (.bipush 17, 2) := by decide +kernel
theorem dX5_newPupil_26 : decode cX5_newPupil 26 = .ok (.if_icmp .ge 18, 3) := by decide +kernel
theorem dX5_newPupil_29 : decode cX5_newPupil 29 = .ok (.aload_n 0, 1) := by decide +kernel
theorem dX5_newPupil_30 : decode cX5_newPupil 30 = .ok (.getfield 7, 3) := by decide +kernel
theorem dX5_newPupil_33 : decode cX5_newPupil 33 = .ok (.iload_n 2, 1) := by decide +kernel
theorem dX5_newPupil_34 : decode cX5_newPupil 34 = .ok (.iload_n 3, 1) := by decide +kernel
theorem dX5_newPupil_35 : decode cX5_newPupil 35 = .ok (.iadd, 1) := by decide +kernel
theorem dX5_newPupil_36 : decode cX5_newPupil 36 = .ok (.iconst 0, 1) := by decide +kernel
theorem dX5_newPupil_37 : decode cX5_newPupil 37 = .ok (.iastore, 1) := by decide +kernel
theorem dX5_newPupil_38 : decode cX5_newPupil 38 = .ok (.iinc 3 1, 3) := by decide +kernel
theorem dX5_newPupil_41 : decode cX5_newPupil 41 = .ok (.goto (-18), 3) := by decide +kernel
theorem dX5_newPupil_44 : decode cX5_newPupil 44 = .ok (.aload_n 0, 1) := by decide +kernel
theorem dX5_newPupil_45 : decode cX5_newPupil 45 = .ok (.getfield 7, 3) := by decide +kernel
theorem dX5_newPupil_48 : decode cX5_newPupil 48 = .ok (.bipush 17, 2) := by decide +kernel
theorem dX5_newPupil_50 : decode cX5_newPupil 50 = .ok (.dup2, 1) := by decide +kernel
theorem dX5_newPupil_51 : decode cX5_newPupil 51 = .ok (.iaload, 1) := by decide +kernel
theorem dX5_newPupil_52 : decode cX5_newPupil 52 = .ok (.iconst 1, 1) := by decide +kernel
theorem dX5_newPupil_53 : decode cX5_newPupil 53 = .ok (.iadd, 1) := by decide +kernel
theorem dX5_newPupil_54 : decode cX5_newPupil 54 = .ok (.iastore, 1) := by decide +kernel
theorem dX5_newPupil_55 : decode cX5_newPupil 55 = .ok (.aload_n 0, 1) := by decide +kernel
theorem dX5_newPupil_56 : decode cX5_newPupil 56 = .ok (.getfield 7, 3) := by decide +kernel
theorem dX5_newPupil_59 : decode cX5_newPupil 59 = .ok (.bipush 17, 2) := by decide +kernel
theorem dX5_newPupil_61 : decode cX5_newPupil 61 = .ok (.iaload, 1) := by decide +kernel
theorem dX5_newPupil_62 : decode cX5_newPupil 62 = .ok (.iconst 1, 1) := by decide +kernel
theorem dX5_newPupil_63 : decode cX5_newPupil 63 = .ok (.isub, 1) := by decide +kernel
theorem dX5_newPupil_64 : decode cX5_newPupil 64 = .ok (.ireturn, 1) := by decide +kernel
theorem dX5_pupil_0 : decode cX5_pupil 0 = .ok (.iload_n 1, 1) := by decide +kernel
theorem dX5_pupil_1 : decode cX5_pupil 1 = .ok (.i2l, 1) := by decide +kernel
theorem dX5_pupil_2 : decode cX5_pupil 2 = .ok (.lconst 0, 1) := by decide +kernel
theorem dX5_pupil_3 : decode cX5_pupil 3 = .ok (.ldc2_w 69, 3) := by decide +kernel
theorem dX5_pupil_6 : decode cX5_pupil 6 = .ok (.invokestatic 43, 3) := by decide +kernel
theorem dX5_pupil_9 : decode cX5_pupil 9 = .ok (.ifCond .ne 10, 3) := by decide +kernel
theorem dX5_pupil_12 : decode cX5_pupil 12 = .ok (.aload_n 0, 1) := by decide +kernel
theorem dX5_pupil_13 : decode cX5_pupil 13 = .ok (.ldc 40, 2) := by decide +kernel
theorem dX5_pupil_15 : decode cX5_pupil 15 = .ok (.invokevirtual 59, 3) := by decide +kernel
theorem dX5_pupil_18 : decode cX5_pupil 18 = .ok (.ireturn, 1) := by decide +kernel
theorem dX5_pupil_19 : decode cX5_pupil 19 = .ok (.aload_n 0, 1) := by decide +kernel
theorem dX5_pupil_20 : decode cX5_pupil 20 = .ok (.getfield 7, 3) := by decide +kernel
theorem dX5_pupil_23 : decode cX5_pupil 23 = .ok (.bipush 17, 2) := by decide +kernel
theorem dX5_pupil_25 : decode cX5_pupil 25 = .ok (.iaload, 1) := by decide +kernel
theorem dX5_pupil_26 : decode cX5_pupil 26 = .ok (.bipush 12, 2) := by decide +kernel
theorem dX5_pupil_28 : decode cX5_pupil 28 = .ok (.if_icmp .ne 12, 3) := by decide +kernel
theorem dX5_pupil_31 : decode cX5_pupil 31 = .ok (.aload_n 0, 1) := by decide +kernel
theorem dX5_pupil_32 : decode cX5_pupil 32 = .ok (.ldc 71, 2) := by decide +kernel
theorem dX5_pupil_34 : decode cX5_pupil 34 = .ok (.invokevirtual 59, 3) := by decide +kernel
theorem dX5_pupil_37 : decode cX5_pupil 37 = .ok (.goto 8, 3) := by decide +kernel
theorem dX5_pupil_40 : decode cX5_pupil 40 = .ok (.aload_n 0, 1) := by decide +kernel
theorem dX5_pupil_41 : decode cX5_pupil 41 = .ok (.iload_n 1, 1) := by decide +kernel
theorem dX5_pupil_42 : decode cX5_pupil 42 = .ok (.invokevirtual 72, 3) := by decide +kernel
theorem dX5_pupil_45 : decode cX5_pupil 45 = .ok (.ireturn, 1) := by decide +kernel
theorem dX5_point_0 : decode cX5_point 0 = .ok (.aload_n 0, 1) := by decide +kernel
theorem dX5_point_1 : decode cX5_point 1 = .ok (.iload_n 1, 1) := by decide +kernel
theorem dX5_point_2 : decode cX5_point 2 = .ok (.invokevirtual 75, 3) := by decide +kernel
theorem dX5_point_5 : decode cX5_point 5 = .ok (.ifCond .eq 39, 3) := by decide +kernel
theorem dX5_point_8 : decode cX5_point 8 = .ok (.iload_n 2, 1) := by decide +kernel
theorem dX5_point_9 : decode cX5_point 9 = .ok (.invokestatic 53, 3) := by decide +kernel
theorem dX5_point_12 : decode cX5_point 12 = .ok (.ifCond .eq 32, 3) := by decide +kernel
theorem dX5_point_15 : decode cX5_point 15 = .ok (.iload_n 3, 1) := by decide +kernel
theorem dX5_point_16 : decode cX5_point 16 = .ok (.i2l, 1) := by decide +kernel
theorem dX5_point_17 : decode cX5_point 17 = .ok (.lconst 0, 1) := by decide +kernel
theorem dX5_point_18 : decode cX5_point 18 = .ok (.lconst 1, 1) := by decide +kernel
theorem dX5_point_19 : decode cX5_point 19 = .ok (.invokestatic 43, 3) := by decide +kernel
theorem dX5_point_22 : decode cX5_point 22 = .ok (.ifCond .eq 22, 3) := by decide +kernel
theorem dX5_point_25 : decode cX5_point 25 = .ok (.iload 4, 2) := by decide +kernel
theorem dX5_point_27 : decode cX5_point 27 = .ok (.i2l, 1) := by decide +kernel
theorem dX5_point_28 : decode cX5_point 28 = .ok (.lconst 0, 1) := by decide +kernel
theorem dX5_point_29 : decode cX5_point 29 = .ok (.aload_n 0, 1) := by decide +kernel
theorem dX5_point_30 : decode cX5_point 30 = .ok (.getfield 7, 3) := by decide +kernel
theorem dX5_point_33 : decode cX5_point 33 = .ok (.iconst 0, 1) := by decide +kernel
theorem dX5_point_34 : decode cX5_point 34 = .ok (.iload_n 2, 1) := by decide +kernel
theorem dX5_point_35 : decode cX5_point 35 = .ok (.iadd, 1) := by decide +kernel
theorem dX5_point_36 : decode cX5_point 36 = .ok (.iaload, 1) := by decide +kernel
theorem dX5_point_37 : decode cX5_point 37 = .ok (.i2l, 1) := by decide +kernel
theorem dX5_point_38 : decode cX5_point 38 = .ok (.invokestatic 43, 3) := by decide +kernel
theorem dX5_point_41 : decode cX5_point 41 = .ok (.ifCond .ne 10, 3) := by decide +kernel
theorem dX5_point_44 : decode cX5_point 44 = .ok (.aload_n 0, 1) := by decide +kernel
theorem dX5_point_45 : decode cX5_point 45 = .ok (.ldc 40, 2) := by decide +kernel
theorem dX5_point_47 : decode cX5_point 47 = .ok (.invokevirtual 59, 3) := by decide +kernel
theorem dX5_point_50 : decode cX5_point 50 = .ok (.ireturn, 1) := by decide +kernel
theorem dX5_point_51 : decode cX5_point 51 = .ok (.aload_n 0, 1) := by decide +kernel
theorem dX5_point_52 : decode cX5_point 52 = .ok (.getfield 7, 3) := by decide +kernel
theorem dX5_point_55 : decode cX5_point 55 = .ok (.iload_n 1, 1) := by decide +kernel
theorem dX5_point_56 : decode cX5_point 56 = .ok (.iload_n 3, 1) := by decide +kernel
theorem dX5_point_57 : decode cX5_point 57 = .ok (.iload_n 2, 1) := by decide +kernel
theorem dX5_point_58 : decode cX5_point 58 = .ok (.invokestatic 49, 3) := by decide +kernel
theorem dX5_point_61 : decode cX5_point 61 = .ok (.iaload, 1) := by decide +kernel
theorem dX5_point_62 : decode cX5_point 62 = .ok (.istore 5, 2) := by decide +kernel
theorem dX5_point_64 : decode cX5_point 64 = .ok (.aload_n 0, 1) := by decide +kernel
theorem dX5_point_65 : decode cX5_point 65 = .ok (.getfield 7, 3) := by decide +kernel
theorem dX5_point_68 : decode cX5_point 68 = .ok (.iload_n 1, 1) := by decide +kernel
theorem dX5_point_69 : decode cX5_point 69 = .ok (.iload_n 3, 1) := by decide +kernel
theorem dX5_point_70 : decode cX5_point 70 = .ok (.iload_n 2, 1) := by decide +kernel
theorem dX5_point_71 : decode cX5_point 71 = .ok (.invokestatic 49, 3) := by decide +kernel
theorem dX5_point_74 : decode cX5_point 74 = .ok (.iload 4, 2) := by decide +kernel
theorem dX5_point_76 : decode cX5_point 76 = .ok (.iastore, 1) := by decide +kernel
theorem dX5_point_77 : decode cX5_point 77 = .ok (.iload 5, 2) := by decide +kernel
theorem dX5_point_79 : decode cX5_point 79 = .ok (.ireturn, 1) := by decide +kernel
theorem dX5_score_0 : decode cX5_score 0 = .ok (.aload_n 0, 1) := by decide +kernel
theorem dX5_score_1 : decode cX5_score 1 = .ok (.getfield 7, 3) := by decide +kernel
theorem dX5_score_4 : decode cX5_score 4 = .ok (.iload_n 1, 1) := by decide +kernel
theorem dX5_score_5 : decode cX5_score 5 = .ok (.iconst 0, 1) := by decide +kernel
theorem dX5_score_6 : decode cX5_score 6 = .ok (.iload_n 2, 1) := by decide +kernel
theorem dX5_score_7 : decode cX5_score 7 = .ok (.invokestatic 49, 3) := by decide +kernel
theorem dX5_score_10 : decode cX5_score 10 = .ok (.iaload, 1) := by decide +kernel
theorem dX5_score_11 : decode cX5_score 11 = .ok (.aload_n 0, 1) := by decide +kernel
theorem dX5_score_12 : decode cX5_score 12 = .ok (.getfield 7, 3) := by decide +kernel
theorem dX5_score_15 : decode cX5_score 15 = .ok (.iload_n 1, 1) := by decide +kernel
theorem dX5_score_16 : decode cX5_score 16 = .ok (.iconst 1, 1) := by decide +kernel
theorem dX5_score_17 : decode cX5_score 17 = .ok (.iload_n 2, 1) := by decide +kernel
theorem dX5_score_18 : decode cX5_score 18 = .ok (.invokestatic 49, 3) := by decide +kernel
theorem dX5_score_21 : decode cX5_score 21 = .ok (.iaload, 1) := by decide +kernel
theorem dX5_score_22 : decode cX5_score 22 = .ok (.iadd, 1) := by decide +kernel
theorem dX5_score_23 : decode cX5_score 23 = .ok (.iconst 2, 1) := by decide +kernel
theorem dX5_score_24 : decode cX5_score 24 = .ok (.idiv, 1) := by decide +kernel
theorem dX5_score_25 : decode cX5_score 25 = .ok (.ireturn, 1) := by decide +kernel
theorem dX5_raw_0 : decode cX5_raw 0 = .ok (.iconst 0, 1) := by decide +kernel
theorem dX5_raw_1 : decode cX5_raw 1 = .ok (.istore_n 2, 1) := by decide +kernel
theorem dX5_raw_2 : decode cX5_raw 2 = .ok (.iconst 0, 1) := by decide +kernel
theorem dX5_raw_3 : decode cX5_raw 3 = .ok (.istore_n 3, 1) := by decide +kernel
theorem dX5_raw_4 : decode cX5_raw 4 = .ok (.iload_n 3, 1) := by decide +kernel
theorem dX5_raw_5 : decode cX5_raw 5 = .ok (.bipush 8, 2) := by decide +kernel
theorem dX5_raw_7 : decode cX5_raw 7 = .ok (.if_icmp .ge 18, 3) := by decide +kernel
theorem dX5_raw_10 : decode cX5_raw 10 = .ok (.iload_n 2, 1) := by decide +kernel
theorem dX5_raw_11 : decode cX5_raw 11 = .ok (.aload_n 0, 1) := by decide +kernel
theorem dX5_raw_12 : decode cX5_raw 12 = .ok (.iload_n 1, 1) := by decide +kernel
theorem dX5_raw_13 : decode cX5_raw 13 = .ok (.iload_n 3, 1) := by decide +kernel
theorem dX5_raw_14 : decode cX5_raw 14 = .ok (.invokevirtual 78, 3) := by decide +kernel
theorem dX5_raw_17 : decode cX5_raw 17 = .ok (.iadd, 1) := by decide +kernel
theorem dX5_raw_18 : decode cX5_raw 18 = .ok (.istore_n 2, 1) := by decide +kernel
theorem dX5_raw_19 : decode cX5_raw 19 = .ok (.iinc 3 1, 3) := by decide +kernel
theorem dX5_raw_22 : decode cX5_raw 22 = .ok (.goto (-18), 3) := by decide +kernel
theorem dX5_raw_25 : decode cX5_raw 25 = .ok (.iload_n 2, 1) := by decide +kernel
theorem dX5_raw_26 : decode cX5_raw 26 = .ok (.ireturn, 1) := by decide +kernel
theorem dX5_full_0 : decode cX5_full 0 = .ok (.iconst 0, 1) := by decide +kernel
theorem dX5_full_1 : decode cX5_full 1 = .ok (.istore_n 1, 1) := by decide +kernel
theorem dX5_full_2 : decode cX5_full 2 = .ok (.iconst 0, 1) := by decide +kernel
theorem dX5_full_3 : decode cX5_full 3 = .ok (.istore_n 2, 1) := by decide +kernel
theorem dX5_full_4 : decode cX5_full 4 = .ok (.iload_n 2, 1) := by decide +kernel
theorem dX5_full_5 : decode cX5_full 5 = .ok (.bipush 8, 2) := by decide +kernel
theorem dX5_full_7 : decode cX5_full 7 = .ok (.if_icmp .ge 20, 3) := by decide +kernel
theorem dX5_full_10 : decode cX5_full 10 = .ok (.iload_n 1, 1) := by decide +kernel
theorem dX5_full_11 : decode cX5_full 11 = .ok (.aload_n 0, 1) := by decide +kernel
theorem dX5_full_12 : decode cX5_full 12 = .ok (.getfield 7, 3) := by decide +kernel
theorem dX5_full_15 : decode cX5_full 15 = .ok (.iconst 0, 1) := by decide +kernel
theorem dX5_full_16 : decode cX5_full 16 = .ok (.iload_n 2, 1) := by decide +kernel
theorem dX5_full_17 : decode cX5_full 17 = .ok (.iadd, 1) := by decide +kernel
theorem dX5_full_18 : decode cX5_full 18 = .ok (.iaload, 1) := by decide +kernel
theorem dX5_full_19 : decode cX5_full 19 = .ok (.iadd, 1) := by decide +kernel
theorem dX5_full_20 : decode cX5_full 20 = .ok (.istore_n 1, 1) := by decide +kernel
theorem dX5_full_21 : decode cX5_full 21 = .ok (.iinc 2 1, 3) := by decide +kernel
theorem dX5_full_24 : decode cX5_full 24 = .ok (.goto (-20), 3) := by decide +kernel
theorem dX5_full_27 : decode cX5_full 27 = .ok (.iload_n 1, 1) := by decide +kernel
theorem dX5_full_28 : decode cX5_full 28 = .ok (.ireturn, 1) := by decide +kernel
theorem dX5_pupilOf_0 : decode cX5_pupilOf 0 = .ok (.aload_n 0, 1) := by decide +kernel
theorem dX5_pupilOf_1 : decode cX5_pupilOf 1 = .ok (.iload_n 1, 1) := by decide +kernel
theorem dX5_pupilOf_2 : decode cX5_pupilOf 2 = .ok (.invokevirtual 75, 3) := by decide +kernel
theorem dX5_pupilOf_5 : decode cX5_pupilOf 5 = .ok (.ifCond .eq 15, 3) := by decide +kernel
theorem dX5_pupilOf_8 : decode cX5_pupilOf 8 = .ok (.iload_n 2, 1) := by decide +kernel
theorem dX5_pupilOf_9 : decode cX5_pupilOf 9 = .ok (.i2l, 1) := by decide +kernel
theorem dX5_pupilOf_10 : decode cX5_pupilOf 10 = .ok (.lconst 0, 1) := by decide +kernel
theorem dX5_pupilOf_11 : decode cX5_pupilOf 11 = .ok (.ldc2_w 82, 3) := by decide +kernel
theorem dX5_pupilOf_14 : decode cX5_pupilOf 14 = .ok (.invokestatic 43, 3) := by decide +kernel
theorem dX5_pupilOf_17 : decode cX5_pupilOf 17 = .ok (.ifCond .ne 10, 3) := by decide +kernel
theorem dX5_pupilOf_20 : decode cX5_pupilOf 20 = .ok (.aload_n 0, 1) := by decide +kernel
theorem dX5_pupilOf_21 : decode cX5_pupilOf 21 = .ok (.ldc 40, 2) := by decide +kernel
theorem dX5_pupilOf_23 : decode cX5_pupilOf 23 = .ok (.invokevirtual 59, 3) := by decide +kernel
theorem dX5_pupilOf_26 : decode cX5_pupilOf 26 = .ok (.ireturn, 1) := by decide +kernel
theorem dX5_pupilOf_27 : decode cX5_pupilOf 27 = .ok (.iload_n 2, 1) := by decide +kernel
theorem dX5_pupilOf_28 : decode cX5_pupilOf 28 = .ok (.ifCond .ne 18, 3) := by decide +kernel
theorem dX5_pupilOf_31 : decode cX5_pupilOf 31 = .ok (.aload_n 0, 1) := by decide +kernel
theorem dX5_pupilOf_32 : decode cX5_pupilOf 32 = .ok (.getfield 7, 3) := by decide +kernel
theorem dX5_pupilOf_35 : decode cX5_pupilOf 35 = .ok (.bipush 19, 2) := by decide +kernel
theorem dX5_pupilOf_37 : decode cX5_pupilOf 37 = .ok (.bipush 17, 2) := by decide +kernel
theorem dX5_pupilOf_39 : decode cX5_pupilOf 39 = .ok (.iload_n 1, 1) := by decide +kernel
theorem dX5_pupilOf_40 : decode cX5_pupilOf 40 = .ok (.imul, 1) := by decide +kernel
theorem dX5_pupilOf_41 : decode cX5_pupilOf 41 = .ok (.iadd, 1) := by decide +kernel
theorem dX5_pupilOf_42 : decode cX5_pupilOf 42 = .ok (.iaload, 1) := by decide +kernel
theorem dX5_pupilOf_43 : decode cX5_pupilOf 43 = .ok (.goto 24, 3) := by decide +kernel
theorem dX5_pupilOf_46 : decode cX5_pupilOf 46 = .ok (.iload_n 2, 1) := by decide +kernel
theorem dX5_pupilOf_47 : decode cX5_pupilOf 47 = .ok (.iconst 1, 1) := by decide +kernel
theorem dX5_pupilOf_48 : decode cX5_pupilOf 48 = .ok (.if_icmp .ne 11, 3) := by decide +kernel
theorem dX5_pupilOf_51 : decode cX5_pupilOf 51 = .ok (.aload_n 0, 1) := by decide +kernel
theorem dX5_pupilOf_52 : decode cX5_pupilOf 52 = .ok (.iload_n 1, 1) := by decide +kernel
theorem dX5_pupilOf_53 : decode cX5_pupilOf 53 = .ok (.invokevirtual 84, 3) := by decide +kernel
theorem dX5_pupilOf_56 : decode cX5_pupilOf 56 = .ok (.goto 11, 3) := by decide +kernel
theorem dX5_pupilOf_59 : decode cX5_pupilOf 59 = .ok (.aload_n 0, 1) := by decide +kernel
theorem dX5_pupilOf_60 : decode cX5_pupilOf 60 = .ok (.iload_n 1, 1) := by decide +kernel
theorem dX5_pupilOf_61 : decode cX5_pupilOf 61 = .ok (.iload_n 2, 1) := by decide +kernel
theorem dX5_pupilOf_62 : decode cX5_pupilOf 62 = .ok (.iconst 2, 1) := by decide +kernel
theorem dX5_pupilOf_63 : decode cX5_pupilOf 63 = .ok (.isub, 1) := by decide +kernel
theorem dX5_pupilOf_64 : decode cX5_pupilOf 64 = .ok (.invokevirtual 78, 3) := by decide +kernel
theorem dX5_pupilOf_67 : decode cX5_pupilOf 67 = .ok (.ireturn, 1) := by decide +kernel
theorem dX5_greatest_0 : decode cX5_greatest 0 = .ok (.iconst 0, 1) := by decide +kernel
theorem dX5_greatest_1 : decode cX5_greatest 1 = .ok (.istore_n 1, 1) := by decide +kernel
theorem dX5_greatest_2 : decode cX5_greatest 2 = .ok (.iconst 0, 1) := by decide +kernel
theorem dX5_greatest_3 : decode cX5_greatest 3 = .ok (.istore_n 2, 1) := by decide +kernel
theorem dX5_greatest_4 : decode cX5_greatest 4 = .ok (.iload_n 2, 1) := by decide +kernel
theorem dX5_greatest_5 : decode cX5_greatest 5 = .ok (.aload_n 0, 1) := by decide +kernel
theorem dX5_greatest_6 : decode cX5_greatest 6 = .ok (.getfield 7, 3) := by decide +kernel
theorem dX5_greatest_9 : decode cX5_greatest 9 = .ok (.bipush 17, 2) := by decide +kernel
theorem dX5_greatest_11 : decode cX5_greatest 11 = .ok (.iaload, 1) := by decide +kernel
theorem dX5_greatest_12 : decode cX5_greatest 12 = .ok (.if_icmp .ge 26, 3) := by decide +kernel
theorem dX5_greatest_15 : decode cX5_greatest 15 = .ok (.aload_n 0, 1) := by decide +kernel
theorem dX5_greatest_16 : decode cX5_greatest 16 = .ok (.iload_n 2, 1) := by decide +kernel
theorem dX5_greatest_17 : decode cX5_greatest 17 = .ok (.invokevirtual 84, 3) := by decide +kernel
theorem dX5_greatest_20 : decode cX5_greatest 20 = .ok (.istore_n 3, 1) := by decide +kernel
theorem dX5_greatest_21 : decode cX5_greatest 21 = .ok (.iload_n 3, 1) := by decide +kernel
theorem dX5_greatest_22 : decode cX5_greatest 22 = .ok (.iload_n 1, 1) := by decide +kernel
theorem dX5_greatest_23 : decode cX5_greatest 23 = .ok (.if_icmp .le 7, 3) := by decide +kernel
theorem dX5_greatest_26 : decode cX5_greatest 26 = .ok (.iload_n 3, 1) := by decide +kernel
theorem dX5_greatest_27 : decode cX5_greatest 27 = .ok (.goto 4, 3) := by decide +kernel
theorem dX5_greatest_30 : decode cX5_greatest 30 = .ok (.iload_n 1, 1) := by decide +kernel
theorem dX5_greatest_31 : decode cX5_greatest 31 = .ok (.istore_n 1, 1) := by decide +kernel
theorem dX5_greatest_32 : decode cX5_greatest 32 = .ok (.iinc 2 1, 3) := by decide +kernel
theorem dX5_greatest_35 : decode cX5_greatest 35 = .ok (.goto (-31), 3) := by decide +kernel
theorem dX5_greatest_38 : decode cX5_greatest 38 = .ok (.iload_n 1, 1) := by decide +kernel
theorem dX5_greatest_39 : decode cX5_greatest 39 = .ok (.ireturn, 1) := by decide +kernel
theorem dX5_oldMean_0 : decode cX5_oldMean 0 = .ok (.iconst 0, 1) := by decide +kernel
theorem dX5_oldMean_1 : decode cX5_oldMean 1 = .ok (.istore_n 1, 1) := by decide +kernel
theorem dX5_oldMean_2 : decode cX5_oldMean 2 = .ok (.iconst 0, 1) := by decide +kernel
theorem dX5_oldMean_3 : decode cX5_oldMean 3 = .ok (.istore_n 2, 1) := by decide +kernel
theorem dX5_oldMean_4 : decode cX5_oldMean 4 = .ok (.iload_n 2, 1) := by decide +kernel
theorem dX5_oldMean_5 : decode cX5_oldMean 5 = .ok (.bipush 8, 2) := by decide +kernel
theorem dX5_oldMean_7 : decode cX5_oldMean 7 = .ok (.if_icmp .ge 37, 3) := by decide +kernel
theorem dX5_oldMean_10 : decode cX5_oldMean 10 = .ok (.iload_n 1, 1) := by decide +kernel
theorem dX5_oldMean_11 : decode cX5_oldMean 11 = .ok (.aload_n 0, 1) := by decide +kernel
theorem dX5_oldMean_12 : decode cX5_oldMean 12 = .ok (.getfield 7, 3) := by decide +kernel
theorem dX5_oldMean_15 : decode cX5_oldMean 15 = .ok (.bipush 8, 2) := by decide +kernel
theorem dX5_oldMean_17 : decode cX5_oldMean 17 = .ok (.iload_n 2, 1) := by decide +kernel
theorem dX5_oldMean_18 : decode cX5_oldMean 18 = .ok (.iadd, 1) := by decide +kernel
theorem dX5_oldMean_19 : decode cX5_oldMean 19 = .ok (.iaload, 1) := by decide +kernel
theorem dX5_oldMean_20 : decode cX5_oldMean 20 = .ok (.ifCond .ge 7, 3) := by decide +kernel
theorem dX5_oldMean_23 : decode cX5_oldMean 23 = .ok (.iconst 0, 1) := by decide +kernel
theorem dX5_oldMean_24 : decode cX5_oldMean 24 = .ok (.goto 12, 3) := by decide +kernel
theorem dX5_oldMean_27 : decode cX5_oldMean 27 = .ok (.aload_n 0, 1) := by decide +kernel
theorem dX5_oldMean_28 : decode cX5_oldMean 28 = .ok (.getfield 7, 3) := by decide +kernel
theorem dX5_oldMean_31 : decode cX5_oldMean 31 = .ok (.bipush 8, 2) := by decide +kernel
theorem dX5_oldMean_33 : decode cX5_oldMean 33 = .ok (.iload_n 2, 1) := by decide +kernel
theorem dX5_oldMean_34 : decode cX5_oldMean 34 = .ok (.iadd, 1) := by decide +kernel
theorem dX5_oldMean_35 : decode cX5_oldMean 35 = .ok (.iaload, 1) := by decide +kernel
theorem dX5_oldMean_36 : decode cX5_oldMean 36 = .ok (.iadd, 1) := by decide +kernel
theorem dX5_oldMean_37 : decode cX5_oldMean 37 = .ok (.istore_n 1, 1) := by decide +kernel
theorem dX5_oldMean_38 : decode cX5_oldMean 38 = .ok (.iinc 2 1, 3) := by decide +kernel
theorem dX5_oldMean_41 : decode cX5_oldMean 41 = .ok (.goto (-37), 3) := by decide +kernel
theorem dX5_oldMean_44 : decode cX5_oldMean 44 = .ok (.iload_n 1, 1) := by decide +kernel
theorem dX5_oldMean_45 : decode cX5_oldMean 45 = .ok (.ireturn, 1) := by decide +kernel
theorem dX5_newMean_0 : decode cX5_newMean 0 = .ok (.iconst 0, 1) := by decide +kernel
theorem dX5_newMean_1 : decode cX5_newMean 1 = .ok (.istore_n 1, 1) := by decide +kernel
theorem dX5_newMean_2 : decode cX5_newMean 2 = .ok (.iconst 0, 1) := by decide +kernel
theorem dX5_newMean_3 : decode cX5_newMean 3 = .ok (.istore_n 2, 1) := by decide +kernel
theorem dX5_newMean_4 : decode cX5_newMean 4 = .ok (.iload_n 2, 1) := by decide +kernel
theorem dX5_newMean_5 : decode cX5_newMean 5 = .ok (.bipush 8, 2) := by decide +kernel
theorem dX5_newMean_7 : decode cX5_newMean 7 = .ok (.if_icmp .ge 49, 3) := by decide +kernel
theorem dX5_newMean_10 : decode cX5_newMean 10 = .ok (.iconst 0, 1) := by decide +kernel
theorem dX5_newMean_11 : decode cX5_newMean 11 = .ok (.istore_n 3, 1) := by decide +kernel
theorem dX5_newMean_12 : decode cX5_newMean 12 = .ok (.iload_n 3, 1) := by decide +kernel
theorem dX5_newMean_13 : decode cX5_newMean 13 = .ok (.aload_n 0, 1) := by decide +kernel
theorem dX5_newMean_14 : decode cX5_newMean 14 = .ok (.getfield 7, 3) := by decide +kernel
theorem dX5_newMean_17 : decode cX5_newMean 17 = .ok (.bipush 17, 2) := by decide +kernel
theorem dX5_newMean_19 : decode cX5_newMean 19 = .ok (.iaload, 1) := by decide +kernel
theorem dX5_newMean_20 : decode cX5_newMean 20 = .ok (.if_icmp .ge 30, 3) := by decide +kernel
theorem dX5_newMean_23 : decode cX5_newMean 23 = .ok (.aload_n 0, 1) := by decide +kernel
theorem dX5_newMean_24 : decode cX5_newMean 24 = .ok (.getfield 7, 3) := by decide +kernel
theorem dX5_newMean_27 : decode cX5_newMean 27 = .ok (.bipush 8, 2) := by decide +kernel
theorem dX5_newMean_29 : decode cX5_newMean 29 = .ok (.iload_n 2, 1) := by decide +kernel
theorem dX5_newMean_30 : decode cX5_newMean 30 = .ok (.iadd, 1) := by decide +kernel
theorem dX5_newMean_31 : decode cX5_newMean 31 = .ok (.iaload, 1) := by decide +kernel
theorem dX5_newMean_32 : decode cX5_newMean 32 = .ok (.ifCond .lt 18, 3) := by decide +kernel
theorem dX5_newMean_35 : decode cX5_newMean 35 = .ok (.iload_n 1, 1) := by decide +kernel
theorem dX5_newMean_36 : decode cX5_newMean 36 = .ok (.aload_n 0, 1) := by decide +kernel
theorem dX5_newMean_37 : decode cX5_newMean 37 = .ok (.iload_n 3, 1) := by decide +kernel
theorem dX5_newMean_38 : decode cX5_newMean 38 = .ok (.iload_n 2, 1) := by decide +kernel
theorem dX5_newMean_39 : decode cX5_newMean 39 = .ok (.invokevirtual 78, 3) := by decide +kernel
theorem dX5_newMean_42 : decode cX5_newMean 42 = .ok (.iadd, 1) := by decide +kernel
theorem dX5_newMean_43 : decode cX5_newMean 43 = .ok (.istore_n 1, 1) := by decide +kernel
theorem dX5_newMean_44 : decode cX5_newMean 44 = .ok (.iinc 3 1, 3) := by decide +kernel
theorem dX5_newMean_47 : decode cX5_newMean 47 = .ok (.goto (-35), 3) := by decide +kernel
theorem dX5_newMean_50 : decode cX5_newMean 50 = .ok (.iinc 2 1, 3) := by decide +kernel
theorem dX5_newMean_53 : decode cX5_newMean 53 = .ok (.goto (-49), 3) := by decide +kernel
theorem dX5_newMean_56 : decode cX5_newMean 56 = .ok (.bipush 10, 2) := by decide +kernel
theorem dX5_newMean_58 : decode cX5_newMean 58 = .ok (.iload_n 1, 1) := by decide +kernel
theorem dX5_newMean_59 : decode cX5_newMean 59 = .ok (.imul, 1) := by decide +kernel
theorem dX5_newMean_60 : decode cX5_newMean 60 = .ok (.aload_n 0, 1) := by decide +kernel
theorem dX5_newMean_61 : decode cX5_newMean 61 = .ok (.getfield 7, 3) := by decide +kernel
theorem dX5_newMean_64 : decode cX5_newMean 64 = .ok (.bipush 17, 2) := by decide +kernel
theorem dX5_newMean_66 : decode cX5_newMean 66 = .ok (.iaload, 1) := by decide +kernel
theorem dX5_newMean_67 : decode cX5_newMean 67 = .ok (.idiv, 1) := by decide +kernel
theorem dX5_newMean_68 : decode cX5_newMean 68 = .ok (.ireturn, 1) := by decide +kernel
theorem dX5_commons_0 : decode cX5_commons 0 = .ok (.iconst 0, 1) := by decide +kernel
theorem dX5_commons_1 : decode cX5_commons 1 = .ok (.istore_n 1, 1) := by decide +kernel
theorem dX5_commons_2 : decode cX5_commons 2 = .ok (.iconst 0, 1) := by decide +kernel
theorem dX5_commons_3 : decode cX5_commons 3 = .ok (.istore_n 2, 1) := by decide +kernel
theorem dX5_commons_4 : decode cX5_commons 4 = .ok (.iload_n 2, 1) := by decide +kernel
theorem dX5_commons_5 : decode cX5_commons 5 = .ok (.bipush 8, 2) := by decide +kernel
theorem dX5_commons_7 : decode cX5_commons 7 = .ok (.if_icmp .ge 31, 3) := by decide +kernel
theorem dX5_commons_10 : decode cX5_commons 10 = .ok (.iload_n 1, 1) := by decide +kernel
theorem dX5_commons_11 : decode cX5_commons 11 = .ok (.aload_n 0, 1) := by decide +kernel
theorem dX5_commons_12 : decode cX5_commons 12 = .ok (.getfield 7, 3) := by decide +kernel
theorem dX5_commons_15 : decode cX5_commons 15 = .ok (.bipush 8, 2) := by decide +kernel
theorem dX5_commons_17 : decode cX5_commons 17 = .ok (.iload_n 2, 1) := by decide +kernel
theorem dX5_commons_18 : decode cX5_commons 18 = .ok (.iadd, 1) := by decide +kernel
theorem dX5_commons_19 : decode cX5_commons 19 = .ok (.iaload, 1) := by decide +kernel
theorem dX5_commons_20 : decode cX5_commons 20 = .ok (.ifCond .ge 7, 3) := by decide +kernel
theorem dX5_commons_23 : decode cX5_commons 23 = .ok (.iconst 0, 1) := by decide +kernel
theorem dX5_commons_24 : decode cX5_commons 24 = .ok (.goto 6, 3) := by decide +kernel
theorem dX5_commons_27 : decode cX5_commons 27 = .ok (.iconst 1, 1) := by decide +kernel
theorem dX5_commons_28 : decode cX5_commons 28 = .ok (.iload_n 2, 1) := by decide +kernel
theorem dX5_commons_29 : decode cX5_commons 29 = .ok (.ishl, 1) := by decide +kernel
theorem dX5_commons_30 : decode cX5_commons 30 = .ok (.ior, 1) := by decide +kernel
theorem dX5_commons_31 : decode cX5_commons 31 = .ok (.istore_n 1, 1) := by decide +kernel
theorem dX5_commons_32 : decode cX5_commons 32 = .ok (.iinc 2 1, 3) := by decide +kernel
theorem dX5_commons_35 : decode cX5_commons 35 = .ok (.goto (-31), 3) := by decide +kernel
theorem dX5_commons_38 : decode cX5_commons 38 = .ok (.iload_n 1, 1) := by decide +kernel
theorem dX5_commons_39 : decode cX5_commons 39 = .ok (.ireturn, 1) := by decide +kernel
theorem dX5_paper_0 : decode cX5_paper 0 = .ok (.iload_n 1, 1) := by decide +kernel
theorem dX5_paper_1 : decode cX5_paper 1 = .ok (.i2l, 1) := by decide +kernel
theorem dX5_paper_2 : decode cX5_paper 2 = .ok (.lconst 0, 1) := by decide +kernel
theorem dX5_paper_3 : decode cX5_paper 3 = .ok (.ldc2_w 87, 3) := by decide +kernel
theorem dX5_paper_6 : decode cX5_paper 6 = .ok (.invokestatic 43, 3) := by decide +kernel
theorem dX5_paper_9 : decode cX5_paper 9 = .ok (.ifCond .ne 10, 3) := by decide +kernel
theorem dX5_paper_12 : decode cX5_paper 12 = .ok (.aload_n 0, 1) := by decide +kernel
theorem dX5_paper_13 : decode cX5_paper 13 = .ok (.ldc 40, 2) := by decide +kernel
theorem dX5_paper_15 : decode cX5_paper 15 = .ok (.invokevirtual 59, 3) := by decide +kernel
theorem dX5_paper_18 : decode cX5_paper 18 = .ok (.ireturn, 1) := by decide +kernel
theorem dX5_paper_19 : decode cX5_paper 19 = .ok (.aload_n 0, 1) := by decide +kernel
theorem dX5_paper_20 : decode cX5_paper 20 = .ok (.getfield 7, 3) := by decide +kernel
theorem dX5_paper_23 : decode cX5_paper 23 = .ok (.bipush 17, 2) := by decide +kernel
theorem dX5_paper_25 : decode cX5_paper 25 = .ok (.iaload, 1) := by decide +kernel
theorem dX5_paper_26 : decode cX5_paper 26 = .ok (.ifCond .ne 20, 3) := by decide +kernel
theorem dX5_paper_29 : decode cX5_paper 29 = .ok (.iload_n 1, 1) := by decide +kernel
theorem dX5_paper_30 : decode cX5_paper 30 = .ok (.iconst 1, 1) := by decide +kernel
theorem dX5_paper_31 : decode cX5_paper 31 = .ok (.if_icmp .eq 8, 3) := by decide +kernel
theorem dX5_paper_34 : decode cX5_paper 34 = .ok (.iload_n 1, 1) := by decide +kernel
theorem dX5_paper_35 : decode cX5_paper 35 = .ok (.iconst 3, 1) := by decide +kernel
theorem dX5_paper_36 : decode cX5_paper 36 = .ok (.if_icmp .ne 10, 3) := by decide +kernel
theorem dX5_paper_39 : decode cX5_paper 39 = .ok (.aload_n 0, 1) := by decide +kernel
theorem dX5_paper_40 : decode cX5_paper 40 = .ok (.ldc 89, 2) := by decide +kernel
theorem dX5_paper_42 : decode cX5_paper 42 = .ok (.invokevirtual 59, 3) := by decide +kernel
theorem dX5_paper_45 : decode cX5_paper 45 = .ok (.ireturn, 1) := by decide +kernel
theorem dX5_paper_46 : decode cX5_paper 46 = .ok (.iconst 0, 1) := by decide +kernel
theorem dX5_paper_47 : decode cX5_paper 47 = .ok (.istore_n 2, 1) := by decide +kernel
theorem dX5_paper_48 : decode cX5_paper 48 = .ok (.iload_n 1, 1) := by decide +kernel
theorem dX5_paper_49 : decode cX5_paper 49 = .ok (.tableswitch 84 0 4 #[35, 40, 45, 50, 55], 35) := by decide +kernel
theorem dX5_paper_84 : decode cX5_paper 84 = .ok (.aload_n 0, 1) := by decide +kernel
theorem dX5_paper_85 : decode cX5_paper 85 = .ok (.invokevirtual 90, 3) := by decide +kernel
theorem dX5_paper_88 : decode cX5_paper 88 = .ok (.ireturn, 1) := by decide +kernel
theorem dX5_paper_89 : decode cX5_paper 89 = .ok (.aload_n 0, 1) := by decide +kernel
theorem dX5_paper_90 : decode cX5_paper 90 = .ok (.invokevirtual 94, 3) := by decide +kernel
theorem dX5_paper_93 : decode cX5_paper 93 = .ok (.ireturn, 1) := by decide +kernel
theorem dX5_paper_94 : decode cX5_paper 94 = .ok (.aload_n 0, 1) := by decide +kernel
theorem dX5_paper_95 : decode cX5_paper 95 = .ok (.invokevirtual 97, 3) := by decide +kernel
theorem dX5_paper_98 : decode cX5_paper 98 = .ok (.ireturn, 1) := by decide +kernel
theorem dX5_paper_99 : decode cX5_paper 99 = .ok (.aload_n 0, 1) := by decide +kernel
theorem dX5_paper_100 : decode cX5_paper 100 = .ok (.invokevirtual 100, 3) := by decide +kernel
theorem dX5_paper_103 : decode cX5_paper 103 = .ok (.ireturn, 1) := by decide +kernel
theorem dX5_paper_104 : decode cX5_paper 104 = .ok (.iconst 0, 1) := by decide +kernel
theorem dX5_paper_105 : decode cX5_paper 105 = .ok (.istore_n 3, 1) := by decide +kernel
theorem dX5_paper_106 : decode cX5_paper 106 = .ok (.iload_n 3, 1) := by decide +kernel
theorem dX5_paper_107 : decode cX5_paper 107 = .ok (.aload_n 0, 1) := by decide +kernel
theorem dX5_paper_108 : decode cX5_paper 108 = .ok (.getfield 7, 3) := by decide +kernel
theorem dX5_paper_111 : decode cX5_paper 111 = .ok (.bipush 17, 2) := by decide +kernel
theorem dX5_paper_113 : decode cX5_paper 113 = .ok (.iaload, 1) := by decide +kernel
theorem dX5_paper_114 : decode cX5_paper 114 = .ok (.if_icmp .ge 17, 3) := by decide +kernel
theorem dX5_paper_117 : decode cX5_paper 117 = .ok (.iload_n 2, 1) := by decide +kernel
theorem dX5_paper_118 : decode cX5_paper 118 = .ok (.aload_n 0, 1) := by decide +kernel
theorem dX5_paper_119 : decode cX5_paper 119 = .ok (.iload_n 3, 1) := by decide +kernel
theorem dX5_paper_120 : decode cX5_paper 120 = .ok (.invokevirtual 84, 3) := by decide +kernel
theorem dX5_paper_123 : decode cX5_paper 123 = .ok (.iadd, 1) := by decide +kernel
theorem dX5_paper_124 : decode cX5_paper 124 = .ok (.istore_n 2, 1) := by decide +kernel
theorem dX5_paper_125 : decode cX5_paper 125 = .ok (.iinc 3 1, 3) := by decide +kernel
theorem dX5_paper_128 : decode cX5_paper 128 = .ok (.goto (-22), 3) := by decide +kernel
theorem dX5_paper_131 : decode cX5_paper 131 = .ok (.iload_n 2, 1) := by decide +kernel
theorem dX5_paper_132 : decode cX5_paper 132 = .ok (.ireturn, 1) := by decide +kernel
theorem dX5_paper_133 : decode cX5_paper 133 = .ok (.aload_n 0, 1) := by decide +kernel
theorem dX5_paper_134 : decode cX5_paper 134 = .ok (.invokevirtual 103, 3) := by decide +kernel
theorem dX5_paper_137 : decode cX5_paper 137 = .ok (.ireturn, 1) := by decide +kernel
theorem dX5_drawn_0 : decode cX5_drawn 0 = .ok (.aload_n 0, 1) := by decide +kernel
theorem dX5_drawn_1 : decode cX5_drawn 1 = .ok (.iload_n 1, 1) := by decide +kernel
theorem dX5_drawn_2 : decode cX5_drawn 2 = .ok (.invokevirtual 75, 3) := by decide +kernel
theorem dX5_drawn_5 : decode cX5_drawn 5 = .ok (.ifCond .eq 13, 3) := by decide +kernel
theorem dX5_drawn_8 : decode cX5_drawn 8 = .ok (.iload_n 2, 1) := by decide +kernel
theorem dX5_drawn_9 : decode cX5_drawn 9 = .ok (.i2l, 1) := by decide +kernel
theorem dX5_drawn_10 : decode cX5_drawn 10 = .ok (.lconst 0, 1) := by decide +kernel
theorem dX5_drawn_11 : decode cX5_drawn 11 = .ok (.lconst 1, 1) := by decide +kernel
theorem dX5_drawn_12 : decode cX5_drawn 12 = .ok (.invokestatic 43, 3) := by decide +kernel
theorem dX5_drawn_15 : decode cX5_drawn 15 = .ok (.ifCond .ne 10, 3) := by decide +kernel
theorem dX5_drawn_18 : decode cX5_drawn 18 = .ok (.aload_n 0, 1) := by decide +kernel
theorem dX5_drawn_19 : decode cX5_drawn 19 = .ok (.ldc 40, 2) := by decide +kernel
theorem dX5_drawn_21 : decode cX5_drawn 21 = .ok (.invokevirtual 59, 3) := by decide +kernel
theorem dX5_drawn_24 : decode cX5_drawn 24 = .ok (.ireturn, 1) := by decide +kernel
theorem dX5_drawn_25 : decode cX5_drawn 25 = .ok (.iconst 0, 1) := by decide +kernel
theorem dX5_drawn_26 : decode cX5_drawn 26 = .ok (.istore_n 3, 1) := by decide +kernel
theorem dX5_drawn_27 : decode cX5_drawn 27 = .ok (.iload_n 3, 1) := by decide +kernel
theorem dX5_drawn_28 : decode cX5_drawn 28 = .ok (.bipush 8, 2) := by decide +kernel
theorem dX5_drawn_30 : decode cX5_drawn 30 = .ok (.if_icmp .ge 62, 3) := by decide +kernel
theorem dX5_drawn_33 : decode cX5_drawn 33 = .ok (.aload_n 0, 1) := by decide +kernel
theorem dX5_drawn_34 : decode cX5_drawn 34 = .ok (.getfield 7, 3) := by decide +kernel
theorem dX5_drawn_37 : decode cX5_drawn 37 = .ok (.bipush 16, 2) := by decide +kernel
theorem dX5_drawn_39 : decode cX5_drawn 39 = .ok (.aload_n 0, 1) := by decide +kernel
theorem dX5_drawn_40 : decode cX5_drawn 40 = .ok (.getfield 7, 3) := by decide +kernel
theorem dX5_drawn_43 : decode cX5_drawn 43 = .ok (.bipush 16, 2) := by decide +kernel
theorem dX5_drawn_45 : decode cX5_drawn 45 = .ok (.iaload, 1) := by decide +kernel
theorem dX5_drawn_46 : decode cX5_drawn 46 = .ok (.ldc 106, 2) := by decide +kernel
theorem dX5_drawn_48 : decode cX5_drawn 48 = .ok (.imul, 1) := by decide +kernel
theorem dX5_drawn_49 : decode cX5_drawn 49 = .ok (.sipush 12345, 3) := by decide +kernel
theorem dX5_drawn_52 : decode cX5_drawn 52 = .ok (.iadd, 1) := by decide +kernel
theorem dX5_drawn_53 : decode cX5_drawn 53 = .ok (.iastore, 1) := by decide +kernel
theorem dX5_drawn_54 : decode cX5_drawn 54 = .ok (.aload_n 0, 1) := by decide +kernel
theorem dX5_drawn_55 : decode cX5_drawn 55 = .ok (.getfield 7, 3) := by decide +kernel
theorem dX5_drawn_58 : decode cX5_drawn 58 = .ok (.iload_n 1, 1) := by decide +kernel
theorem dX5_drawn_59 : decode cX5_drawn 59 = .ok (.iload_n 2, 1) := by decide +kernel
theorem dX5_drawn_60 : decode cX5_drawn 60 = .ok (.iload_n 3, 1) := by decide +kernel
theorem dX5_drawn_61 : decode cX5_drawn 61 = .ok (.invokestatic 49, 3) := by decide +kernel
theorem dX5_drawn_64 : decode cX5_drawn 64 = .ok (.aload_n 0, 1) := by decide +kernel
theorem dX5_drawn_65 : decode cX5_drawn 65 = .ok (.getfield 7, 3) := by decide +kernel
theorem dX5_drawn_68 : decode cX5_drawn 68 = .ok (.bipush 16, 2) := by decide +kernel
theorem dX5_drawn_70 : decode cX5_drawn 70 = .ok (.iaload, 1) := by decide +kernel
theorem dX5_drawn_71 : decode cX5_drawn 71 = .ok (.bipush 8, 2) := by decide +kernel
theorem dX5_drawn_73 : decode cX5_drawn 73 = .ok (.iushr, 1) := by decide +kernel
theorem dX5_drawn_74 : decode cX5_drawn 74 = .ok (.aload_n 0, 1) := by decide +kernel
theorem dX5_drawn_75 : decode cX5_drawn 75 = .ok (.getfield 7, 3) := by decide +kernel
theorem dX5_drawn_78 : decode cX5_drawn 78 = .ok (.iconst 0, 1) := by decide +kernel
theorem dX5_drawn_79 : decode cX5_drawn 79 = .ok (.iload_n 3, 1) := by decide +kernel
theorem dX5_drawn_80 : decode cX5_drawn 80 = .ok (.iadd, 1) := by decide +kernel
theorem dX5_drawn_81 : decode cX5_drawn 81 = .ok (.iaload, 1) := by decide +kernel
theorem dX5_drawn_82 : decode cX5_drawn 82 = .ok (.iconst 1, 1) := by decide +kernel
theorem dX5_drawn_83 : decode cX5_drawn 83 = .ok (.iadd, 1) := by decide +kernel
theorem dX5_drawn_84 : decode cX5_drawn 84 = .ok (.irem, 1) := by decide +kernel
theorem dX5_drawn_85 : decode cX5_drawn 85 = .ok (.iastore, 1) := by decide +kernel
theorem dX5_drawn_86 : decode cX5_drawn 86 = .ok (.iinc 3 1, 3) := by decide +kernel
theorem dX5_drawn_89 : decode cX5_drawn 89 = .ok (.goto (-62), 3) := by decide +kernel
theorem dX5_drawn_92 : decode cX5_drawn 92 = .ok (.aload_n 0, 1) := by decide +kernel
theorem dX5_drawn_93 : decode cX5_drawn 93 = .ok (.iload_n 1, 1) := by decide +kernel
theorem dX5_drawn_94 : decode cX5_drawn 94 = .ok (.invokevirtual 84, 3) := by decide +kernel
theorem dX5_drawn_97 : decode cX5_drawn 97 = .ok (.ireturn, 1) := by decide +kernel
theorem dX5_drop_0 : decode cX5_drop 0 = .ok (.aload_n 0, 1) := by decide +kernel
theorem dX5_drop_1 : decode cX5_drop 1 = .ok (.getfield 7, 3) := by decide +kernel
theorem dX5_drop_4 : decode cX5_drop 4 = .ok (.bipush 17, 2) := by decide +kernel
theorem dX5_drop_6 : decode cX5_drop 6 = .ok (.iaload, 1) := by decide +kernel
theorem dX5_drop_7 : decode cX5_drop 7 = .ok (.ifCond .ne 10, 3) := by decide +kernel
theorem dX5_drop_10 : decode cX5_drop 10 = .ok (.aload_n 0, 1) := by decide +kernel
theorem dX5_drop_11 : decode cX5_drop 11 = .ok (.ldc 89, 2) := by decide +kernel
theorem dX5_drop_13 : decode cX5_drop 13 = .ok (.invokevirtual 59, 3) := by decide +kernel
theorem dX5_drop_16 : decode cX5_drop 16 = .ok (.ireturn, 1) := by decide +kernel
theorem dX5_drop_17 : decode cX5_drop 17 = .ok (.aload_n 0, 1) := by decide +kernel
theorem dX5_drop_18 : decode cX5_drop 18 = .ok (.getfield 7, 3) := by decide +kernel
theorem dX5_drop_21 : decode cX5_drop 21 = .ok (.bipush 17, 2) := by decide +kernel
theorem dX5_drop_23 : decode cX5_drop 23 = .ok (.dup2, 1) := by decide +kernel
theorem dX5_drop_24 : decode cX5_drop 24 = .ok (.iaload, 1) := by decide +kernel
theorem dX5_drop_25 : decode cX5_drop 25 = .ok (.iconst 1, 1) := by decide +kernel
theorem dX5_drop_26 : decode cX5_drop 26 = .ok (.isub, 1) := by decide +kernel
theorem dX5_drop_27 : decode cX5_drop 27 = .ok (.iastore, 1) := by decide +kernel
theorem dX5_drop_28 : decode cX5_drop 28 = .ok (.aload_n 0, 1) := by decide +kernel
theorem dX5_drop_29 : decode cX5_drop 29 = .ok (.getfield 7, 3) := by decide +kernel
theorem dX5_drop_32 : decode cX5_drop 32 = .ok (.bipush 17, 2) := by decide +kernel
theorem dX5_drop_34 : decode cX5_drop 34 = .ok (.iaload, 1) := by decide +kernel
theorem dX5_drop_35 : decode cX5_drop 35 = .ok (.ireturn, 1) := by decide +kernel
theorem dX5_newCurve_0 : decode cX5_newCurve 0 = .ok (.aload_n 0, 1) := by decide +kernel
theorem dX5_newCurve_1 : decode cX5_newCurve 1 = .ok (.getfield 7, 3) := by decide +kernel
theorem dX5_newCurve_4 : decode cX5_newCurve 4 = .ok (.sipush 223, 3) := by decide +kernel
theorem dX5_newCurve_7 : decode cX5_newCurve 7 = .ok (.iconst 2, 1) := by decide +kernel
theorem dX5_newCurve_8 : decode cX5_newCurve 8 = .ok (.aload_n 0, 1) := by decide +kernel
theorem dX5_newCurve_9 : decode cX5_newCurve 9 = .ok (.getfield 7, 3) := by decide +kernel
theorem dX5_newCurve_12 : decode cX5_newCurve 12 = .ok (.bipush 18, 2) := by decide +kernel
theorem dX5_newCurve_14 : decode cX5_newCurve 14 = .ok (.iaload, 1) := by decide +kernel
theorem dX5_newCurve_15 : decode cX5_newCurve 15 = .ok (.imul, 1) := by decide +kernel
theorem dX5_newCurve_16 : decode cX5_newCurve 16 = .ok (.iadd, 1) := by decide +kernel
theorem dX5_newCurve_17 : decode cX5_newCurve 17 = .ok (.iload_n 1, 1) := by decide +kernel
theorem dX5_newCurve_18 : decode cX5_newCurve 18 = .ok (.iastore, 1) := by decide +kernel
theorem dX5_newCurve_19 : decode cX5_newCurve 19 = .ok (.aload_n 0, 1) := by decide +kernel
theorem dX5_newCurve_20 : decode cX5_newCurve 20 = .ok (.getfield 7, 3) := by decide +kernel
theorem dX5_newCurve_23 : decode cX5_newCurve 23 = .ok (.sipush 223, 3) := by decide +kernel
theorem dX5_newCurve_26 : decode cX5_newCurve 26 = .ok (.iconst 2, 1) := by decide +kernel
theorem dX5_newCurve_27 : decode cX5_newCurve 27 = .ok (.aload_n 0, 1) := by decide +kernel
theorem dX5_newCurve_28 : decode cX5_newCurve 28 = .ok (.getfield 7, 3) := by decide +kernel
theorem dX5_newCurve_31 : decode cX5_newCurve 31 = .ok (.bipush 18, 2) := by decide +kernel
theorem dX5_newCurve_33 : decode cX5_newCurve 33 = .ok (.iaload, 1) := by decide +kernel
theorem dX5_newCurve_34 : decode cX5_newCurve 34 = .ok (.imul, 1) := by decide +kernel
theorem dX5_newCurve_35 : decode cX5_newCurve 35 = .ok (.iadd, 1) := by decide +kernel
theorem dX5_newCurve_36 : decode cX5_newCurve 36 = .ok (.iconst 1, 1) := by decide +kernel
theorem dX5_newCurve_37 : decode cX5_newCurve 37 = .ok (.iadd, 1) := by decide +kernel
theorem dX5_newCurve_38 : decode cX5_newCurve 38 = .ok (.iload_n 2, 1) := by decide +kernel
theorem dX5_newCurve_39 : decode cX5_newCurve 39 = .ok (.iastore, 1) := by decide +kernel
theorem dX5_newCurve_40 : decode cX5_newCurve 40 = .ok (.aload_n 0, 1) := by decide +kernel
theorem dX5_newCurve_41 : decode cX5_newCurve 41 = .ok (.getfield 7, 3) := by decide +kernel
theorem dX5_newCurve_44 : decode cX5_newCurve 44 = .ok (.bipush 18, 2) := by decide +kernel
theorem dX5_newCurve_46 : decode cX5_newCurve 46 = .ok (.dup2, 1) := by decide +kernel
theorem dX5_newCurve_47 : decode cX5_newCurve 47 = .ok (.iaload, 1) := by decide +kernel
theorem dX5_newCurve_48 : decode cX5_newCurve 48 = .ok (.iconst 1, 1) := by decide +kernel
theorem dX5_newCurve_49 : decode cX5_newCurve 49 = .ok (.iadd, 1) := by decide +kernel
theorem dX5_newCurve_50 : decode cX5_newCurve 50 = .ok (.iastore, 1) := by decide +kernel
theorem dX5_newCurve_51 : decode cX5_newCurve 51 = .ok (.aload_n 0, 1) := by decide +kernel
theorem dX5_newCurve_52 : decode cX5_newCurve 52 = .ok (.getfield 7, 3) := by decide +kernel
theorem dX5_newCurve_55 : decode cX5_newCurve 55 = .ok (.bipush 18, 2) := by decide +kernel
theorem dX5_newCurve_57 : decode cX5_newCurve 57 = .ok (.iaload, 1) := by decide +kernel
theorem dX5_newCurve_58 : decode cX5_newCurve 58 = .ok (.iconst 1, 1) := by decide +kernel
theorem dX5_newCurve_59 : decode cX5_newCurve 59 = .ok (.isub, 1) := by decide +kernel
theorem dX5_newCurve_60 : decode cX5_newCurve 60 = .ok (.ireturn, 1) := by decide +kernel
theorem dX5_curve_0 : decode cX5_curve 0 = .ok (.iload_n 1, 1) := by decide +kernel
theorem dX5_curve_1 : decode cX5_curve 1 = .ok (.i2l, 1) := by decide +kernel
theorem dX5_curve_2 : decode cX5_curve 2 = .ok (.lconst 0, 1) := by decide +kernel
theorem dX5_curve_3 : decode cX5_curve 3 = .ok (.ldc2_w 107, 3) := by decide +kernel
theorem dX5_curve_6 : decode cX5_curve 6 = .ok (.invokestatic 43, 3) := by decide +kernel
theorem dX5_curve_9 : decode cX5_curve 9 = .ok (.ifCond .eq 15, 3) := by decide +kernel
theorem dX5_curve_12 : decode cX5_curve 12 = .ok (.iload_n 2, 1) := by decide +kernel
theorem dX5_curve_13 : decode cX5_curve 13 = .ok (.i2l, 1) := by decide +kernel
theorem dX5_curve_14 : decode cX5_curve 14 = .ok (.lconst 0, 1) := by decide +kernel
theorem dX5_curve_15 : decode cX5_curve 15 = .ok (.ldc2_w 109, 3) := by decide +kernel
theorem dX5_curve_18 : decode cX5_curve 18 = .ok (.invokestatic 43, 3) := by decide +kernel
theorem dX5_curve_21 : decode cX5_curve 21 = .ok (.ifCond .ne 10, 3) := by decide +kernel
theorem dX5_curve_24 : decode cX5_curve 24 = .ok (.aload_n 0, 1) := by decide +kernel
theorem dX5_curve_25 : decode cX5_curve 25 = .ok (.ldc 40, 2) := by decide +kernel
theorem dX5_curve_27 : decode cX5_curve 27 = .ok (.invokevirtual 59, 3) := by decide +kernel
theorem dX5_curve_30 : decode cX5_curve 30 = .ok (.ireturn, 1) := by decide +kernel
theorem dX5_curve_31 : decode cX5_curve 31 = .ok (.aload_n 0, 1) := by decide +kernel
theorem dX5_curve_32 : decode cX5_curve 32 = .ok (.getfield 7, 3) := by decide +kernel
theorem dX5_curve_35 : decode cX5_curve 35 = .ok (.bipush 18, 2) := by decide +kernel
theorem dX5_curve_37 : decode cX5_curve 37 = .ok (.iaload, 1) := by decide +kernel
theorem dX5_curve_38 : decode cX5_curve 38 = .ok (.bipush 6, 2) := by decide +kernel
theorem dX5_curve_40 : decode cX5_curve 40 = .ok (.if_icmp .ne 12, 3) := by decide +kernel
theorem dX5_curve_43 : decode cX5_curve 43 = .ok (.aload_n 0, 1) := by decide +kernel
theorem dX5_curve_44 : decode cX5_curve 44 = .ok (.ldc 71, 2) := by decide +kernel
theorem dX5_curve_46 : decode cX5_curve 46 = .ok (.invokevirtual 59, 3) := by decide +kernel
theorem dX5_curve_49 : decode cX5_curve 49 = .ok (.goto 9, 3) := by decide +kernel
theorem dX5_curve_52 : decode cX5_curve 52 = .ok (.aload_n 0, 1) := by decide +kernel
theorem dX5_curve_53 : decode cX5_curve 53 = .ok (.iload_n 1, 1) := by decide +kernel
theorem dX5_curve_54 : decode cX5_curve 54 = .ok (.iload_n 2, 1) := by decide +kernel
theorem dX5_curve_55 : decode cX5_curve 55 = .ok (.invokevirtual 111, 3) := by decide +kernel
theorem dX5_curve_58 : decode cX5_curve 58 = .ok (.ireturn, 1) := by decide +kernel
theorem dX5_curveOf_0 : decode cX5_curveOf 0 = .ok (.aload_n 0, 1) := by decide +kernel
theorem dX5_curveOf_1 : decode cX5_curveOf 1 = .ok (.iload_n 1, 1) := by decide +kernel
theorem dX5_curveOf_2 : decode cX5_curveOf 2 = .ok (.invokevirtual 114, 3) := by decide +kernel
theorem dX5_curveOf_5 : decode cX5_curveOf 5 = .ok (.ifCond .eq 30, 3) := by decide +kernel
theorem dX5_curveOf_8 : decode cX5_curveOf 8 = .ok (.iload_n 2, 1) := by decide +kernel
theorem dX5_curveOf_9 : decode cX5_curveOf 9 = .ok (.i2l, 1) := by decide +kernel
theorem dX5_curveOf_10 : decode cX5_curveOf 10 = .ok (.lconst 0, 1) := by decide +kernel
theorem dX5_curveOf_11 : decode cX5_curveOf 11 = .ok (.lconst 1, 1) := by decide +kernel
theorem dX5_curveOf_12 : decode cX5_curveOf 12 = .ok (.invokestatic 43, 3) := by decide +kernel
theorem dX5_curveOf_15 : decode cX5_curveOf 15 = .ok (.ifCond .eq 20, 3) := by decide +kernel
theorem dX5_curveOf_18 : decode cX5_curveOf 18 = .ok (.aload_n 0, 1) := by decide +kernel
theorem dX5_curveOf_19 : decode cX5_curveOf 19 = .ok (.getfield 7, 3) := by decide +kernel
theorem dX5_curveOf_22 : decode cX5_curveOf 22 = .ok (.sipush 223, 3) := by decide +kernel
theorem dX5_curveOf_25 : decode cX5_curveOf 25 = .ok (.iconst 2, 1) := by decide +kernel
theorem dX5_curveOf_26 : decode cX5_curveOf 26 = .ok (.iload_n 1, 1) := by decide +kernel
theorem dX5_curveOf_27 : decode cX5_curveOf 27 = .ok (.imul, 1) := by decide +kernel
theorem dX5_curveOf_28 : decode cX5_curveOf 28 = .ok (.iadd, 1) := by decide +kernel
theorem dX5_curveOf_29 : decode cX5_curveOf 29 = .ok (.iload_n 2, 1) := by decide +kernel
theorem dX5_curveOf_30 : decode cX5_curveOf 30 = .ok (.iadd, 1) := by decide +kernel
theorem dX5_curveOf_31 : decode cX5_curveOf 31 = .ok (.iaload, 1) := by decide +kernel
theorem dX5_curveOf_32 : decode cX5_curveOf 32 = .ok (.goto 9, 3) := by decide +kernel
theorem dX5_curveOf_35 : decode cX5_curveOf 35 = .ok (.aload_n 0, 1) := by decide +kernel
theorem dX5_curveOf_36 : decode cX5_curveOf 36 = .ok (.ldc 40, 2) := by decide +kernel
theorem dX5_curveOf_38 : decode cX5_curveOf 38 = .ok (.invokevirtual 59, 3) := by decide +kernel
theorem dX5_curveOf_41 : decode cX5_curveOf 41 = .ok (.ireturn, 1) := by decide +kernel
theorem dX5_turn_0 : decode cX5_turn 0 = .ok (.aload_n 0, 1) := by decide +kernel
theorem dX5_turn_1 : decode cX5_turn 1 = .ok (.iload_n 1, 1) := by decide +kernel
theorem dX5_turn_2 : decode cX5_turn 2 = .ok (.invokevirtual 114, 3) := by decide +kernel
theorem dX5_turn_5 : decode cX5_turn 5 = .ok (.ifCond .eq 15, 3) := by decide +kernel
theorem dX5_turn_8 : decode cX5_turn 8 = .ok (.iload_n 2, 1) := by decide +kernel
theorem dX5_turn_9 : decode cX5_turn 9 = .ok (.i2l, 1) := by decide +kernel
theorem dX5_turn_10 : decode cX5_turn 10 = .ok (.lconst 0, 1) := by decide +kernel
theorem dX5_turn_11 : decode cX5_turn 11 = .ok (.ldc2_w 107, 3) := by decide +kernel
theorem dX5_turn_14 : decode cX5_turn 14 = .ok (.invokestatic 43, 3) := by decide +kernel
theorem dX5_turn_17 : decode cX5_turn 17 = .ok (.ifCond .ne 10, 3) := by decide +kernel
theorem dX5_turn_20 : decode cX5_turn 20 = .ok (.aload_n 0, 1) := by decide +kernel
theorem dX5_turn_21 : decode cX5_turn 21 = .ok (.ldc 40, 2) := by decide +kernel
theorem dX5_turn_23 : decode cX5_turn 23 = .ok (.invokevirtual 59, 3) := by decide +kernel
theorem dX5_turn_26 : decode cX5_turn 26 = .ok (.ireturn, 1) := by decide +kernel
theorem dX5_turn_27 : decode cX5_turn 27 = .ok (.aload_n 0, 1) := by decide +kernel
theorem dX5_turn_28 : decode cX5_turn 28 = .ok (.getfield 7, 3) := by decide +kernel
theorem dX5_turn_31 : decode cX5_turn 31 = .ok (.sipush 223, 3) := by decide +kernel
theorem dX5_turn_34 : decode cX5_turn 34 = .ok (.iconst 2, 1) := by decide +kernel
theorem dX5_turn_35 : decode cX5_turn 35 = .ok (.iload_n 1, 1) := by decide +kernel
theorem dX5_turn_36 : decode cX5_turn 36 = .ok (.imul, 1) := by decide +kernel
theorem dX5_turn_37 : decode cX5_turn 37 = .ok (.iadd, 1) := by decide +kernel
theorem dX5_turn_38 : decode cX5_turn 38 = .ok (.iaload, 1) := by decide +kernel
theorem dX5_turn_39 : decode cX5_turn 39 = .ok (.istore_n 3, 1) := by decide +kernel
theorem dX5_turn_40 : decode cX5_turn 40 = .ok (.aload_n 0, 1) := by decide +kernel
theorem dX5_turn_41 : decode cX5_turn 41 = .ok (.getfield 7, 3) := by decide +kernel
theorem dX5_turn_44 : decode cX5_turn 44 = .ok (.sipush 223, 3) := by decide +kernel
theorem dX5_turn_47 : decode cX5_turn 47 = .ok (.iconst 2, 1) := by decide +kernel
theorem dX5_turn_48 : decode cX5_turn 48 = .ok (.iload_n 1, 1) := by decide +kernel
theorem dX5_turn_49 : decode cX5_turn 49 = .ok (.imul, 1) := by decide +kernel
theorem dX5_turn_50 : decode cX5_turn 50 = .ok (.iadd, 1) := by decide +kernel
theorem dX5_turn_51 : decode cX5_turn 51 = .ok (.iload_n 2, 1) := by decide +kernel
theorem dX5_turn_52 : decode cX5_turn 52 = .ok (.iastore, 1) := by decide +kernel
theorem dX5_turn_53 : decode cX5_turn 53 = .ok (.iload_n 3, 1) := by decide +kernel
theorem dX5_turn_54 : decode cX5_turn 54 = .ok (.ireturn, 1) := by decide +kernel
theorem dX5_by_0 : decode cX5_by 0 = .ok (.aload_n 0, 1) := by decide +kernel
theorem dX5_by_1 : decode cX5_by 1 = .ok (.iload_n 1, 1) := by decide +kernel
theorem dX5_by_2 : decode cX5_by 2 = .ok (.invokevirtual 114, 3) := by decide +kernel
theorem dX5_by_5 : decode cX5_by 5 = .ok (.ifCond .eq 15, 3) := by decide +kernel
theorem dX5_by_8 : decode cX5_by 8 = .ok (.iload_n 2, 1) := by decide +kernel
theorem dX5_by_9 : decode cX5_by 9 = .ok (.i2l, 1) := by decide +kernel
theorem dX5_by_10 : decode cX5_by 10 = .ok (.lconst 0, 1) := by decide +kernel
theorem dX5_by_11 : decode cX5_by 11 = .ok (.ldc2_w 109, 3) := by decide +kernel
theorem dX5_by_14 : decode cX5_by 14 = .ok (.invokestatic 43, 3) := by decide +kernel
theorem dX5_by_17 : decode cX5_by 17 = .ok (.ifCond .ne 10, 3) := by decide +kernel
theorem dX5_by_20 : decode cX5_by 20 = .ok (.aload_n 0, 1) := by decide +kernel
theorem dX5_by_21 : decode cX5_by 21 = .ok (.ldc 40, 2) := by decide +kernel
theorem dX5_by_23 : decode cX5_by 23 = .ok (.invokevirtual 59, 3) := by decide +kernel
theorem dX5_by_26 : decode cX5_by 26 = .ok (.ireturn, 1) := by decide +kernel
theorem dX5_by_27 : decode cX5_by 27 = .ok (.aload_n 0, 1) := by decide +kernel
theorem dX5_by_28 : decode cX5_by 28 = .ok (.getfield 7, 3) := by decide +kernel
theorem dX5_by_31 : decode cX5_by 31 = .ok (.sipush 223, 3) := by decide +kernel
theorem dX5_by_34 : decode cX5_by 34 = .ok (.iconst 2, 1) := by decide +kernel
theorem dX5_by_35 : decode cX5_by 35 = .ok (.iload_n 1, 1) := by decide +kernel
theorem dX5_by_36 : decode cX5_by 36 = .ok (.imul, 1) := by decide +kernel
theorem dX5_by_37 : decode cX5_by 37 = .ok (.iadd, 1) := by decide +kernel
theorem dX5_by_38 : decode cX5_by 38 = .ok (.iconst 1, 1) := by decide +kernel
theorem dX5_by_39 : decode cX5_by 39 = .ok (.iadd, 1) := by decide +kernel
theorem dX5_by_40 : decode cX5_by 40 = .ok (.iaload, 1) := by decide +kernel
theorem dX5_by_41 : decode cX5_by 41 = .ok (.istore_n 3, 1) := by decide +kernel
theorem dX5_by_42 : decode cX5_by 42 = .ok (.aload_n 0, 1) := by decide +kernel
theorem dX5_by_43 : decode cX5_by 43 = .ok (.getfield 7, 3) := by decide +kernel
theorem dX5_by_46 : decode cX5_by 46 = .ok (.sipush 223, 3) := by decide +kernel
theorem dX5_by_49 : decode cX5_by 49 = .ok (.iconst 2, 1) := by decide +kernel
theorem dX5_by_50 : decode cX5_by 50 = .ok (.iload_n 1, 1) := by decide +kernel
theorem dX5_by_51 : decode cX5_by 51 = .ok (.imul, 1) := by decide +kernel
theorem dX5_by_52 : decode cX5_by 52 = .ok (.iadd, 1) := by decide +kernel
theorem dX5_by_53 : decode cX5_by 53 = .ok (.iconst 1, 1) := by decide +kernel
theorem dX5_by_54 : decode cX5_by 54 = .ok (.iadd, 1) := by decide +kernel
theorem dX5_by_55 : decode cX5_by 55 = .ok (.iload_n 2, 1) := by decide +kernel
theorem dX5_by_56 : decode cX5_by 56 = .ok (.iastore, 1) := by decide +kernel
theorem dX5_by_57 : decode cX5_by 57 = .ok (.iload_n 3, 1) := by decide +kernel
theorem dX5_by_58 : decode cX5_by 58 = .ok (.ireturn, 1) := by decide +kernel
theorem dX5_stretched_0 : decode cX5_stretched 0 = .ok (.aload_n 0, 1) := by decide +kernel
theorem dX5_stretched_1 : decode cX5_stretched 1 = .ok (.invokevirtual 94, 3) := by decide +kernel
theorem dX5_stretched_4 : decode cX5_stretched 4 = .ok (.istore_n 2, 1) := by decide +kernel
theorem dX5_stretched_5 : decode cX5_stretched 5 = .ok (.iload_n 2, 1) := by decide +kernel
theorem dX5_stretched_6 : decode cX5_stretched 6 = .ok (.ifCond .ne 7, 3) := by decide +kernel
theorem dX5_stretched_9 : decode cX5_stretched 9 = .ok (.iconst 0, 1) := by decide +kernel
theorem dX5_stretched_10 : decode cX5_stretched 10 = .ok (.goto 13, 3) := by decide +kernel
theorem dX5_stretched_13 : decode cX5_stretched 13 = .ok (.bipush 100, 2) := by decide +kernel
theorem dX5_stretched_15 : decode cX5_stretched 15 = .ok (.aload_n 0, 1) := by decide +kernel
theorem dX5_stretched_16 : decode cX5_stretched 16 = .ok (.iload_n 1, 1) := by decide +kernel
theorem dX5_stretched_17 : decode cX5_stretched 17 = .ok (.invokevirtual 84, 3) := by decide +kernel
theorem dX5_stretched_20 : decode cX5_stretched 20 = .ok (.imul, 1) := by decide +kernel
theorem dX5_stretched_21 : decode cX5_stretched 21 = .ok (.iload_n 2, 1) := by decide +kernel
theorem dX5_stretched_22 : decode cX5_stretched 22 = .ok (.idiv, 1) := by decide +kernel
theorem dX5_stretched_23 : decode cX5_stretched 23 = .ok (.ireturn, 1) := by decide +kernel
theorem dX5_root_0 : decode cX5_root 0 = .ok (.iconst 0, 1) := by decide +kernel
theorem dX5_root_1 : decode cX5_root 1 = .ok (.istore_n 1, 1) := by decide +kernel
theorem dX5_root_2 : decode cX5_root 2 = .ok (.iload_n 1, 1) := by decide +kernel
theorem dX5_root_3 : decode cX5_root 3 = .ok (.iconst 1, 1) := by decide +kernel
theorem dX5_root_4 : decode cX5_root 4 = .ok (.iadd, 1) := by decide +kernel
theorem dX5_root_5 : decode cX5_root 5 = .ok (.iload_n 1, 1) := by decide +kernel
theorem dX5_root_6 : decode cX5_root 6 = .ok (.iconst 1, 1) := by decide +kernel
theorem dX5_root_7 : decode cX5_root 7 = .ok (.iadd, 1) := by decide +kernel
theorem dX5_root_8 : decode cX5_root 8 = .ok (.imul, 1) := by decide +kernel
theorem dX5_root_9 : decode cX5_root 9 = .ok (.iload_n 0, 1) := by decide +kernel
theorem dX5_root_10 : decode cX5_root 10 = .ok (.if_icmp .gt 9, 3) := by decide +kernel
theorem dX5_root_13 : decode cX5_root 13 = .ok (.iinc 1 1, 3) := by decide +kernel
theorem dX5_root_16 : decode cX5_root 16 = .ok (.goto (-14), 3) := by decide +kernel
theorem dX5_root_19 : decode cX5_root 19 = .ok (.iload_n 1, 1) := by decide +kernel
theorem dX5_root_20 : decode cX5_root 20 = .ok (.ireturn, 1) := by decide +kernel
theorem dX5_shared_0 : decode cX5_shared 0 = .ok (.iconst 1, 1) := by decide +kernel
theorem dX5_shared_1 : decode cX5_shared 1 = .ok (.istore_n 3, 1) := by decide +kernel
theorem dX5_shared_2 : decode cX5_shared 2 = .ok (.aload_n 0, 1) := by decide +kernel
theorem dX5_shared_3 : decode cX5_shared 3 = .ok (.iload_n 1, 1) := by decide +kernel
theorem dX5_shared_4 : decode cX5_shared 4 = .ok (.invokevirtual 84, 3) := by decide +kernel
theorem dX5_shared_7 : decode cX5_shared 7 = .ok (.istore 4, 2) := by decide +kernel
theorem dX5_shared_9 : decode cX5_shared 9 = .ok (.iconst 0, 1) := by decide +kernel
theorem dX5_shared_10 : decode cX5_shared 10 = .ok (.istore 5, 2) := by decide +kernel
theorem dX5_shared_12 : decode cX5_shared 12 = .ok (.iload 5, 2) := by decide +kernel
theorem dX5_shared_14 : decode cX5_shared 14 = .ok (.aload_n 0, 1) := by decide +kernel
theorem dX5_shared_15 : decode cX5_shared 15 = .ok (.getfield 7, 3) := by decide +kernel
theorem dX5_shared_18 : decode cX5_shared 18 = .ok (.bipush 17, 2) := by decide +kernel
theorem dX5_shared_20 : decode cX5_shared 20 = .ok (.iaload, 1) := by decide +kernel
theorem dX5_shared_21 : decode cX5_shared 21 = .ok (.if_icmp .ge 28, 3) := by decide +kernel
theorem dX5_shared_24 : decode cX5_shared 24 = .ok (.iload_n 3, 1) := by decide +kernel
theorem dX5_shared_25 : decode cX5_shared 25 = .ok (.aload_n 0, 1) := by decide +kernel
theorem dX5_shared_26 : decode cX5_shared 26 = .ok (.iload 5, 2) := by decide +kernel
theorem dX5_shared_28 : decode cX5_shared 28 = .ok (.invokevirtual 84, 3) := by decide +kernel
theorem dX5_shared_31 : decode cX5_shared 31 = .ok (.iload 4, 2) := by decide +kernel
theorem dX5_shared_33 : decode cX5_shared 33 = .ok (.if_icmp .le 7, 3) := by decide +kernel
theorem dX5_shared_36 : decode cX5_shared 36 = .ok (.iconst 1, 1) := by decide +kernel
theorem dX5_shared_37 : decode cX5_shared 37 = .ok (.goto 4, 3) := by decide +kernel
theorem dX5_shared_40 : decode cX5_shared 40 = .ok (.iconst 0, 1) := by decide +kernel
theorem dX5_shared_41 : decode cX5_shared 41 = .ok (.iadd, 1) := by decide +kernel
theorem dX5_shared_42 : decode cX5_shared 42 = .ok (.istore_n 3, 1) := by decide +kernel
theorem dX5_shared_43 : decode cX5_shared 43 = .ok (.iinc 5 1, 3) := by decide +kernel
theorem dX5_shared_46 : decode cX5_shared 46 = .ok (.goto (-34), 3) := by decide +kernel
theorem dX5_shared_49 : decode cX5_shared 49 = .ok (.bipush 100, 2) := by decide +kernel
theorem dX5_shared_51 : decode cX5_shared 51 = .ok (.iload_n 3, 1) := by decide +kernel
theorem dX5_shared_52 : decode cX5_shared 52 = .ok (.imul, 1) := by decide +kernel
theorem dX5_shared_53 : decode cX5_shared 53 = .ok (.iload_n 2, 1) := by decide +kernel
theorem dX5_shared_54 : decode cX5_shared 54 = .ok (.aload_n 0, 1) := by decide +kernel
theorem dX5_shared_55 : decode cX5_shared 55 = .ok (.getfield 7, 3) := by decide +kernel
theorem dX5_shared_58 : decode cX5_shared 58 = .ok (.bipush 17, 2) := by decide +kernel
theorem dX5_shared_60 : decode cX5_shared 60 = .ok (.iaload, 1) := by decide +kernel
theorem dX5_shared_61 : decode cX5_shared 61 = .ok (.imul, 1) := by decide +kernel
theorem dX5_shared_62 : decode cX5_shared 62 = .ok (.if_icmp .gt 8, 3) := by decide +kernel
theorem dX5_shared_65 : decode cX5_shared 65 = .ok (.bipush 100, 2) := by decide +kernel
theorem dX5_shared_67 : decode cX5_shared 67 = .ok (.goto 31, 3) := by decide +kernel
theorem dX5_shared_70 : decode cX5_shared 70 = .ok (.bipush 100, 2) := by decide +kernel
theorem dX5_shared_72 : decode cX5_shared 72 = .ok (.iload_n 3, 1) := by decide +kernel
theorem dX5_shared_73 : decode cX5_shared 73 = .ok (.imul, 1) := by decide +kernel
theorem dX5_shared_74 : decode cX5_shared 74 = .ok (.iload_n 2, 1) := by decide +kernel
theorem dX5_shared_75 : decode cX5_shared 75 = .ok (.bipush 100, 2) := by decide +kernel
theorem dX5_shared_77 : decode cX5_shared 77 = .ok (.iadd, 1) := by decide +kernel
theorem dX5_shared_78 : decode cX5_shared 78 = .ok (.iconst 2, 1) := by decide +kernel
theorem dX5_shared_79 : decode cX5_shared 79 = .ok (.idiv, 1) := by decide +kernel
theorem dX5_shared_80 : decode cX5_shared 80 = .ok (.aload_n 0, 1) := by decide +kernel
theorem dX5_shared_81 : decode cX5_shared 81 = .ok (.getfield 7, 3) := by decide +kernel
theorem dX5_shared_84 : decode cX5_shared 84 = .ok (.bipush 17, 2) := by decide +kernel
theorem dX5_shared_86 : decode cX5_shared 86 = .ok (.iaload, 1) := by decide +kernel
theorem dX5_shared_87 : decode cX5_shared 87 = .ok (.imul, 1) := by decide +kernel
theorem dX5_shared_88 : decode cX5_shared 88 = .ok (.if_icmp .gt 8, 3) := by decide +kernel
theorem dX5_shared_91 : decode cX5_shared 91 = .ok (.bipush 60, 2) := by decide +kernel
theorem dX5_shared_93 : decode cX5_shared 93 = .ok (.goto 5, 3) := by decide +kernel
theorem dX5_shared_96 : decode cX5_shared 96 = .ok (.bipush 30, 2) := by decide +kernel
theorem dX5_shared_98 : decode cX5_shared 98 = .ok (.ireturn, 1) := by decide +kernel
theorem dX5_linked_0 : decode cX5_linked 0 = .ok (.aload_n 0, 1) := by decide +kernel
theorem dX5_linked_1 : decode cX5_linked 1 = .ok (.iload_n 1, 1) := by decide +kernel
theorem dX5_linked_2 : decode cX5_linked 2 = .ok (.invokevirtual 84, 3) := by decide +kernel
theorem dX5_linked_5 : decode cX5_linked 5 = .ok (.aload_n 0, 1) := by decide +kernel
theorem dX5_linked_6 : decode cX5_linked 6 = .ok (.invokevirtual 97, 3) := by decide +kernel
theorem dX5_linked_9 : decode cX5_linked 9 = .ok (.aload_n 0, 1) := by decide +kernel
theorem dX5_linked_10 : decode cX5_linked 10 = .ok (.invokevirtual 100, 3) := by decide +kernel
theorem dX5_linked_13 : decode cX5_linked 13 = .ok (.isub, 1) := by decide +kernel
theorem dX5_linked_14 : decode cX5_linked 14 = .ok (.bipush 10, 2) := by decide +kernel
theorem dX5_linked_16 : decode cX5_linked 16 = .ok (.idiv, 1) := by decide +kernel
theorem dX5_linked_17 : decode cX5_linked 17 = .ok (.iadd, 1) := by decide +kernel
theorem dX5_linked_18 : decode cX5_linked 18 = .ok (.istore_n 2, 1) := by decide +kernel
theorem dX5_linked_19 : decode cX5_linked 19 = .ok (.iload_n 2, 1) := by decide +kernel
theorem dX5_linked_20 : decode cX5_linked 20 = .ok (.ifCond .ge 7, 3) := by decide +kernel
theorem dX5_linked_23 : decode cX5_linked 23 = .ok (.iconst 0, 1) := by decide +kernel
theorem dX5_linked_24 : decode cX5_linked 24 = .ok (.goto 19, 3) := by decide +kernel
theorem dX5_linked_27 : decode cX5_linked 27 = .ok (.iload_n 2, 1) := by decide +kernel
theorem dX5_linked_28 : decode cX5_linked 28 = .ok (.aload_n 0, 1) := by decide +kernel
theorem dX5_linked_29 : decode cX5_linked 29 = .ok (.invokevirtual 90, 3) := by decide +kernel
theorem dX5_linked_32 : decode cX5_linked 32 = .ok (.if_icmp .le 10, 3) := by decide +kernel
theorem dX5_linked_35 : decode cX5_linked 35 = .ok (.aload_n 0, 1) := by decide +kernel
theorem dX5_linked_36 : decode cX5_linked 36 = .ok (.invokevirtual 90, 3) := by decide +kernel
theorem dX5_linked_39 : decode cX5_linked 39 = .ok (.goto 4, 3) := by decide +kernel
theorem dX5_linked_42 : decode cX5_linked 42 = .ok (.iload_n 2, 1) := by decide +kernel
theorem dX5_linked_43 : decode cX5_linked 43 = .ok (.ireturn, 1) := by decide +kernel
theorem dX5_dropped_0 : decode cX5_dropped 0 = .ok (.aload_n 0, 1) := by decide +kernel
theorem dX5_dropped_1 : decode cX5_dropped 1 = .ok (.invokevirtual 90, 3) := by decide +kernel
theorem dX5_dropped_4 : decode cX5_dropped 4 = .ok (.aload_n 0, 1) := by decide +kernel
theorem dX5_dropped_5 : decode cX5_dropped 5 = .ok (.getfield 7, 3) := by decide +kernel
theorem dX5_dropped_8 : decode cX5_dropped 8 = .ok (.iconst 0, 1) := by decide +kernel
theorem dX5_dropped_9 : decode cX5_dropped 9 = .ok (.iload_n 2, 1) := by decide +kernel
theorem dX5_dropped_10 : decode cX5_dropped 10 = .ok (.iadd, 1) := by decide +kernel
theorem dX5_dropped_11 : decode cX5_dropped 11 = .ok (.iaload, 1) := by decide +kernel
theorem dX5_dropped_12 : decode cX5_dropped 12 = .ok (.isub, 1) := by decide +kernel
theorem dX5_dropped_13 : decode cX5_dropped 13 = .ok (.istore_n 3, 1) := by decide +kernel
theorem dX5_dropped_14 : decode cX5_dropped 14 = .ok (.iload_n 3, 1) := by decide +kernel
theorem dX5_dropped_15 : decode cX5_dropped 15 = .ok (.ifCond .ne 7, 3) := by decide +kernel
theorem dX5_dropped_18 : decode cX5_dropped 18 = .ok (.iconst 0, 1) := by decide +kernel
theorem dX5_dropped_19 : decode cX5_dropped 19 = .ok (.goto 22, 3) := by decide +kernel
theorem dX5_dropped_22 : decode cX5_dropped 22 = .ok (.aload_n 0, 1) := by decide +kernel
theorem dX5_dropped_23 : decode cX5_dropped 23 = .ok (.invokevirtual 90, 3) := by decide +kernel
theorem dX5_dropped_26 : decode cX5_dropped 26 = .ok (.aload_n 0, 1) := by decide +kernel
theorem dX5_dropped_27 : decode cX5_dropped 27 = .ok (.iload_n 1, 1) := by decide +kernel
theorem dX5_dropped_28 : decode cX5_dropped 28 = .ok (.invokevirtual 84, 3) := by decide +kernel
theorem dX5_dropped_31 : decode cX5_dropped 31 = .ok (.aload_n 0, 1) := by decide +kernel
theorem dX5_dropped_32 : decode cX5_dropped 32 = .ok (.iload_n 1, 1) := by decide +kernel
theorem dX5_dropped_33 : decode cX5_dropped 33 = .ok (.iload_n 2, 1) := by decide +kernel
theorem dX5_dropped_34 : decode cX5_dropped 34 = .ok (.invokevirtual 78, 3) := by decide +kernel
theorem dX5_dropped_37 : decode cX5_dropped 37 = .ok (.isub, 1) := by decide +kernel
theorem dX5_dropped_38 : decode cX5_dropped 38 = .ok (.imul, 1) := by decide +kernel
theorem dX5_dropped_39 : decode cX5_dropped 39 = .ok (.iload_n 3, 1) := by decide +kernel
theorem dX5_dropped_40 : decode cX5_dropped 40 = .ok (.idiv, 1) := by decide +kernel
theorem dX5_dropped_41 : decode cX5_dropped 41 = .ok (.ireturn, 1) := by decide +kernel
theorem dX5_markOf_0 : decode cX5_markOf 0 = .ok (.aload_n 0, 1) := by decide +kernel
theorem dX5_markOf_1 : decode cX5_markOf 1 = .ok (.getfield 7, 3) := by decide +kernel
theorem dX5_markOf_4 : decode cX5_markOf 4 = .ok (.sipush 223, 3) := by decide +kernel
theorem dX5_markOf_7 : decode cX5_markOf 7 = .ok (.iconst 2, 1) := by decide +kernel
theorem dX5_markOf_8 : decode cX5_markOf 8 = .ok (.iload_n 1, 1) := by decide +kernel
theorem dX5_markOf_9 : decode cX5_markOf 9 = .ok (.imul, 1) := by decide +kernel
theorem dX5_markOf_10 : decode cX5_markOf 10 = .ok (.iadd, 1) := by decide +kernel
theorem dX5_markOf_11 : decode cX5_markOf 11 = .ok (.iconst 1, 1) := by decide +kernel
theorem dX5_markOf_12 : decode cX5_markOf 12 = .ok (.iadd, 1) := by decide +kernel
theorem dX5_markOf_13 : decode cX5_markOf 13 = .ok (.iaload, 1) := by decide +kernel
theorem dX5_markOf_14 : decode cX5_markOf 14 = .ok (.istore_n 3, 1) := by decide +kernel
theorem dX5_markOf_15 : decode cX5_markOf 15 = .ok (.aload_n 0, 1) := by decide +kernel
theorem dX5_markOf_16 : decode cX5_markOf 16 = .ok (.iload_n 2, 1) := by decide +kernel
theorem dX5_markOf_17 : decode cX5_markOf 17 = .ok (.invokevirtual 84, 3) := by decide +kernel
theorem dX5_markOf_20 : decode cX5_markOf 20 = .ok (.istore 4, 2) := by decide +kernel
theorem dX5_markOf_22 : decode cX5_markOf 22 = .ok (.aload_n 0, 1) := by decide +kernel
theorem dX5_markOf_23 : decode cX5_markOf 23 = .ok (.getfield 7, 3) := by decide +kernel
theorem dX5_markOf_26 : decode cX5_markOf 26 = .ok (.sipush 223, 3) := by decide +kernel
theorem dX5_markOf_29 : decode cX5_markOf 29 = .ok (.iconst 2, 1) := by decide +kernel
theorem dX5_markOf_30 : decode cX5_markOf 30 = .ok (.iload_n 1, 1) := by decide +kernel
theorem dX5_markOf_31 : decode cX5_markOf 31 = .ok (.imul, 1) := by decide +kernel
theorem dX5_markOf_32 : decode cX5_markOf 32 = .ok (.iadd, 1) := by decide +kernel
theorem dX5_markOf_33 : decode cX5_markOf 33 = .ok (.iaload, 1) := by decide +kernel
theorem dX5_markOf_34 : decode cX5_markOf 34 = .ok (.tableswitch 102 1 6 #[38, 61, 67, 79, 86, 92], 38) := by decide +kernel
theorem dX5_markOf_72 : decode cX5_markOf 72 = .ok (.iload 4, 2) := by decide +kernel
theorem dX5_markOf_74 : decode cX5_markOf 74 = .ok (.iload_n 3, 1) := by decide +kernel
theorem dX5_markOf_75 : decode cX5_markOf 75 = .ok (.iadd, 1) := by decide +kernel
theorem dX5_markOf_76 : decode cX5_markOf 76 = .ok (.aload_n 0, 1) := by decide +kernel
theorem dX5_markOf_77 : decode cX5_markOf 77 = .ok (.invokevirtual 90, 3) := by decide +kernel
theorem dX5_markOf_80 : decode cX5_markOf 80 = .ok (.if_icmp .le 10, 3) := by decide +kernel
theorem dX5_markOf_83 : decode cX5_markOf 83 = .ok (.aload_n 0, 1) := by decide +kernel
theorem dX5_markOf_84 : decode cX5_markOf 84 = .ok (.invokevirtual 90, 3) := by decide +kernel
theorem dX5_markOf_87 : decode cX5_markOf 87 = .ok (.goto 7, 3) := by decide +kernel
theorem dX5_markOf_90 : decode cX5_markOf 90 = .ok (.iload 4, 2) := by decide +kernel
theorem dX5_markOf_92 : decode cX5_markOf 92 = .ok (.iload_n 3, 1) := by decide +kernel
theorem dX5_markOf_93 : decode cX5_markOf 93 = .ok (.iadd, 1) := by decide +kernel
theorem dX5_markOf_94 : decode cX5_markOf 94 = .ok (.ireturn, 1) := by decide +kernel
theorem dX5_markOf_95 : decode cX5_markOf 95 = .ok (.aload_n 0, 1) := by decide +kernel
theorem dX5_markOf_96 : decode cX5_markOf 96 = .ok (.iload_n 2, 1) := by decide +kernel
theorem dX5_markOf_97 : decode cX5_markOf 97 = .ok (.invokevirtual 117, 3) := by decide +kernel
theorem dX5_markOf_100 : decode cX5_markOf 100 = .ok (.ireturn, 1) := by decide +kernel
theorem dX5_markOf_101 : decode cX5_markOf 101 = .ok (.bipush 100, 2) := by decide +kernel
theorem dX5_markOf_103 : decode cX5_markOf 103 = .ok (.aload_n 0, 1) := by decide +kernel
theorem dX5_markOf_104 : decode cX5_markOf 104 = .ok (.iload_n 2, 1) := by decide +kernel
theorem dX5_markOf_105 : decode cX5_markOf 105 = .ok (.invokevirtual 117, 3) := by decide +kernel
theorem dX5_markOf_108 : decode cX5_markOf 108 = .ok (.imul, 1) := by decide +kernel
theorem dX5_markOf_109 : decode cX5_markOf 109 = .ok (.invokestatic 120, 3) := by decide +kernel
theorem dX5_markOf_112 : decode cX5_markOf 112 = .ok (.ireturn, 1) := by decide +kernel
theorem dX5_markOf_113 : decode cX5_markOf 113 = .ok (.aload_n 0, 1) := by decide +kernel
theorem dX5_markOf_114 : decode cX5_markOf 114 = .ok (.iload_n 2, 1) := by decide +kernel
theorem dX5_markOf_115 : decode cX5_markOf 115 = .ok (.iload_n 3, 1) := by decide +kernel
theorem dX5_markOf_116 : decode cX5_markOf 116 = .ok (.invokevirtual 123, 3) := by decide +kernel
theorem dX5_markOf_119 : decode cX5_markOf 119 = .ok (.ireturn, 1) := by decide +kernel
theorem dX5_markOf_120 : decode cX5_markOf 120 = .ok (.aload_n 0, 1) := by decide +kernel
theorem dX5_markOf_121 : decode cX5_markOf 121 = .ok (.iload_n 2, 1) := by decide +kernel
theorem dX5_markOf_122 : decode cX5_markOf 122 = .ok (.invokevirtual 126, 3) := by decide +kernel
theorem dX5_markOf_125 : decode cX5_markOf 125 = .ok (.ireturn, 1) := by decide +kernel
theorem dX5_markOf_126 : decode cX5_markOf 126 = .ok (.aload_n 0, 1) := by decide +kernel
theorem dX5_markOf_127 : decode cX5_markOf 127 = .ok (.iload_n 2, 1) := by decide +kernel
theorem dX5_markOf_128 : decode cX5_markOf 128 = .ok (.iload_n 3, 1) := by decide +kernel
theorem dX5_markOf_129 : decode cX5_markOf 129 = .ok (.bipush 8, 2) := by decide +kernel
theorem dX5_markOf_131 : decode cX5_markOf 131 = .ok (.irem, 1) := by decide +kernel
theorem dX5_markOf_132 : decode cX5_markOf 132 = .ok (.invokevirtual 129, 3) := by decide +kernel
theorem dX5_markOf_135 : decode cX5_markOf 135 = .ok (.ireturn, 1) := by decide +kernel
theorem dX5_markOf_136 : decode cX5_markOf 136 = .ok (.iload 4, 2) := by decide +kernel
theorem dX5_markOf_138 : decode cX5_markOf 138 = .ok (.ireturn, 1) := by decide +kernel
theorem dX5_findMarks_0 : decode cX5_findMarks 0 = .ok (.iconst 0, 1) := by decide +kernel
theorem dX5_findMarks_1 : decode cX5_findMarks 1 = .ok (.istore_n 2, 1) := by decide +kernel
theorem dX5_findMarks_2 : decode cX5_findMarks 2 = .ok (.iload_n 2, 1) := by decide +kernel
theorem dX5_findMarks_3 : decode cX5_findMarks 3 = .ok (.aload_n 0, 1) := by decide +kernel
theorem dX5_findMarks_4 : decode cX5_findMarks 4 = .ok (.getfield 7, 3) := by decide +kernel
theorem dX5_findMarks_7 : decode cX5_findMarks 7 = .ok (.bipush 17, 2) := by decide +kernel
theorem dX5_findMarks_9 : decode cX5_findMarks 9 = .ok (.iaload, 1) := by decide +kernel
theorem dX5_findMarks_10 : decode cX5_findMarks 10 = .ok (.if_icmp .ge 21, 3) := by decide +kernel
theorem dX5_findMarks_13 : decode cX5_findMarks 13 = .ok (.aload_n 0, 1) := by decide +kernel
theorem dX5_findMarks_14 : decode cX5_findMarks 14 = .ok (.getfield 22, 3) := by decide +kernel
theorem dX5_findMarks_17 : decode cX5_findMarks 17 = .ok (.iload_n 2, 1) := by decide +kernel
theorem dX5_findMarks_18 : decode cX5_findMarks 18 = .ok (.aload_n 0, 1) := by decide +kernel
theorem dX5_findMarks_19 : decode cX5_findMarks 19 = .ok (.iload_n 1, 1) := by decide +kernel
theorem dX5_findMarks_20 : decode cX5_findMarks 20 = .ok (.iload_n 2, 1) := by decide +kernel
theorem dX5_findMarks_21 : decode cX5_findMarks 21 = .ok (.invokevirtual 132, 3) := by decide +kernel
theorem dX5_findMarks_24 : decode cX5_findMarks 24 = .ok (.iastore, 1) := by decide +kernel
theorem dX5_findMarks_25 : decode cX5_findMarks 25 = .ok (.iinc 2 1, 3) := by decide +kernel
theorem dX5_findMarks_28 : decode cX5_findMarks 28 = .ok (.goto (-26), 3) := by decide +kernel
theorem dX5_findMarks_31 : decode cX5_findMarks 31 = .ok (.return_, 1) := by decide +kernel
theorem dX5_mark_0 : decode cX5_mark 0 = .ok (.aload_n 0, 1) := by decide +kernel
theorem dX5_mark_1 : decode cX5_mark 1 = .ok (.iload_n 1, 1) := by decide +kernel
theorem dX5_mark_2 : decode cX5_mark 2 = .ok (.invokevirtual 114, 3) := by decide +kernel
theorem dX5_mark_5 : decode cX5_mark 5 = .ok (.ifCond .eq 20, 3) := by decide +kernel
theorem dX5_mark_8 : decode cX5_mark 8 = .ok (.aload_n 0, 1) := by decide +kernel
theorem dX5_mark_9 : decode cX5_mark 9 = .ok (.iload_n 2, 1) := by decide +kernel
theorem dX5_mark_10 : decode cX5_mark 10 = .ok (.invokevirtual 75, 3) := by decide +kernel
theorem dX5_mark_13 : decode cX5_mark 13 = .ok (.ifCond .eq 12, 3) := by decide +kernel
theorem dX5_mark_16 : decode cX5_mark 16 = .ok (.aload_n 0, 1) := by decide +kernel
theorem dX5_mark_17 : decode cX5_mark 17 = .ok (.iload_n 1, 1) := by decide +kernel
theorem dX5_mark_18 : decode cX5_mark 18 = .ok (.iload_n 2, 1) := by decide +kernel
theorem dX5_mark_19 : decode cX5_mark 19 = .ok (.invokevirtual 132, 3) := by decide +kernel
theorem dX5_mark_22 : decode cX5_mark 22 = .ok (.goto 9, 3) := by decide +kernel
theorem dX5_mark_25 : decode cX5_mark 25 = .ok (.aload_n 0, 1) := by decide +kernel
theorem dX5_mark_26 : decode cX5_mark 26 = .ok (.ldc 40, 2) := by decide +kernel
theorem dX5_mark_28 : decode cX5_mark 28 = .ok (.invokevirtual 59, 3) := by decide +kernel
theorem dX5_mark_31 : decode cX5_mark 31 = .ok (.ireturn, 1) := by decide +kernel
theorem dX5_place_0 : decode cX5_place 0 = .ok (.aload_n 0, 1) := by decide +kernel
theorem dX5_place_1 : decode cX5_place 1 = .ok (.iload_n 1, 1) := by decide +kernel
theorem dX5_place_2 : decode cX5_place 2 = .ok (.invokevirtual 114, 3) := by decide +kernel
theorem dX5_place_5 : decode cX5_place 5 = .ok (.ifCond .eq 11, 3) := by decide +kernel
theorem dX5_place_8 : decode cX5_place 8 = .ok (.aload_n 0, 1) := by decide +kernel
theorem dX5_place_9 : decode cX5_place 9 = .ok (.iload_n 2, 1) := by decide +kernel
theorem dX5_place_10 : decode cX5_place 10 = .ok (.invokevirtual 75, 3) := by decide +kernel
theorem dX5_place_13 : decode cX5_place 13 = .ok (.ifCond .ne 10, 3) := by decide +kernel
theorem dX5_place_16 : decode cX5_place 16 = .ok (.aload_n 0, 1) := by decide +kernel
theorem dX5_place_17 : decode cX5_place 17 = .ok (.ldc 40, 2) := by decide +kernel
theorem dX5_place_19 : decode cX5_place 19 = .ok (.invokevirtual 59, 3) := by decide +kernel
theorem dX5_place_22 : decode cX5_place 22 = .ok (.ireturn, 1) := by decide +kernel
theorem dX5_place_23 : decode cX5_place 23 = .ok (.aload_n 0, 1) := by decide +kernel
theorem dX5_place_24 : decode cX5_place 24 = .ok (.iload_n 1, 1) := by decide +kernel
theorem dX5_place_25 : decode cX5_place 25 = .ok (.invokevirtual 135, 3) := by decide +kernel
theorem dX5_place_28 : decode cX5_place 28 = .ok (.iconst 1, 1) := by decide +kernel
theorem dX5_place_29 : decode cX5_place 29 = .ok (.istore_n 3, 1) := by decide +kernel
theorem dX5_place_30 : decode cX5_place 30 = .ok (.iconst 0, 1) := by decide +kernel
theorem dX5_place_31 : decode cX5_place 31 = .ok (.istore 4, 2) := by decide +kernel
theorem dX5_place_33 : decode cX5_place 33 = .ok (.iload 4, 2) := by decide +kernel
theorem dX5_place_35 : decode cX5_place 35 = .ok (.aload_n 0, 1) := by decide +kernel
theorem dX5_place_36 : decode cX5_place 36 = .ok (.getfield 7, 3) := by decide +kernel
theorem dX5_place_39 : decode cX5_place 39 = .ok (.bipush 17, 2) := by decide +kernel
theorem dX5_place_41 : decode cX5_place 41 = .ok (.iaload, 1) := by decide +kernel
theorem dX5_place_42 : decode cX5_place 42 = .ok (.if_icmp .ge 33, 3) := by decide +kernel
theorem dX5_place_45 : decode cX5_place 45 = .ok (.iload_n 3, 1) := by decide +kernel
theorem dX5_place_46 : decode cX5_place 46 = .ok (.aload_n 0, 1) := by decide +kernel
theorem dX5_place_47 : decode cX5_place 47 = .ok (.getfield 22, 3) := by decide +kernel
theorem dX5_place_50 : decode cX5_place 50 = .ok (.iload 4, 2) := by decide +kernel
theorem dX5_place_52 : decode cX5_place 52 = .ok (.iaload, 1) := by decide +kernel
theorem dX5_place_53 : decode cX5_place 53 = .ok (.aload_n 0, 1) := by decide +kernel
theorem dX5_place_54 : decode cX5_place 54 = .ok (.getfield 22, 3) := by decide +kernel
theorem dX5_place_57 : decode cX5_place 57 = .ok (.iload_n 2, 1) := by decide +kernel
theorem dX5_place_58 : decode cX5_place 58 = .ok (.iaload, 1) := by decide +kernel
theorem dX5_place_59 : decode cX5_place 59 = .ok (.if_icmp .le 7, 3) := by decide +kernel
theorem dX5_place_62 : decode cX5_place 62 = .ok (.iconst 1, 1) := by decide +kernel
theorem dX5_place_63 : decode cX5_place 63 = .ok (.goto 4, 3) := by decide +kernel
theorem dX5_place_66 : decode cX5_place 66 = .ok (.iconst 0, 1) := by decide +kernel
theorem dX5_place_67 : decode cX5_place 67 = .ok (.iadd, 1) := by decide +kernel
theorem dX5_place_68 : decode cX5_place 68 = .ok (.istore_n 3, 1) := by decide +kernel
theorem dX5_place_69 : decode cX5_place 69 = .ok (.iinc 4 1, 3) := by decide +kernel
theorem dX5_place_72 : decode cX5_place 72 = .ok (.goto (-39), 3) := by decide +kernel
theorem dX5_place_75 : decode cX5_place 75 = .ok (.iload_n 3, 1) := by decide +kernel
theorem dX5_place_76 : decode cX5_place 76 = .ok (.ireturn, 1) := by decide +kernel
theorem dX5_sum_0 : decode cX5_sum 0 = .ok (.aload_n 0, 1) := by decide +kernel
theorem dX5_sum_1 : decode cX5_sum 1 = .ok (.iload_n 1, 1) := by decide +kernel
theorem dX5_sum_2 : decode cX5_sum 2 = .ok (.invokevirtual 114, 3) := by decide +kernel
theorem dX5_sum_5 : decode cX5_sum 5 = .ok (.ifCond .eq 17, 3) := by decide +kernel
theorem dX5_sum_8 : decode cX5_sum 8 = .ok (.iload_n 2, 1) := by decide +kernel
theorem dX5_sum_9 : decode cX5_sum 9 = .ok (.i2l, 1) := by decide +kernel
theorem dX5_sum_10 : decode cX5_sum 10 = .ok (.ldc2_w 67, 3) := by decide +kernel
theorem dX5_sum_13 : decode cX5_sum 13 = .ok (.ldc2_w 69, 3) := by decide +kernel
theorem dX5_sum_16 : decode cX5_sum 16 = .ok (.invokestatic 43, 3) := by decide +kernel
theorem dX5_sum_19 : decode cX5_sum 19 = .ok (.ifCond .ne 10, 3) := by decide +kernel
theorem dX5_sum_22 : decode cX5_sum 22 = .ok (.aload_n 0, 1) := by decide +kernel
theorem dX5_sum_23 : decode cX5_sum 23 = .ok (.ldc 40, 2) := by decide +kernel
theorem dX5_sum_25 : decode cX5_sum 25 = .ok (.invokevirtual 59, 3) := by decide +kernel
theorem dX5_sum_28 : decode cX5_sum 28 = .ok (.ireturn, 1) := by decide +kernel
theorem dX5_sum_29 : decode cX5_sum 29 = .ok (.aload_n 0, 1) := by decide +kernel
theorem dX5_sum_30 : decode cX5_sum 30 = .ok (.iload_n 1, 1) := by decide +kernel
theorem dX5_sum_31 : decode cX5_sum 31 = .ok (.invokevirtual 135, 3) := by decide +kernel
theorem dX5_sum_34 : decode cX5_sum 34 = .ok (.iconst 0, 1) := by decide +kernel
theorem dX5_sum_35 : decode cX5_sum 35 = .ok (.istore_n 3, 1) := by decide +kernel
theorem dX5_sum_36 : decode cX5_sum 36 = .ok (.iconst 0, 1) := by decide +kernel
theorem dX5_sum_37 : decode cX5_sum 37 = .ok (.istore 4, 2) := by decide +kernel
theorem dX5_sum_39 : decode cX5_sum 39 = .ok (.iload 4, 2) := by decide +kernel
theorem dX5_sum_41 : decode cX5_sum 41 = .ok (.aload_n 0, 1) := by decide +kernel
theorem dX5_sum_42 : decode cX5_sum 42 = .ok (.getfield 7, 3) := by decide +kernel
theorem dX5_sum_45 : decode cX5_sum 45 = .ok (.bipush 17, 2) := by decide +kernel
theorem dX5_sum_47 : decode cX5_sum 47 = .ok (.iaload, 1) := by decide +kernel
theorem dX5_sum_48 : decode cX5_sum 48 = .ok (.if_icmp .ge 44, 3) := by decide +kernel
theorem dX5_sum_51 : decode cX5_sum 51 = .ok (.iload_n 3, 1) := by decide +kernel
theorem dX5_sum_52 : decode cX5_sum 52 = .ok (.iload_n 2, 1) := by decide +kernel
theorem dX5_sum_53 : decode cX5_sum 53 = .ok (.ifCond .lt 20, 3) := by decide +kernel
theorem dX5_sum_56 : decode cX5_sum 56 = .ok (.aload_n 0, 1) := by decide +kernel
theorem dX5_sum_57 : decode cX5_sum 57 = .ok (.getfield 7, 3) := by decide +kernel
theorem dX5_sum_60 : decode cX5_sum 60 = .ok (.bipush 19, 2) := by decide +kernel
theorem dX5_sum_62 : decode cX5_sum 62 = .ok (.bipush 17, 2) := by decide +kernel
theorem dX5_sum_64 : decode cX5_sum 64 = .ok (.iload 4, 2) := by decide +kernel
theorem dX5_sum_66 : decode cX5_sum 66 = .ok (.imul, 1) := by decide +kernel
theorem dX5_sum_67 : decode cX5_sum 67 = .ok (.iadd, 1) := by decide +kernel
theorem dX5_sum_68 : decode cX5_sum 68 = .ok (.iaload, 1) := by decide +kernel
theorem dX5_sum_69 : decode cX5_sum 69 = .ok (.iload_n 2, 1) := by decide +kernel
theorem dX5_sum_70 : decode cX5_sum 70 = .ok (.if_icmp .ne 13, 3) := by decide +kernel
theorem dX5_sum_73 : decode cX5_sum 73 = .ok (.aload_n 0, 1) := by decide +kernel
theorem dX5_sum_74 : decode cX5_sum 74 = .ok (.getfield 22, 3) := by decide +kernel
theorem dX5_sum_77 : decode cX5_sum 77 = .ok (.iload 4, 2) := by decide +kernel
theorem dX5_sum_79 : decode cX5_sum 79 = .ok (.iaload, 1) := by decide +kernel
theorem dX5_sum_80 : decode cX5_sum 80 = .ok (.goto 4, 3) := by decide +kernel
theorem dX5_sum_83 : decode cX5_sum 83 = .ok (.iconst 0, 1) := by decide +kernel
theorem dX5_sum_84 : decode cX5_sum 84 = .ok (.iadd, 1) := by decide +kernel
theorem dX5_sum_85 : decode cX5_sum 85 = .ok (.istore_n 3, 1) := by decide +kernel
theorem dX5_sum_86 : decode cX5_sum 86 = .ok (.iinc 4 1, 3) := by decide +kernel
theorem dX5_sum_89 : decode cX5_sum 89 = .ok (.goto (-50), 3) := by decide +kernel
theorem dX5_sum_92 : decode cX5_sum 92 = .ok (.iload_n 3, 1) := by decide +kernel
theorem dX5_sum_93 : decode cX5_sum 93 = .ok (.ireturn, 1) := by decide +kernel
theorem dX5_middle_0 : decode cX5_middle 0 = .ok (.aload_n 0, 1) := by decide +kernel
theorem dX5_middle_1 : decode cX5_middle 1 = .ok (.iload_n 1, 1) := by decide +kernel
theorem dX5_middle_2 : decode cX5_middle 2 = .ok (.invokevirtual 114, 3) := by decide +kernel
theorem dX5_middle_5 : decode cX5_middle 5 = .ok (.ifCond .ne 10, 3) := by decide +kernel
theorem dX5_middle_8 : decode cX5_middle 8 = .ok (.aload_n 0, 1) := by decide +kernel
theorem dX5_middle_9 : decode cX5_middle 9 = .ok (.ldc 40, 2) := by decide +kernel
theorem dX5_middle_11 : decode cX5_middle 11 = .ok (.invokevirtual 59, 3) := by decide +kernel
theorem dX5_middle_14 : decode cX5_middle 14 = .ok (.ireturn, 1) := by decide +kernel
theorem dX5_middle_15 : decode cX5_middle 15 = .ok (.aload_n 0, 1) := by decide +kernel
theorem dX5_middle_16 : decode cX5_middle 16 = .ok (.getfield 7, 3) := by decide +kernel
theorem dX5_middle_19 : decode cX5_middle 19 = .ok (.bipush 17, 2) := by decide +kernel
theorem dX5_middle_21 : decode cX5_middle 21 = .ok (.iaload, 1) := by decide +kernel
theorem dX5_middle_22 : decode cX5_middle 22 = .ok (.istore_n 2, 1) := by decide +kernel
theorem dX5_middle_23 : decode cX5_middle 23 = .ok (.iload_n 2, 1) := by decide +kernel
theorem dX5_middle_24 : decode cX5_middle 24 = .ok (.ifCond .ne 10, 3) := by decide +kernel
theorem dX5_middle_27 : decode cX5_middle 27 = .ok (.aload_n 0, 1) := by decide +kernel
theorem dX5_middle_28 : decode cX5_middle 28 = .ok (.ldc 89, 2) := by decide +kernel
theorem dX5_middle_30 : decode cX5_middle 30 = .ok (.invokevirtual 59, 3) := by decide +kernel
theorem dX5_middle_33 : decode cX5_middle 33 = .ok (.ireturn, 1) := by decide +kernel
theorem dX5_middle_34 : decode cX5_middle 34 = .ok (.aload_n 0, 1) := by decide +kernel
theorem dX5_middle_35 : decode cX5_middle 35 = .ok (.iload_n 1, 1) := by decide +kernel
theorem dX5_middle_36 : decode cX5_middle 36 = .ok (.invokevirtual 135, 3) := by decide +kernel
theorem dX5_middle_39 : decode cX5_middle 39 = .ok (.iconst 0, 1) := by decide +kernel
theorem dX5_middle_40 : decode cX5_middle 40 = .ok (.istore_n 3, 1) := by decide +kernel
theorem dX5_middle_41 : decode cX5_middle 41 = .ok (.iconst 0, 1) := by decide +kernel
theorem dX5_middle_42 : decode cX5_middle 42 = .ok (.istore 4, 2) := by decide +kernel
theorem dX5_middle_44 : decode cX5_middle 44 = .ok (.iload 4, 2) := by decide +kernel
theorem dX5_middle_46 : decode cX5_middle 46 = .ok (.iload_n 2, 1) := by decide +kernel
theorem dX5_middle_47 : decode cX5_middle 47 = .ok (.if_icmp .ge 119, 3) := by decide +kernel
theorem dX5_middle_50 : decode cX5_middle 50 = .ok (.iconst 0, 1) := by decide +kernel
theorem dX5_middle_51 : decode cX5_middle 51 = .ok (.istore 5, 2) := by decide +kernel
theorem dX5_middle_53 : decode cX5_middle 53 = .ok (.iconst 0, 1) := by decide +kernel
theorem dX5_middle_54 : decode cX5_middle 54 = .ok (.istore 6, 2) := by decide +kernel
theorem dX5_middle_56 : decode cX5_middle 56 = .ok (.iconst 0, 1) := by decide +kernel
theorem dX5_middle_57 : decode cX5_middle 57 = .ok (.istore 7, 2) := by decide +kernel
theorem dX5_middle_59 : decode cX5_middle 59 = .ok (.iload 7, 2) := by decide +kernel
theorem dX5_middle_61 : decode cX5_middle 61 = .ok (.iload_n 2, 1) := by decide +kernel
theorem dX5_middle_62 : decode cX5_middle 62 = .ok (.if_icmp .ge 63, 3) := by decide +kernel
theorem dX5_middle_65 : decode cX5_middle 65 = .ok (.iload 5, 2) := by decide +kernel
theorem dX5_middle_67 : decode cX5_middle 67 = .ok (.aload_n 0, 1) := by decide +kernel
theorem dX5_middle_68 : decode cX5_middle 68 = .ok (.getfield 22, 3) := by decide +kernel
theorem dX5_middle_71 : decode cX5_middle 71 = .ok (.iload 7, 2) := by decide +kernel
theorem dX5_middle_73 : decode cX5_middle 73 = .ok (.iaload, 1) := by decide +kernel
theorem dX5_middle_74 : decode cX5_middle 74 = .ok (.aload_n 0, 1) := by decide +kernel
theorem dX5_middle_75 : decode cX5_middle 75 = .ok (.getfield 22, 3) := by decide +kernel
theorem dX5_middle_78 : decode cX5_middle 78 = .ok (.iload 4, 2) := by decide +kernel
theorem dX5_middle_80 : decode cX5_middle 80 = .ok (.iaload, 1) := by decide +kernel
theorem dX5_middle_81 : decode cX5_middle 81 = .ok (.if_icmp .ge 7, 3) := by decide +kernel
theorem dX5_middle_84 : decode cX5_middle 84 = .ok (.iconst 1, 1) := by decide +kernel
theorem dX5_middle_85 : decode cX5_middle 85 = .ok (.goto 4, 3) := by decide +kernel
theorem dX5_middle_88 : decode cX5_middle 88 = .ok (.iconst 0, 1) := by decide +kernel
theorem dX5_middle_89 : decode cX5_middle 89 = .ok (.iadd, 1) := by decide +kernel
theorem dX5_middle_90 : decode cX5_middle 90 = .ok (.istore 5, 2) := by decide +kernel
theorem dX5_middle_92 : decode cX5_middle 92 = .ok (.iload 6, 2) := by decide +kernel
theorem dX5_middle_94 : decode cX5_middle 94 = .ok (.aload_n 0, 1) := by decide +kernel
theorem dX5_middle_95 : decode cX5_middle 95 = .ok (.getfield 22, 3) := by decide +kernel
theorem dX5_middle_98 : decode cX5_middle 98 = .ok (.iload 7, 2) := by decide +kernel
theorem dX5_middle_100 : decode cX5_middle 100 = .ok (.iaload, 1) := by decide +kernel
theorem dX5_middle_101 : decode cX5_middle 101 = .ok (.aload_n 0, 1) := by decide +kernel
theorem dX5_middle_102 : decode cX5_middle 102 = .ok (.getfield 22, 3) := by decide +kernel
theorem dX5_middle_105 : decode cX5_middle 105 = .ok (.iload 4, 2) := by decide +kernel
theorem dX5_middle_107 : decode cX5_middle 107 = .ok (.iaload, 1) := by decide +kernel
theorem dX5_middle_108 : decode cX5_middle 108 = .ok (.if_icmp .ne 7, 3) := by decide +kernel
theorem dX5_middle_111 : decode cX5_middle 111 = .ok (.iconst 1, 1) := by decide +kernel
theorem dX5_middle_112 : decode cX5_middle 112 = .ok (.goto 4, 3) := by decide +kernel
theorem dX5_middle_115 : decode cX5_middle 115 = .ok (.iconst 0, 1) := by decide +kernel
theorem dX5_middle_116 : decode cX5_middle 116 = .ok (.iadd, 1) := by decide +kernel
theorem dX5_middle_117 : decode cX5_middle 117 = .ok (.istore 6, 2) := by decide +kernel
theorem dX5_middle_119 : decode cX5_middle 119 = .ok (.iinc 7 1, 3) := by decide +kernel
theorem dX5_middle_122 : decode cX5_middle 122 = .ok (.goto (-63), 3) := by decide +kernel
theorem dX5_middle_125 : decode cX5_middle 125 = .ok (.iload 5, 2) := by decide +kernel
theorem dX5_middle_127 : decode cX5_middle 127 = .ok (.iload_n 2, 1) := by decide +kernel
theorem dX5_middle_128 : decode cX5_middle 128 = .ok (.iconst 1, 1) := by decide +kernel
theorem dX5_middle_129 : decode cX5_middle 129 = .ok (.isub, 1) := by decide +kernel
theorem dX5_middle_130 : decode cX5_middle 130 = .ok (.iconst 2, 1) := by decide +kernel
theorem dX5_middle_131 : decode cX5_middle 131 = .ok (.idiv, 1) := by decide +kernel
theorem dX5_middle_132 : decode cX5_middle 132 = .ok (.if_icmp .gt 26, 3) := by decide +kernel
theorem dX5_middle_135 : decode cX5_middle 135 = .ok (.iload 5, 2) := by decide +kernel
theorem dX5_middle_137 : decode cX5_middle 137 = .ok (.iload 6, 2) := by decide +kernel
theorem dX5_middle_139 : decode cX5_middle 139 = .ok (.iadd, 1) := by decide +kernel
theorem dX5_middle_140 : decode cX5_middle 140 = .ok (.iload_n 2, 1) := by decide +kernel
theorem dX5_middle_141 : decode cX5_middle 141 = .ok (.iconst 1, 1) := by decide +kernel
theorem dX5_middle_142 : decode cX5_middle 142 = .ok (.isub, 1) := by decide +kernel
theorem dX5_middle_143 : decode cX5_middle 143 = .ok (.iconst 2, 1) := by decide +kernel
theorem dX5_middle_144 : decode cX5_middle 144 = .ok (.idiv, 1) := by decide +kernel
theorem dX5_middle_145 : decode cX5_middle 145 = .ok (.if_icmp .le 13, 3) := by decide +kernel
theorem dX5_middle_148 : decode cX5_middle 148 = .ok (.aload_n 0, 1) := by decide +kernel
theorem dX5_middle_149 : decode cX5_middle 149 = .ok (.getfield 22, 3) := by decide +kernel
theorem dX5_middle_152 : decode cX5_middle 152 = .ok (.iload 4, 2) := by decide +kernel
theorem dX5_middle_154 : decode cX5_middle 154 = .ok (.iaload, 1) := by decide +kernel
theorem dX5_middle_155 : decode cX5_middle 155 = .ok (.goto 4, 3) := by decide +kernel
theorem dX5_middle_158 : decode cX5_middle 158 = .ok (.iload_n 3, 1) := by decide +kernel
theorem dX5_middle_159 : decode cX5_middle 159 = .ok (.istore_n 3, 1) := by decide +kernel
theorem dX5_middle_160 : decode cX5_middle 160 = .ok (.iinc 4 1, 3) := by decide +kernel
theorem dX5_middle_163 : decode cX5_middle 163 = .ok (.goto (-119), 3) := by decide +kernel
theorem dX5_middle_166 : decode cX5_middle 166 = .ok (.iload_n 3, 1) := by decide +kernel
theorem dX5_middle_167 : decode cX5_middle 167 = .ok (.ireturn, 1) := by decide +kernel
theorem dX5_breaking_0 : decode cX5_breaking 0 = .ok (.aload_n 0, 1) := by decide +kernel
theorem dX5_breaking_1 : decode cX5_breaking 1 = .ok (.iload_n 1, 1) := by decide +kernel
theorem dX5_breaking_2 : decode cX5_breaking 2 = .ok (.invokevirtual 135, 3) := by decide +kernel
theorem dX5_breaking_5 : decode cX5_breaking 5 = .ok (.iconst 0, 1) := by decide +kernel
theorem dX5_breaking_6 : decode cX5_breaking 6 = .ok (.istore_n 2, 1) := by decide +kernel
theorem dX5_breaking_7 : decode cX5_breaking 7 = .ok (.iload_n 2, 1) := by decide +kernel
theorem dX5_breaking_8 : decode cX5_breaking 8 = .ok (.aload_n 0, 1) := by decide +kernel
theorem dX5_breaking_9 : decode cX5_breaking 9 = .ok (.getfield 7, 3) := by decide +kernel
theorem dX5_breaking_12 : decode cX5_breaking 12 = .ok (.bipush 17, 2) := by decide +kernel
theorem dX5_breaking_14 : decode cX5_breaking 14 = .ok (.iaload, 1) := by decide +kernel
theorem dX5_breaking_15 : decode cX5_breaking 15 = .ok (.if_icmp .ge 63, 3) := by decide +kernel
theorem dX5_breaking_18 : decode cX5_breaking 18 = .ok (.iconst 0, 1) := by decide +kernel
theorem dX5_breaking_19 : decode cX5_breaking 19 = .ok (.istore_n 3, 1) := by decide +kernel
theorem dX5_breaking_20 : decode cX5_breaking 20 = .ok (.iload_n 3, 1) := by decide +kernel
theorem dX5_breaking_21 : decode cX5_breaking 21 = .ok (.aload_n 0, 1) := by decide +kernel
theorem dX5_breaking_22 : decode cX5_breaking 22 = .ok (.getfield 7, 3) := by decide +kernel
theorem dX5_breaking_25 : decode cX5_breaking 25 = .ok (.bipush 17, 2) := by decide +kernel
theorem dX5_breaking_27 : decode cX5_breaking 27 = .ok (.iaload, 1) := by decide +kernel
theorem dX5_breaking_28 : decode cX5_breaking 28 = .ok (.if_icmp .ge 44, 3) := by decide +kernel
theorem dX5_breaking_31 : decode cX5_breaking 31 = .ok (.aload_n 0, 1) := by decide +kernel
theorem dX5_breaking_32 : decode cX5_breaking 32 = .ok (.iload_n 2, 1) := by decide +kernel
theorem dX5_breaking_33 : decode cX5_breaking 33 = .ok (.invokevirtual 84, 3) := by decide +kernel
theorem dX5_breaking_36 : decode cX5_breaking 36 = .ok (.aload_n 0, 1) := by decide +kernel
theorem dX5_breaking_37 : decode cX5_breaking 37 = .ok (.iload_n 3, 1) := by decide +kernel
theorem dX5_breaking_38 : decode cX5_breaking 38 = .ok (.invokevirtual 84, 3) := by decide +kernel
theorem dX5_breaking_41 : decode cX5_breaking 41 = .ok (.if_icmp .le 25, 3) := by decide +kernel
theorem dX5_breaking_44 : decode cX5_breaking 44 = .ok (.aload_n 0, 1) := by decide +kernel
theorem dX5_breaking_45 : decode cX5_breaking 45 = .ok (.getfield 22, 3) := by decide +kernel
theorem dX5_breaking_48 : decode cX5_breaking 48 = .ok (.iload_n 2, 1) := by decide +kernel
theorem dX5_breaking_49 : decode cX5_breaking 49 = .ok (.iaload, 1) := by decide +kernel
theorem dX5_breaking_50 : decode cX5_breaking 50 = .ok (.aload_n 0, 1) := by decide +kernel
theorem dX5_breaking_51 : decode cX5_breaking 51 = .ok (.getfield 22, 3) := by decide +kernel
theorem dX5_breaking_54 : decode cX5_breaking 54 = .ok (.iload_n 3, 1) := by decide +kernel
theorem dX5_breaking_55 : decode cX5_breaking 55 = .ok (.iaload, 1) := by decide +kernel
theorem dX5_breaking_56 : decode cX5_breaking 56 = .ok (.if_icmp .ge 10, 3) := by decide +kernel
theorem dX5_breaking_59 : decode cX5_breaking 59 = .ok (.bipush 100, 2) := by decide +kernel
theorem dX5_breaking_61 : decode cX5_breaking 61 = .ok (.iload_n 2, 1) := by decide +kernel
theorem dX5_breaking_62 : decode cX5_breaking 62 = .ok (.imul, 1) := by decide +kernel
theorem dX5_breaking_63 : decode cX5_breaking 63 = .ok (.iload_n 3, 1) := by decide +kernel
theorem dX5_breaking_64 : decode cX5_breaking 64 = .ok (.iadd, 1) := by decide +kernel
theorem dX5_breaking_65 : decode cX5_breaking 65 = .ok (.ireturn, 1) := by decide +kernel
theorem dX5_breaking_66 : decode cX5_breaking 66 = .ok (.iinc 3 1, 3) := by decide +kernel
theorem dX5_breaking_69 : decode cX5_breaking 69 = .ok (.goto (-49), 3) := by decide +kernel
theorem dX5_breaking_72 : decode cX5_breaking 72 = .ok (.iinc 2 1, 3) := by decide +kernel
theorem dX5_breaking_75 : decode cX5_breaking 75 = .ok (.goto (-68), 3) := by decide +kernel
theorem dX5_breaking_78 : decode cX5_breaking 78 = .ok (.iconst (-1), 1) := by decide +kernel
theorem dX5_breaking_79 : decode cX5_breaking 79 = .ok (.ireturn, 1) := by decide +kernel
theorem dX5_keeps_0 : decode cX5_keeps 0 = .ok (.aload_n 0, 1) := by decide +kernel
theorem dX5_keeps_1 : decode cX5_keeps 1 = .ok (.iload_n 1, 1) := by decide +kernel
theorem dX5_keeps_2 : decode cX5_keeps 2 = .ok (.invokevirtual 114, 3) := by decide +kernel
theorem dX5_keeps_5 : decode cX5_keeps 5 = .ok (.ifCond .ne 12, 3) := by decide +kernel
theorem dX5_keeps_8 : decode cX5_keeps 8 = .ok (.aload_n 0, 1) := by decide +kernel
theorem dX5_keeps_9 : decode cX5_keeps 9 = .ok (.ldc 40, 2) := by decide +kernel
theorem dX5_keeps_11 : decode cX5_keeps 11 = .ok (.invokevirtual 59, 3) := by decide +kernel
theorem dX5_keeps_14 : decode cX5_keeps 14 = .ok (.goto 16, 3) := by decide +kernel
theorem dX5_keeps_17 : decode cX5_keeps 17 = .ok (.aload_n 0, 1) := by decide +kernel
theorem dX5_keeps_18 : decode cX5_keeps 18 = .ok (.iload_n 1, 1) := by decide +kernel
theorem dX5_keeps_19 : decode cX5_keeps 19 = .ok (.invokevirtual 139, 3) := by decide +kernel
theorem dX5_keeps_22 : decode cX5_keeps 22 = .ok (.ifCond .ge 7, 3) := by decide +kernel
theorem dX5_keeps_25 : decode cX5_keeps 25 = .ok (.iconst 1, 1) := by decide +kernel
theorem dX5_keeps_26 : decode cX5_keeps 26 = .ok (.goto 4, 3) := by decide +kernel
theorem dX5_keeps_29 : decode cX5_keeps 29 = .ok (.iconst 0, 1) := by decide +kernel
theorem dX5_keeps_30 : decode cX5_keeps 30 = .ok (.ireturn, 1) := by decide +kernel
theorem dX5_breaks_0 : decode cX5_breaks 0 = .ok (.aload_n 0, 1) := by decide +kernel
theorem dX5_breaks_1 : decode cX5_breaks 1 = .ok (.iload_n 1, 1) := by decide +kernel
theorem dX5_breaks_2 : decode cX5_breaks 2 = .ok (.invokevirtual 114, 3) := by decide +kernel
theorem dX5_breaks_5 : decode cX5_breaks 5 = .ok (.ifCond .ne 10, 3) := by decide +kernel
theorem dX5_breaks_8 : decode cX5_breaks 8 = .ok (.aload_n 0, 1) := by decide +kernel
theorem dX5_breaks_9 : decode cX5_breaks 9 = .ok (.ldc 40, 2) := by decide +kernel
theorem dX5_breaks_11 : decode cX5_breaks 11 = .ok (.invokevirtual 59, 3) := by decide +kernel
theorem dX5_breaks_14 : decode cX5_breaks 14 = .ok (.ireturn, 1) := by decide +kernel
theorem dX5_breaks_15 : decode cX5_breaks 15 = .ok (.aload_n 0, 1) := by decide +kernel
theorem dX5_breaks_16 : decode cX5_breaks 16 = .ok (.iload_n 1, 1) := by decide +kernel
theorem dX5_breaks_17 : decode cX5_breaks 17 = .ok (.invokevirtual 139, 3) := by decide +kernel
theorem dX5_breaks_20 : decode cX5_breaks 20 = .ok (.istore_n 2, 1) := by decide +kernel
theorem dX5_breaks_21 : decode cX5_breaks 21 = .ok (.iload_n 2, 1) := by decide +kernel
theorem dX5_breaks_22 : decode cX5_breaks 22 = .ok (.ifCond .ge 12, 3) := by decide +kernel
theorem dX5_breaks_25 : decode cX5_breaks 25 = .ok (.aload_n 0, 1) := by decide +kernel
theorem dX5_breaks_26 : decode cX5_breaks 26 = .ok (.ldc 89, 2) := by decide +kernel
theorem dX5_breaks_28 : decode cX5_breaks 28 = .ok (.invokevirtual 59, 3) := by decide +kernel
theorem dX5_breaks_31 : decode cX5_breaks 31 = .ok (.goto 4, 3) := by decide +kernel
theorem dX5_breaks_34 : decode cX5_breaks 34 = .ok (.iload_n 2, 1) := by decide +kernel
theorem dX5_breaks_35 : decode cX5_breaks 35 = .ok (.ireturn, 1) := by decide +kernel
theorem dX5_heaped_0 : decode cX5_heaped 0 = .ok (.aload_n 0, 1) := by decide +kernel
theorem dX5_heaped_1 : decode cX5_heaped 1 = .ok (.iload_n 1, 1) := by decide +kernel
theorem dX5_heaped_2 : decode cX5_heaped 2 = .ok (.invokevirtual 114, 3) := by decide +kernel
theorem dX5_heaped_5 : decode cX5_heaped 5 = .ok (.ifCond .ne 10, 3) := by decide +kernel
theorem dX5_heaped_8 : decode cX5_heaped 8 = .ok (.aload_n 0, 1) := by decide +kernel
theorem dX5_heaped_9 : decode cX5_heaped 9 = .ok (.ldc 40, 2) := by decide +kernel
theorem dX5_heaped_11 : decode cX5_heaped 11 = .ok (.invokevirtual 59, 3) := by decide +kernel
theorem dX5_heaped_14 : decode cX5_heaped 14 = .ok (.ireturn, 1) := by decide +kernel
theorem dX5_heaped_15 : decode cX5_heaped 15 = .ok (.aload_n 0, 1) := by decide +kernel
theorem dX5_heaped_16 : decode cX5_heaped 16 = .ok (.iload_n 1, 1) := by decide +kernel
theorem dX5_heaped_17 : decode cX5_heaped 17 = .ok (.invokevirtual 135, 3) := by decide +kernel
theorem dX5_heaped_20 : decode cX5_heaped 20 = .ok (.iconst 0, 1) := by decide +kernel
theorem dX5_heaped_21 : decode cX5_heaped 21 = .ok (.istore_n 2, 1) := by decide +kernel
theorem dX5_heaped_22 : decode cX5_heaped 22 = .ok (.iconst 0, 1) := by decide +kernel
theorem dX5_heaped_23 : decode cX5_heaped 23 = .ok (.istore_n 3, 1) := by decide +kernel
theorem dX5_heaped_24 : decode cX5_heaped 24 = .ok (.iload_n 3, 1) := by decide +kernel
theorem dX5_heaped_25 : decode cX5_heaped 25 = .ok (.aload_n 0, 1) := by decide +kernel
theorem dX5_heaped_26 : decode cX5_heaped 26 = .ok (.getfield 7, 3) := by decide +kernel
theorem dX5_heaped_29 : decode cX5_heaped 29 = .ok (.bipush 17, 2) := by decide +kernel
theorem dX5_heaped_31 : decode cX5_heaped 31 = .ok (.iaload, 1) := by decide +kernel
theorem dX5_heaped_32 : decode cX5_heaped 32 = .ok (.if_icmp .ge 62, 3) := by decide +kernel
theorem dX5_heaped_35 : decode cX5_heaped 35 = .ok (.iconst 0, 1) := by decide +kernel
theorem dX5_heaped_36 : decode cX5_heaped 36 = .ok (.istore 4, 2) := by decide +kernel
theorem dX5_heaped_38 : decode cX5_heaped 38 = .ok (.iload 4, 2) := by decide +kernel
theorem dX5_heaped_40 : decode cX5_heaped 40 = .ok (.iload_n 3, 1) := by decide +kernel
theorem dX5_heaped_41 : decode cX5_heaped 41 = .ok (.if_icmp .ge 47, 3) := by decide +kernel
theorem dX5_heaped_44 : decode cX5_heaped 44 = .ok (.iload_n 2, 1) := by decide +kernel
theorem dX5_heaped_45 : decode cX5_heaped 45 = .ok (.aload_n 0, 1) := by decide +kernel
theorem dX5_heaped_46 : decode cX5_heaped 46 = .ok (.iload_n 3, 1) := by decide +kernel
theorem dX5_heaped_47 : decode cX5_heaped 47 = .ok (.invokevirtual 84, 3) := by decide +kernel
theorem dX5_heaped_50 : decode cX5_heaped 50 = .ok (.aload_n 0, 1) := by decide +kernel
theorem dX5_heaped_51 : decode cX5_heaped 51 = .ok (.iload 4, 2) := by decide +kernel
theorem dX5_heaped_53 : decode cX5_heaped 53 = .ok (.invokevirtual 84, 3) := by decide +kernel
theorem dX5_heaped_56 : decode cX5_heaped 56 = .ok (.if_icmp .eq 23, 3) := by decide +kernel
theorem dX5_heaped_59 : decode cX5_heaped 59 = .ok (.aload_n 0, 1) := by decide +kernel
theorem dX5_heaped_60 : decode cX5_heaped 60 = .ok (.getfield 22, 3) := by decide +kernel
theorem dX5_heaped_63 : decode cX5_heaped 63 = .ok (.iload_n 3, 1) := by decide +kernel
theorem dX5_heaped_64 : decode cX5_heaped 64 = .ok (.iaload, 1) := by decide +kernel
theorem dX5_heaped_65 : decode cX5_heaped 65 = .ok (.aload_n 0, 1) := by decide +kernel
theorem dX5_heaped_66 : decode cX5_heaped 66 = .ok (.getfield 22, 3) := by decide +kernel
theorem dX5_heaped_69 : decode cX5_heaped 69 = .ok (.iload 4, 2) := by decide +kernel
theorem dX5_heaped_71 : decode cX5_heaped 71 = .ok (.iaload, 1) := by decide +kernel
theorem dX5_heaped_72 : decode cX5_heaped 72 = .ok (.if_icmp .ne 7, 3) := by decide +kernel
theorem dX5_heaped_75 : decode cX5_heaped 75 = .ok (.iconst 1, 1) := by decide +kernel
theorem dX5_heaped_76 : decode cX5_heaped 76 = .ok (.goto 4, 3) := by decide +kernel
theorem dX5_heaped_79 : decode cX5_heaped 79 = .ok (.iconst 0, 1) := by decide +kernel
theorem dX5_heaped_80 : decode cX5_heaped 80 = .ok (.iadd, 1) := by decide +kernel
theorem dX5_heaped_81 : decode cX5_heaped 81 = .ok (.istore_n 2, 1) := by decide +kernel
theorem dX5_heaped_82 : decode cX5_heaped 82 = .ok (.iinc 4 1, 3) := by decide +kernel
theorem dX5_heaped_85 : decode cX5_heaped 85 = .ok (.goto (-47), 3) := by decide +kernel
theorem dX5_heaped_88 : decode cX5_heaped 88 = .ok (.iinc 3 1, 3) := by decide +kernel
theorem dX5_heaped_91 : decode cX5_heaped 91 = .ok (.goto (-67), 3) := by decide +kernel
theorem dX5_heaped_94 : decode cX5_heaped 94 = .ok (.iload_n 2, 1) := by decide +kernel
theorem dX5_heaped_95 : decode cX5_heaped 95 = .ok (.ireturn, 1) := by decide +kernel
theorem dX5_gaining_0 : decode cX5_gaining 0 = .ok (.aload_n 0, 1) := by decide +kernel
theorem dX5_gaining_1 : decode cX5_gaining 1 = .ok (.iload_n 1, 1) := by decide +kernel
theorem dX5_gaining_2 : decode cX5_gaining 2 = .ok (.iload_n 2, 1) := by decide +kernel
theorem dX5_gaining_3 : decode cX5_gaining 3 = .ok (.invokevirtual 132, 3) := by decide +kernel
theorem dX5_gaining_6 : decode cX5_gaining 6 = .ok (.istore_n 3, 1) := by decide +kernel
theorem dX5_gaining_7 : decode cX5_gaining 7 = .ok (.iconst (-1), 1) := by decide +kernel
theorem dX5_gaining_8 : decode cX5_gaining 8 = .ok (.istore 4, 2) := by decide +kernel
theorem dX5_gaining_10 : decode cX5_gaining 10 = .ok (.iconst 0, 1) := by decide +kernel
theorem dX5_gaining_11 : decode cX5_gaining 11 = .ok (.istore 5, 2) := by decide +kernel
theorem dX5_gaining_13 : decode cX5_gaining 13 = .ok (.iload 5, 2) := by decide +kernel
theorem dX5_gaining_15 : decode cX5_gaining 15 = .ok (.bipush 8, 2) := by decide +kernel
theorem dX5_gaining_17 : decode cX5_gaining 17 = .ok (.if_icmp .ge 131, 3) := by decide +kernel
theorem dX5_gaining_20 : decode cX5_gaining 20 = .ok (.aload_n 0, 1) := by decide +kernel
theorem dX5_gaining_21 : decode cX5_gaining 21 = .ok (.getfield 7, 3) := by decide +kernel
theorem dX5_gaining_24 : decode cX5_gaining 24 = .ok (.iload_n 2, 1) := by decide +kernel
theorem dX5_gaining_25 : decode cX5_gaining 25 = .ok (.iconst 0, 1) := by decide +kernel
theorem dX5_gaining_26 : decode cX5_gaining 26 = .ok (.iload 5, 2) := by decide +kernel
theorem dX5_gaining_28 : decode cX5_gaining 28 = .ok (.invokestatic 49, 3) := by decide +kernel
theorem dX5_gaining_31 : decode cX5_gaining 31 = .ok (.iaload, 1) := by decide +kernel
theorem dX5_gaining_32 : decode cX5_gaining 32 = .ok (.istore 6, 2) := by decide +kernel
theorem dX5_gaining_34 : decode cX5_gaining 34 = .ok (.iload 6, 2) := by decide +kernel
theorem dX5_gaining_36 : decode cX5_gaining 36 = .ok (.istore 7, 2) := by decide +kernel
theorem dX5_gaining_38 : decode cX5_gaining 38 = .ok (.iload 7, 2) := by decide +kernel
theorem dX5_gaining_40 : decode cX5_gaining 40 = .ok (.ifCond .le 88, 3) := by decide +kernel
theorem dX5_gaining_43 : decode cX5_gaining 43 = .ok (.aload_n 0, 1) := by decide +kernel
theorem dX5_gaining_44 : decode cX5_gaining 44 = .ok (.getfield 7, 3) := by decide +kernel
theorem dX5_gaining_47 : decode cX5_gaining 47 = .ok (.iload_n 2, 1) := by decide +kernel
theorem dX5_gaining_48 : decode cX5_gaining 48 = .ok (.iconst 0, 1) := by decide +kernel
theorem dX5_gaining_49 : decode cX5_gaining 49 = .ok (.iload 5, 2) := by decide +kernel
theorem dX5_gaining_51 : decode cX5_gaining 51 = .ok (.invokestatic 49, 3) := by decide +kernel
theorem dX5_gaining_54 : decode cX5_gaining 54 = .ok (.iload 6, 2) := by decide +kernel
theorem dX5_gaining_56 : decode cX5_gaining 56 = .ok (.iload 7, 2) := by decide +kernel
theorem dX5_gaining_58 : decode cX5_gaining 58 = .ok (.isub, 1) := by decide +kernel
theorem dX5_gaining_59 : decode cX5_gaining 59 = .ok (.iastore, 1) := by decide +kernel
theorem dX5_gaining_60 : decode cX5_gaining 60 = .ok (.aload_n 0, 1) := by decide +kernel
theorem dX5_gaining_61 : decode cX5_gaining 61 = .ok (.iload_n 1, 1) := by decide +kernel
theorem dX5_gaining_62 : decode cX5_gaining 62 = .ok (.iload_n 2, 1) := by decide +kernel
theorem dX5_gaining_63 : decode cX5_gaining 63 = .ok (.invokevirtual 132, 3) := by decide +kernel
theorem dX5_gaining_66 : decode cX5_gaining 66 = .ok (.iload_n 3, 1) := by decide +kernel
theorem dX5_gaining_67 : decode cX5_gaining 67 = .ok (.if_icmp .le 7, 3) := by decide +kernel
theorem dX5_gaining_70 : decode cX5_gaining 70 = .ok (.iconst 1, 1) := by decide +kernel
theorem dX5_gaining_71 : decode cX5_gaining 71 = .ok (.goto 4, 3) := by decide +kernel
theorem dX5_gaining_74 : decode cX5_gaining 74 = .ok (.iconst 0, 1) := by decide +kernel
theorem dX5_gaining_75 : decode cX5_gaining 75 = .ok (.istore 8, 2) := by decide +kernel
theorem dX5_gaining_77 : decode cX5_gaining 77 = .ok (.iload 8, 2) := by decide +kernel
theorem dX5_gaining_79 : decode cX5_gaining 79 = .ok (.ifCond .eq 39, 3) := by decide +kernel
theorem dX5_gaining_82 : decode cX5_gaining 82 = .ok (.iload 4, 2) := by decide +kernel
theorem dX5_gaining_84 : decode cX5_gaining 84 = .ok (.ifCond .lt 23, 3) := by decide +kernel
theorem dX5_gaining_87 : decode cX5_gaining 87 = .ok (.iload 7, 2) := by decide +kernel
theorem dX5_gaining_89 : decode cX5_gaining 89 = .ok (.iload 4, 2) := by decide +kernel
theorem dX5_gaining_91 : decode cX5_gaining 91 = .ok (.bipush 100, 2) := by decide +kernel
theorem dX5_gaining_93 : decode cX5_gaining 93 = .ok (.irem, 1) := by decide +kernel
theorem dX5_gaining_94 : decode cX5_gaining 94 = .ok (.if_icmp .lt 13, 3) := by decide +kernel
theorem dX5_gaining_97 : decode cX5_gaining 97 = .ok (.iload 4, 2) := by decide +kernel
theorem dX5_gaining_99 : decode cX5_gaining 99 = .ok (.bipush 100, 2) := by decide +kernel
theorem dX5_gaining_101 : decode cX5_gaining 101 = .ok (.idiv, 1) := by decide +kernel
theorem dX5_gaining_102 : decode cX5_gaining 102 = .ok (.iload 5, 2) := by decide +kernel
theorem dX5_gaining_104 : decode cX5_gaining 104 = .ok (.if_icmp .ne 14, 3) := by decide +kernel
theorem dX5_gaining_107 : decode cX5_gaining 107 = .ok (.bipush 100, 2) := by decide +kernel
theorem dX5_gaining_109 : decode cX5_gaining 109 = .ok (.iload 5, 2) := by decide +kernel
theorem dX5_gaining_111 : decode cX5_gaining 111 = .ok (.imul, 1) := by decide +kernel
theorem dX5_gaining_112 : decode cX5_gaining 112 = .ok (.iload 7, 2) := by decide +kernel
theorem dX5_gaining_114 : decode cX5_gaining 114 = .ok (.iadd, 1) := by decide +kernel
theorem dX5_gaining_115 : decode cX5_gaining 115 = .ok (.goto 5, 3) := by decide +kernel
theorem dX5_gaining_118 : decode cX5_gaining 118 = .ok (.iload 4, 2) := by decide +kernel
theorem dX5_gaining_120 : decode cX5_gaining 120 = .ok (.istore 4, 2) := by decide +kernel
theorem dX5_gaining_122 : decode cX5_gaining 122 = .ok (.iinc 7 (-1), 3) := by decide +kernel
theorem dX5_gaining_125 : decode cX5_gaining 125 = .ok (.goto (-87), 3) := by decide +kernel
theorem dX5_gaining_128 : decode cX5_gaining 128 = .ok (.aload_n 0, 1) := by decide +kernel
theorem dX5_gaining_129 : decode cX5_gaining 129 = .ok (.getfield 7, 3) := by decide +kernel
theorem dX5_gaining_132 : decode cX5_gaining 132 = .ok (.iload_n 2, 1) := by decide +kernel
theorem dX5_gaining_133 : decode cX5_gaining 133 = .ok (.iconst 0, 1) := by decide +kernel
theorem dX5_gaining_134 : decode cX5_gaining 134 = .ok (.iload 5, 2) := by decide +kernel
theorem dX5_gaining_136 : decode cX5_gaining 136 = .ok (.invokestatic 49, 3) := by decide +kernel
theorem dX5_gaining_139 : decode cX5_gaining 139 = .ok (.iload 6, 2) := by decide +kernel
theorem dX5_gaining_141 : decode cX5_gaining 141 = .ok (.iastore, 1) := by decide +kernel
theorem dX5_gaining_142 : decode cX5_gaining 142 = .ok (.iinc 5 1, 3) := by decide +kernel
theorem dX5_gaining_145 : decode cX5_gaining 145 = .ok (.goto (-132), 3) := by decide +kernel
theorem dX5_gaining_148 : decode cX5_gaining 148 = .ok (.iload 4, 2) := by decide +kernel
theorem dX5_gaining_150 : decode cX5_gaining 150 = .ok (.ireturn, 1) := by decide +kernel
theorem dX5_gains_0 : decode cX5_gains 0 = .ok (.aload_n 0, 1) := by decide +kernel
theorem dX5_gains_1 : decode cX5_gains 1 = .ok (.iload_n 1, 1) := by decide +kernel
theorem dX5_gains_2 : decode cX5_gains 2 = .ok (.invokevirtual 114, 3) := by decide +kernel
theorem dX5_gains_5 : decode cX5_gains 5 = .ok (.ifCond .ne 10, 3) := by decide +kernel
theorem dX5_gains_8 : decode cX5_gains 8 = .ok (.aload_n 0, 1) := by decide +kernel
theorem dX5_gains_9 : decode cX5_gains 9 = .ok (.ldc 40, 2) := by decide +kernel
theorem dX5_gains_11 : decode cX5_gains 11 = .ok (.invokevirtual 59, 3) := by decide +kernel
theorem dX5_gains_14 : decode cX5_gains 14 = .ok (.ireturn, 1) := by decide +kernel
theorem dX5_gains_15 : decode cX5_gains 15 = .ok (.iconst 0, 1) := by decide +kernel
theorem dX5_gains_16 : decode cX5_gains 16 = .ok (.istore_n 2, 1) := by decide +kernel
theorem dX5_gains_17 : decode cX5_gains 17 = .ok (.iconst 0, 1) := by decide +kernel
theorem dX5_gains_18 : decode cX5_gains 18 = .ok (.istore_n 3, 1) := by decide +kernel
theorem dX5_gains_19 : decode cX5_gains 19 = .ok (.iload_n 3, 1) := by decide +kernel
theorem dX5_gains_20 : decode cX5_gains 20 = .ok (.aload_n 0, 1) := by decide +kernel
theorem dX5_gains_21 : decode cX5_gains 21 = .ok (.getfield 7, 3) := by decide +kernel
theorem dX5_gains_24 : decode cX5_gains 24 = .ok (.bipush 17, 2) := by decide +kernel
theorem dX5_gains_26 : decode cX5_gains 26 = .ok (.iaload, 1) := by decide +kernel
theorem dX5_gains_27 : decode cX5_gains 27 = .ok (.if_icmp .ge 28, 3) := by decide +kernel
theorem dX5_gains_30 : decode cX5_gains 30 = .ok (.iload_n 2, 1) := by decide +kernel
theorem dX5_gains_31 : decode cX5_gains 31 = .ok (.aload_n 0, 1) := by decide +kernel
theorem dX5_gains_32 : decode cX5_gains 32 = .ok (.iload_n 1, 1) := by decide +kernel
theorem dX5_gains_33 : decode cX5_gains 33 = .ok (.iload_n 3, 1) := by decide +kernel
theorem dX5_gains_34 : decode cX5_gains 34 = .ok (.invokevirtual 142, 3) := by decide +kernel
theorem dX5_gains_37 : decode cX5_gains 37 = .ok (.ifCond .ge 7, 3) := by decide +kernel
theorem dX5_gains_40 : decode cX5_gains 40 = .ok (.iconst 0, 1) := by decide +kernel
theorem dX5_gains_41 : decode cX5_gains 41 = .ok (.goto 6, 3) := by decide +kernel
theorem dX5_gains_44 : decode cX5_gains 44 = .ok (.iconst 1, 1) := by decide +kernel
theorem dX5_gains_45 : decode cX5_gains 45 = .ok (.iload_n 3, 1) := by decide +kernel
theorem dX5_gains_46 : decode cX5_gains 46 = .ok (.ishl, 1) := by decide +kernel
theorem dX5_gains_47 : decode cX5_gains 47 = .ok (.ior, 1) := by decide +kernel
theorem dX5_gains_48 : decode cX5_gains 48 = .ok (.istore_n 2, 1) := by decide +kernel
theorem dX5_gains_49 : decode cX5_gains 49 = .ok (.iinc 3 1, 3) := by decide +kernel
theorem dX5_gains_52 : decode cX5_gains 52 = .ok (.goto (-33), 3) := by decide +kernel
theorem dX5_gains_55 : decode cX5_gains 55 = .ok (.iload_n 2, 1) := by decide +kernel
theorem dX5_gains_56 : decode cX5_gains 56 = .ok (.ireturn, 1) := by decide +kernel
theorem dX5_gainsBy_0 : decode cX5_gainsBy 0 = .ok (.aload_n 0, 1) := by decide +kernel
theorem dX5_gainsBy_1 : decode cX5_gainsBy 1 = .ok (.iload_n 1, 1) := by decide +kernel
theorem dX5_gainsBy_2 : decode cX5_gainsBy 2 = .ok (.invokevirtual 114, 3) := by decide +kernel
theorem dX5_gainsBy_5 : decode cX5_gainsBy 5 = .ok (.ifCond .eq 11, 3) := by decide +kernel
theorem dX5_gainsBy_8 : decode cX5_gainsBy 8 = .ok (.aload_n 0, 1) := by decide +kernel
theorem dX5_gainsBy_9 : decode cX5_gainsBy 9 = .ok (.iload_n 2, 1) := by decide +kernel
theorem dX5_gainsBy_10 : decode cX5_gainsBy 10 = .ok (.invokevirtual 75, 3) := by decide +kernel
theorem dX5_gainsBy_13 : decode cX5_gainsBy 13 = .ok (.ifCond .ne 10, 3) := by decide +kernel
theorem dX5_gainsBy_16 : decode cX5_gainsBy 16 = .ok (.aload_n 0, 1) := by decide +kernel
theorem dX5_gainsBy_17 : decode cX5_gainsBy 17 = .ok (.ldc 40, 2) := by decide +kernel
theorem dX5_gainsBy_19 : decode cX5_gainsBy 19 = .ok (.invokevirtual 59, 3) := by decide +kernel
theorem dX5_gainsBy_22 : decode cX5_gainsBy 22 = .ok (.ireturn, 1) := by decide +kernel
theorem dX5_gainsBy_23 : decode cX5_gainsBy 23 = .ok (.aload_n 0, 1) := by decide +kernel
theorem dX5_gainsBy_24 : decode cX5_gainsBy 24 = .ok (.iload_n 1, 1) := by decide +kernel
theorem dX5_gainsBy_25 : decode cX5_gainsBy 25 = .ok (.iload_n 2, 1) := by decide +kernel
theorem dX5_gainsBy_26 : decode cX5_gainsBy 26 = .ok (.invokevirtual 142, 3) := by decide +kernel
theorem dX5_gainsBy_29 : decode cX5_gainsBy 29 = .ok (.istore_n 3, 1) := by decide +kernel
theorem dX5_gainsBy_30 : decode cX5_gainsBy 30 = .ok (.iload_n 3, 1) := by decide +kernel
theorem dX5_gainsBy_31 : decode cX5_gainsBy 31 = .ok (.ifCond .ge 12, 3) := by decide +kernel
theorem dX5_gainsBy_34 : decode cX5_gainsBy 34 = .ok (.aload_n 0, 1) := by decide +kernel
theorem dX5_gainsBy_35 : decode cX5_gainsBy 35 = .ok (.ldc 89, 2) := by decide +kernel
theorem dX5_gainsBy_37 : decode cX5_gainsBy 37 = .ok (.invokevirtual 59, 3) := by decide +kernel
theorem dX5_gainsBy_40 : decode cX5_gainsBy 40 = .ok (.goto 4, 3) := by decide +kernel
theorem dX5_gainsBy_43 : decode cX5_gainsBy 43 = .ok (.iload_n 3, 1) := by decide +kernel
theorem dX5_gainsBy_44 : decode cX5_gainsBy 44 = .ok (.ireturn, 1) := by decide +kernel
theorem dX5_moves_0 : decode cX5_moves 0 = .ok (.aload_n 0, 1) := by decide +kernel
theorem dX5_moves_1 : decode cX5_moves 1 = .ok (.iload_n 1, 1) := by decide +kernel
theorem dX5_moves_2 : decode cX5_moves 2 = .ok (.invokevirtual 114, 3) := by decide +kernel
theorem dX5_moves_5 : decode cX5_moves 5 = .ok (.ifCond .eq 15, 3) := by decide +kernel
theorem dX5_moves_8 : decode cX5_moves 8 = .ok (.iload_n 2, 1) := by decide +kernel
theorem dX5_moves_9 : decode cX5_moves 9 = .ok (.i2l, 1) := by decide +kernel
theorem dX5_moves_10 : decode cX5_moves 10 = .ok (.lconst 0, 1) := by decide +kernel
theorem dX5_moves_11 : decode cX5_moves 11 = .ok (.ldc2_w 57, 3) := by decide +kernel
theorem dX5_moves_14 : decode cX5_moves 14 = .ok (.invokestatic 43, 3) := by decide +kernel
theorem dX5_moves_17 : decode cX5_moves 17 = .ok (.ifCond .ne 10, 3) := by decide +kernel
theorem dX5_moves_20 : decode cX5_moves 20 = .ok (.aload_n 0, 1) := by decide +kernel
theorem dX5_moves_21 : decode cX5_moves 21 = .ok (.ldc 40, 2) := by decide +kernel
theorem dX5_moves_23 : decode cX5_moves 23 = .ok (.invokevirtual 59, 3) := by decide +kernel
theorem dX5_moves_26 : decode cX5_moves 26 = .ok (.ireturn, 1) := by decide +kernel
theorem dX5_moves_27 : decode cX5_moves 27 = .ok (.aload_n 0, 1) := by decide +kernel
theorem dX5_moves_28 : decode cX5_moves 28 = .ok (.getfield 7, 3) := by decide +kernel
theorem dX5_moves_31 : decode cX5_moves 31 = .ok (.bipush 17, 2) := by decide +kernel
theorem dX5_moves_33 : decode cX5_moves 33 = .ok (.iaload, 1) := by decide +kernel
theorem dX5_moves_34 : decode cX5_moves 34 = .ok (.bipush 12, 2) := by decide +kernel
theorem dX5_moves_36 : decode cX5_moves 36 = .ok (.if_icmp .ne 10, 3) := by decide +kernel
theorem dX5_moves_39 : decode cX5_moves 39 = .ok (.aload_n 0, 1) := by decide +kernel
theorem dX5_moves_40 : decode cX5_moves 40 = .ok (.ldc 145, 2) := by decide +kernel
theorem dX5_moves_42 : decode cX5_moves 42 = .ok (.invokevirtual 59, 3) := by decide +kernel
theorem dX5_moves_45 : decode cX5_moves 45 = .ok (.ireturn, 1) := by decide +kernel
theorem dX5_moves_46 : decode cX5_moves 46 = .ok (.aload_n 0, 1) := by decide +kernel
theorem dX5_moves_47 : decode cX5_moves 47 = .ok (.iload_n 1, 1) := by decide +kernel
theorem dX5_moves_48 : decode cX5_moves 48 = .ok (.invokevirtual 135, 3) := by decide +kernel
theorem dX5_moves_51 : decode cX5_moves 51 = .ok (.aload_n 0, 1) := by decide +kernel
theorem dX5_moves_52 : decode cX5_moves 52 = .ok (.getfield 7, 3) := by decide +kernel
theorem dX5_moves_55 : decode cX5_moves 55 = .ok (.bipush 17, 2) := by decide +kernel
theorem dX5_moves_57 : decode cX5_moves 57 = .ok (.iaload, 1) := by decide +kernel
theorem dX5_moves_58 : decode cX5_moves 58 = .ok (.istore_n 3, 1) := by decide +kernel
theorem dX5_moves_59 : decode cX5_moves 59 = .ok (.aload_n 0, 1) := by decide +kernel
theorem dX5_moves_60 : decode cX5_moves 60 = .ok (.iconst 0, 1) := by decide +kernel
theorem dX5_moves_61 : decode cX5_moves 61 = .ok (.invokevirtual 72, 3) := by decide +kernel
theorem dX5_moves_64 : decode cX5_moves 64 = .ok (.istore 4, 2) := by decide +kernel
theorem dX5_moves_66 : decode cX5_moves 66 = .ok (.iconst 0, 1) := by decide +kernel
theorem dX5_moves_67 : decode cX5_moves 67 = .ok (.istore 5, 2) := by decide +kernel
theorem dX5_moves_69 : decode cX5_moves 69 = .ok (.iload 5, 2) := by decide +kernel
theorem dX5_moves_71 : decode cX5_moves 71 = .ok (.bipush 8, 2) := by decide +kernel
theorem dX5_moves_73 : decode cX5_moves 73 = .ok (.if_icmp .ge 67, 3) := by decide +kernel
theorem dX5_moves_76 : decode cX5_moves 76 = .ok (.iload_n 2, 1) := by decide +kernel
theorem dX5_moves_77 : decode cX5_moves 77 = .ok (.aload_n 0, 1) := by decide +kernel
theorem dX5_moves_78 : decode cX5_moves 78 = .ok (.getfield 7, 3) := by decide +kernel
theorem dX5_moves_81 : decode cX5_moves 81 = .ok (.iconst 0, 1) := by decide +kernel
theorem dX5_moves_82 : decode cX5_moves 82 = .ok (.iload 5, 2) := by decide +kernel
theorem dX5_moves_84 : decode cX5_moves 84 = .ok (.iadd, 1) := by decide +kernel
theorem dX5_moves_85 : decode cX5_moves 85 = .ok (.iaload, 1) := by decide +kernel
theorem dX5_moves_86 : decode cX5_moves 86 = .ok (.if_icmp .le 15, 3) := by decide +kernel
theorem dX5_moves_89 : decode cX5_moves 89 = .ok (.aload_n 0, 1) := by decide +kernel
theorem dX5_moves_90 : decode cX5_moves 90 = .ok (.getfield 7, 3) := by decide +kernel
theorem dX5_moves_93 : decode cX5_moves 93 = .ok (.iconst 0, 1) := by decide +kernel
theorem dX5_moves_94 : decode cX5_moves 94 = .ok (.iload 5, 2) := by decide +kernel
theorem dX5_moves_96 : decode cX5_moves 96 = .ok (.iadd, 1) := by decide +kernel
theorem dX5_moves_97 : decode cX5_moves 97 = .ok (.iaload, 1) := by decide +kernel
theorem dX5_moves_98 : decode cX5_moves 98 = .ok (.goto 4, 3) := by decide +kernel
theorem dX5_moves_101 : decode cX5_moves 101 = .ok (.iload_n 2, 1) := by decide +kernel
theorem dX5_moves_102 : decode cX5_moves 102 = .ok (.istore 6, 2) := by decide +kernel
theorem dX5_moves_104 : decode cX5_moves 104 = .ok (.aload_n 0, 1) := by decide +kernel
theorem dX5_moves_105 : decode cX5_moves 105 = .ok (.getfield 7, 3) := by decide +kernel
theorem dX5_moves_108 : decode cX5_moves 108 = .ok (.iload 4, 2) := by decide +kernel
theorem dX5_moves_110 : decode cX5_moves 110 = .ok (.iconst 0, 1) := by decide +kernel
theorem dX5_moves_111 : decode cX5_moves 111 = .ok (.iload 5, 2) := by decide +kernel
theorem dX5_moves_113 : decode cX5_moves 113 = .ok (.invokestatic 49, 3) := by decide +kernel
theorem dX5_moves_116 : decode cX5_moves 116 = .ok (.iload 6, 2) := by decide +kernel
theorem dX5_moves_118 : decode cX5_moves 118 = .ok (.iastore, 1) := by decide +kernel
theorem dX5_moves_119 : decode cX5_moves 119 = .ok (.aload_n 0, 1) := by decide +kernel
theorem dX5_moves_120 : decode cX5_moves 120 = .ok (.getfield 7, 3) := by decide +kernel
theorem dX5_moves_123 : decode cX5_moves 123 = .ok (.iload 4, 2) := by decide +kernel
theorem dX5_moves_125 : decode cX5_moves 125 = .ok (.iconst 1, 1) := by decide +kernel
theorem dX5_moves_126 : decode cX5_moves 126 = .ok (.iload 5, 2) := by decide +kernel
theorem dX5_moves_128 : decode cX5_moves 128 = .ok (.invokestatic 49, 3) := by decide +kernel
theorem dX5_moves_131 : decode cX5_moves 131 = .ok (.iload 6, 2) := by decide +kernel
theorem dX5_moves_133 : decode cX5_moves 133 = .ok (.iastore, 1) := by decide +kernel
theorem dX5_moves_134 : decode cX5_moves 134 = .ok (.iinc 5 1, 3) := by decide +kernel
theorem dX5_moves_137 : decode cX5_moves 137 = .ok (.goto (-68), 3) := by decide +kernel
theorem dX5_moves_140 : decode cX5_moves 140 = .ok (.iconst 0, 1) := by decide +kernel
theorem dX5_moves_141 : decode cX5_moves 141 = .ok (.istore 5, 2) := by decide +kernel
theorem dX5_moves_143 : decode cX5_moves 143 = .ok (.iconst 0, 1) := by decide +kernel
theorem dX5_moves_144 : decode cX5_moves 144 = .ok (.istore 6, 2) := by decide +kernel
theorem dX5_moves_146 : decode cX5_moves 146 = .ok (.iload 6, 2) := by decide +kernel
theorem dX5_moves_148 : decode cX5_moves 148 = .ok (.iload_n 3, 1) := by decide +kernel
theorem dX5_moves_149 : decode cX5_moves 149 = .ok (.if_icmp .ge 39, 3) := by decide +kernel
theorem dX5_moves_152 : decode cX5_moves 152 = .ok (.iload 5, 2) := by decide +kernel
theorem dX5_moves_154 : decode cX5_moves 154 = .ok (.aload_n 0, 1) := by decide +kernel
theorem dX5_moves_155 : decode cX5_moves 155 = .ok (.iload_n 1, 1) := by decide +kernel
theorem dX5_moves_156 : decode cX5_moves 156 = .ok (.iload 6, 2) := by decide +kernel
theorem dX5_moves_158 : decode cX5_moves 158 = .ok (.invokevirtual 132, 3) := by decide +kernel
theorem dX5_moves_161 : decode cX5_moves 161 = .ok (.aload_n 0, 1) := by decide +kernel
theorem dX5_moves_162 : decode cX5_moves 162 = .ok (.getfield 22, 3) := by decide +kernel
theorem dX5_moves_165 : decode cX5_moves 165 = .ok (.iload 6, 2) := by decide +kernel
theorem dX5_moves_167 : decode cX5_moves 167 = .ok (.iaload, 1) := by decide +kernel
theorem dX5_moves_168 : decode cX5_moves 168 = .ok (.if_icmp .ne 7, 3) := by decide +kernel
theorem dX5_moves_171 : decode cX5_moves 171 = .ok (.iconst 0, 1) := by decide +kernel
theorem dX5_moves_172 : decode cX5_moves 172 = .ok (.goto 7, 3) := by decide +kernel
theorem dX5_moves_175 : decode cX5_moves 175 = .ok (.iconst 1, 1) := by decide +kernel
theorem dX5_moves_176 : decode cX5_moves 176 = .ok (.iload 6, 2) := by decide +kernel
theorem dX5_moves_178 : decode cX5_moves 178 = .ok (.ishl, 1) := by decide +kernel
theorem dX5_moves_179 : decode cX5_moves 179 = .ok (.ior, 1) := by decide +kernel
theorem dX5_moves_180 : decode cX5_moves 180 = .ok (.istore 5, 2) := by decide +kernel
theorem dX5_moves_182 : decode cX5_moves 182 = .ok (.iinc 6 1, 3) := by decide +kernel
theorem dX5_moves_185 : decode cX5_moves 185 = .ok (.goto (-39), 3) := by decide +kernel
theorem dX5_moves_188 : decode cX5_moves 188 = .ok (.aload_n 0, 1) := by decide +kernel
theorem dX5_moves_189 : decode cX5_moves 189 = .ok (.getfield 7, 3) := by decide +kernel
theorem dX5_moves_192 : decode cX5_moves 192 = .ok (.bipush 17, 2) := by decide +kernel
theorem dX5_moves_194 : decode cX5_moves 194 = .ok (.dup2, 1) := by decide +kernel
theorem dX5_moves_195 : decode cX5_moves 195 = .ok (.iaload, 1) := by decide +kernel
theorem dX5_moves_196 : decode cX5_moves 196 = .ok (.iconst 1, 1) := by decide +kernel
theorem dX5_moves_197 : decode cX5_moves 197 = .ok (.isub, 1) := by decide +kernel
theorem dX5_moves_198 : decode cX5_moves 198 = .ok (.iastore, 1) := by decide +kernel
theorem dX5_moves_199 : decode cX5_moves 199 = .ok (.iload 5, 2) := by decide +kernel
theorem dX5_moves_201 : decode cX5_moves 201 = .ok (.ireturn, 1) := by decide +kernel
theorem dX5_without_0 : decode cX5_without 0 = .ok (.aload_n 0, 1) := by decide +kernel
theorem dX5_without_1 : decode cX5_without 1 = .ok (.iload_n 1, 1) := by decide +kernel
theorem dX5_without_2 : decode cX5_without 2 = .ok (.invokevirtual 114, 3) := by decide +kernel
theorem dX5_without_5 : decode cX5_without 5 = .ok (.ifCond .eq 10, 3) := by decide +kernel
theorem dX5_without_8 : decode cX5_without 8 = .ok (.iload_n 2, 1) := by decide +kernel
theorem dX5_without_9 : decode cX5_without 9 = .ok (.invokestatic 53, 3) := by decide +kernel
theorem dX5_without_12 : decode cX5_without 12 = .ok (.ifCond .ne 10, 3) := by decide +kernel
theorem dX5_without_15 : decode cX5_without 15 = .ok (.aload_n 0, 1) := by decide +kernel
theorem dX5_without_16 : decode cX5_without 16 = .ok (.ldc 40, 2) := by decide +kernel
theorem dX5_without_18 : decode cX5_without 18 = .ok (.invokevirtual 59, 3) := by decide +kernel
theorem dX5_without_21 : decode cX5_without 21 = .ok (.ireturn, 1) := by decide +kernel
theorem dX5_without_22 : decode cX5_without 22 = .ok (.aload_n 0, 1) := by decide +kernel
theorem dX5_without_23 : decode cX5_without 23 = .ok (.iload_n 1, 1) := by decide +kernel
theorem dX5_without_24 : decode cX5_without 24 = .ok (.invokevirtual 135, 3) := by decide +kernel
theorem dX5_without_27 : decode cX5_without 27 = .ok (.aload_n 0, 1) := by decide +kernel
theorem dX5_without_28 : decode cX5_without 28 = .ok (.invokevirtual 146, 3) := by decide +kernel
theorem dX5_without_31 : decode cX5_without 31 = .ok (.aload_n 0, 1) := by decide +kernel
theorem dX5_without_32 : decode cX5_without 32 = .ok (.iload_n 2, 1) := by decide +kernel
theorem dX5_without_33 : decode cX5_without 33 = .ok (.iconst 0, 1) := by decide +kernel
theorem dX5_without_34 : decode cX5_without 34 = .ok (.invokevirtual 63, 3) := by decide +kernel
theorem dX5_without_37 : decode cX5_without 37 = .ok (.iconst (-1), 1) := by decide +kernel
theorem dX5_without_38 : decode cX5_without 38 = .ok (.istore_n 3, 1) := by decide +kernel
theorem dX5_without_39 : decode cX5_without 39 = .ok (.iconst 0, 1) := by decide +kernel
theorem dX5_without_40 : decode cX5_without 40 = .ok (.istore 4, 2) := by decide +kernel
theorem dX5_without_42 : decode cX5_without 42 = .ok (.iconst 0, 1) := by decide +kernel
theorem dX5_without_43 : decode cX5_without 43 = .ok (.istore 5, 2) := by decide +kernel
theorem dX5_without_45 : decode cX5_without 45 = .ok (.iload 5, 2) := by decide +kernel
theorem dX5_without_47 : decode cX5_without 47 = .ok (.aload_n 0, 1) := by decide +kernel
theorem dX5_without_48 : decode cX5_without 48 = .ok (.getfield 7, 3) := by decide +kernel
theorem dX5_without_51 : decode cX5_without 51 = .ok (.bipush 17, 2) := by decide +kernel
theorem dX5_without_53 : decode cX5_without 53 = .ok (.iaload, 1) := by decide +kernel
theorem dX5_without_54 : decode cX5_without 54 = .ok (.if_icmp .ge 40, 3) := by decide +kernel
theorem dX5_without_57 : decode cX5_without 57 = .ok (.aload_n 0, 1) := by decide +kernel
theorem dX5_without_58 : decode cX5_without 58 = .ok (.iload_n 1, 1) := by decide +kernel
theorem dX5_without_59 : decode cX5_without 59 = .ok (.iload 5, 2) := by decide +kernel
theorem dX5_without_61 : decode cX5_without 61 = .ok (.invokevirtual 132, 3) := by decide +kernel
theorem dX5_without_64 : decode cX5_without 64 = .ok (.aload_n 0, 1) := by decide +kernel
theorem dX5_without_65 : decode cX5_without 65 = .ok (.getfield 22, 3) := by decide +kernel
theorem dX5_without_68 : decode cX5_without 68 = .ok (.iload 5, 2) := by decide +kernel
theorem dX5_without_70 : decode cX5_without 70 = .ok (.iaload, 1) := by decide +kernel
theorem dX5_without_71 : decode cX5_without 71 = .ok (.isub, 1) := by decide +kernel
theorem dX5_without_72 : decode cX5_without 72 = .ok (.istore 6, 2) := by decide +kernel
theorem dX5_without_74 : decode cX5_without 74 = .ok (.iload 6, 2) := by decide +kernel
theorem dX5_without_76 : decode cX5_without 76 = .ok (.iload 4, 2) := by decide +kernel
theorem dX5_without_78 : decode cX5_without 78 = .ok (.if_icmp .le 10, 3) := by decide +kernel
theorem dX5_without_81 : decode cX5_without 81 = .ok (.iload 5, 2) := by decide +kernel
theorem dX5_without_83 : decode cX5_without 83 = .ok (.istore_n 3, 1) := by decide +kernel
theorem dX5_without_84 : decode cX5_without 84 = .ok (.iload 6, 2) := by decide +kernel
theorem dX5_without_86 : decode cX5_without 86 = .ok (.istore 4, 2) := by decide +kernel
theorem dX5_without_88 : decode cX5_without 88 = .ok (.iinc 5 1, 3) := by decide +kernel
theorem dX5_without_91 : decode cX5_without 91 = .ok (.goto (-46), 3) := by decide +kernel
theorem dX5_without_94 : decode cX5_without 94 = .ok (.aload_n 0, 1) := by decide +kernel
theorem dX5_without_95 : decode cX5_without 95 = .ok (.invokevirtual 149, 3) := by decide +kernel
theorem dX5_without_98 : decode cX5_without 98 = .ok (.iload_n 3, 1) := by decide +kernel
theorem dX5_without_99 : decode cX5_without 99 = .ok (.ifCond .ge 12, 3) := by decide +kernel
theorem dX5_without_102 : decode cX5_without 102 = .ok (.aload_n 0, 1) := by decide +kernel
theorem dX5_without_103 : decode cX5_without 103 = .ok (.ldc 89, 2) := by decide +kernel
theorem dX5_without_105 : decode cX5_without 105 = .ok (.invokevirtual 59, 3) := by decide +kernel
theorem dX5_without_108 : decode cX5_without 108 = .ok (.goto 4, 3) := by decide +kernel
theorem dX5_without_111 : decode cX5_without 111 = .ok (.iload_n 3, 1) := by decide +kernel
theorem dX5_without_112 : decode cX5_without 112 = .ok (.ireturn, 1) := by decide +kernel
theorem dX5_passing_0 : decode cX5_passing 0 = .ok (.aload_n 0, 1) := by decide +kernel
theorem dX5_passing_1 : decode cX5_passing 1 = .ok (.iload_n 1, 1) := by decide +kernel
theorem dX5_passing_2 : decode cX5_passing 2 = .ok (.invokevirtual 135, 3) := by decide +kernel
theorem dX5_passing_5 : decode cX5_passing 5 = .ok (.iconst 0, 1) := by decide +kernel
theorem dX5_passing_6 : decode cX5_passing 6 = .ok (.istore_n 3, 1) := by decide +kernel
theorem dX5_passing_7 : decode cX5_passing 7 = .ok (.iconst 0, 1) := by decide +kernel
theorem dX5_passing_8 : decode cX5_passing 8 = .ok (.istore 4, 2) := by decide +kernel
theorem dX5_passing_10 : decode cX5_passing 10 = .ok (.iload 4, 2) := by decide +kernel
theorem dX5_passing_12 : decode cX5_passing 12 = .ok (.aload_n 0, 1) := by decide +kernel
theorem dX5_passing_13 : decode cX5_passing 13 = .ok (.getfield 7, 3) := by decide +kernel
theorem dX5_passing_16 : decode cX5_passing 16 = .ok (.bipush 17, 2) := by decide +kernel
theorem dX5_passing_18 : decode cX5_passing 18 = .ok (.iaload, 1) := by decide +kernel
theorem dX5_passing_19 : decode cX5_passing 19 = .ok (.if_icmp .ge 31, 3) := by decide +kernel
theorem dX5_passing_22 : decode cX5_passing 22 = .ok (.iload_n 3, 1) := by decide +kernel
theorem dX5_passing_23 : decode cX5_passing 23 = .ok (.aload_n 0, 1) := by decide +kernel
theorem dX5_passing_24 : decode cX5_passing 24 = .ok (.getfield 22, 3) := by decide +kernel
theorem dX5_passing_27 : decode cX5_passing 27 = .ok (.iload 4, 2) := by decide +kernel
theorem dX5_passing_29 : decode cX5_passing 29 = .ok (.iaload, 1) := by decide +kernel
theorem dX5_passing_30 : decode cX5_passing 30 = .ok (.iload_n 2, 1) := by decide +kernel
theorem dX5_passing_31 : decode cX5_passing 31 = .ok (.if_icmp .lt 10, 3) := by decide +kernel
theorem dX5_passing_34 : decode cX5_passing 34 = .ok (.iconst 1, 1) := by decide +kernel
theorem dX5_passing_35 : decode cX5_passing 35 = .ok (.iload 4, 2) := by decide +kernel
theorem dX5_passing_37 : decode cX5_passing 37 = .ok (.ishl, 1) := by decide +kernel
theorem dX5_passing_38 : decode cX5_passing 38 = .ok (.goto 4, 3) := by decide +kernel
theorem dX5_passing_41 : decode cX5_passing 41 = .ok (.iconst 0, 1) := by decide +kernel
theorem dX5_passing_42 : decode cX5_passing 42 = .ok (.ior, 1) := by decide +kernel
theorem dX5_passing_43 : decode cX5_passing 43 = .ok (.istore_n 3, 1) := by decide +kernel
theorem dX5_passing_44 : decode cX5_passing 44 = .ok (.iinc 4 1, 3) := by decide +kernel
theorem dX5_passing_47 : decode cX5_passing 47 = .ok (.goto (-37), 3) := by decide +kernel
theorem dX5_passing_50 : decode cX5_passing 50 = .ok (.iload_n 3, 1) := by decide +kernel
theorem dX5_passing_51 : decode cX5_passing 51 = .ok (.ireturn, 1) := by decide +kernel
theorem dX5_ones_0 : decode cX5_ones 0 = .ok (.iconst 0, 1) := by decide +kernel
theorem dX5_ones_1 : decode cX5_ones 1 = .ok (.istore_n 1, 1) := by decide +kernel
theorem dX5_ones_2 : decode cX5_ones 2 = .ok (.iload_n 0, 1) := by decide +kernel
theorem dX5_ones_3 : decode cX5_ones 3 = .ok (.istore_n 2, 1) := by decide +kernel
theorem dX5_ones_4 : decode cX5_ones 4 = .ok (.iload_n 2, 1) := by decide +kernel
theorem dX5_ones_5 : decode cX5_ones 5 = .ok (.ifCond .eq 15, 3) := by decide +kernel
theorem dX5_ones_8 : decode cX5_ones 8 = .ok (.iinc 1 1, 3) := by decide +kernel
theorem dX5_ones_11 : decode cX5_ones 11 = .ok (.iload_n 2, 1) := by decide +kernel
theorem dX5_ones_12 : decode cX5_ones 12 = .ok (.iload_n 2, 1) := by decide +kernel
theorem dX5_ones_13 : decode cX5_ones 13 = .ok (.iconst 1, 1) := by decide +kernel
theorem dX5_ones_14 : decode cX5_ones 14 = .ok (.isub, 1) := by decide +kernel
theorem dX5_ones_15 : decode cX5_ones 15 = .ok (.iand, 1) := by decide +kernel
theorem dX5_ones_16 : decode cX5_ones 16 = .ok (.istore_n 2, 1) := by decide +kernel
theorem dX5_ones_17 : decode cX5_ones 17 = .ok (.goto (-13), 3) := by decide +kernel
theorem dX5_ones_20 : decode cX5_ones 20 = .ok (.iload_n 1, 1) := by decide +kernel
theorem dX5_ones_21 : decode cX5_ones 21 = .ok (.ireturn, 1) := by decide +kernel
theorem dX5_pass_0 : decode cX5_pass 0 = .ok (.aload_n 0, 1) := by decide +kernel
theorem dX5_pass_1 : decode cX5_pass 1 = .ok (.iload_n 1, 1) := by decide +kernel
theorem dX5_pass_2 : decode cX5_pass 2 = .ok (.invokevirtual 114, 3) := by decide +kernel
theorem dX5_pass_5 : decode cX5_pass 5 = .ok (.ifCond .eq 19, 3) := by decide +kernel
theorem dX5_pass_8 : decode cX5_pass 8 = .ok (.iload_n 2, 1) := by decide +kernel
theorem dX5_pass_9 : decode cX5_pass 9 = .ok (.invokestatic 152, 3) := by decide +kernel
theorem dX5_pass_12 : decode cX5_pass 12 = .ok (.ifCond .eq 12, 3) := by decide +kernel
theorem dX5_pass_15 : decode cX5_pass 15 = .ok (.aload_n 0, 1) := by decide +kernel
theorem dX5_pass_16 : decode cX5_pass 16 = .ok (.iload_n 1, 1) := by decide +kernel
theorem dX5_pass_17 : decode cX5_pass 17 = .ok (.iload_n 2, 1) := by decide +kernel
theorem dX5_pass_18 : decode cX5_pass 18 = .ok (.invokevirtual 155, 3) := by decide +kernel
theorem dX5_pass_21 : decode cX5_pass 21 = .ok (.goto 9, 3) := by decide +kernel
theorem dX5_pass_24 : decode cX5_pass 24 = .ok (.aload_n 0, 1) := by decide +kernel
theorem dX5_pass_25 : decode cX5_pass 25 = .ok (.ldc 40, 2) := by decide +kernel
theorem dX5_pass_27 : decode cX5_pass 27 = .ok (.invokevirtual 59, 3) := by decide +kernel
theorem dX5_pass_30 : decode cX5_pass 30 = .ok (.ireturn, 1) := by decide +kernel
theorem dX5_line_0 : decode cX5_line 0 = .ok (.aload_n 0, 1) := by decide +kernel
theorem dX5_line_1 : decode cX5_line 1 = .ok (.iload_n 1, 1) := by decide +kernel
theorem dX5_line_2 : decode cX5_line 2 = .ok (.invokevirtual 114, 3) := by decide +kernel
theorem dX5_line_5 : decode cX5_line 5 = .ok (.ifCond .eq 15, 3) := by decide +kernel
theorem dX5_line_8 : decode cX5_line 8 = .ok (.iload_n 2, 1) := by decide +kernel
theorem dX5_line_9 : decode cX5_line 9 = .ok (.i2l, 1) := by decide +kernel
theorem dX5_line_10 : decode cX5_line 10 = .ok (.lconst 0, 1) := by decide +kernel
theorem dX5_line_11 : decode cX5_line 11 = .ok (.ldc2_w 158, 3) := by decide +kernel
theorem dX5_line_14 : decode cX5_line 14 = .ok (.invokestatic 43, 3) := by decide +kernel
theorem dX5_line_17 : decode cX5_line 17 = .ok (.ifCond .ne 10, 3) := by decide +kernel
theorem dX5_line_20 : decode cX5_line 20 = .ok (.aload_n 0, 1) := by decide +kernel
theorem dX5_line_21 : decode cX5_line 21 = .ok (.ldc 40, 2) := by decide +kernel
theorem dX5_line_23 : decode cX5_line 23 = .ok (.invokevirtual 59, 3) := by decide +kernel
theorem dX5_line_26 : decode cX5_line 26 = .ok (.ireturn, 1) := by decide +kernel
theorem dX5_line_27 : decode cX5_line 27 = .ok (.sipush 400, 3) := by decide +kernel
theorem dX5_line_30 : decode cX5_line 30 = .ok (.istore_n 3, 1) := by decide +kernel
theorem dX5_line_31 : decode cX5_line 31 = .ok (.iload_n 3, 1) := by decide +kernel
theorem dX5_line_32 : decode cX5_line 32 = .ok (.ifCond .lt 24, 3) := by decide +kernel
theorem dX5_line_35 : decode cX5_line 35 = .ok (.aload_n 0, 1) := by decide +kernel
theorem dX5_line_36 : decode cX5_line 36 = .ok (.iload_n 1, 1) := by decide +kernel
theorem dX5_line_37 : decode cX5_line 37 = .ok (.iload_n 3, 1) := by decide +kernel
theorem dX5_line_38 : decode cX5_line 38 = .ok (.invokevirtual 155, 3) := by decide +kernel
theorem dX5_line_41 : decode cX5_line 41 = .ok (.invokestatic 160, 3) := by decide +kernel
theorem dX5_line_44 : decode cX5_line 44 = .ok (.iload_n 2, 1) := by decide +kernel
theorem dX5_line_45 : decode cX5_line 45 = .ok (.if_icmp .lt 5, 3) := by decide +kernel
theorem dX5_line_48 : decode cX5_line 48 = .ok (.iload_n 3, 1) := by decide +kernel
theorem dX5_line_49 : decode cX5_line 49 = .ok (.ireturn, 1) := by decide +kernel
theorem dX5_line_50 : decode cX5_line 50 = .ok (.iinc 3 (-1), 3) := by decide +kernel
theorem dX5_line_53 : decode cX5_line 53 = .ok (.goto (-22), 3) := by decide +kernel
theorem dX5_line_56 : decode cX5_line 56 = .ok (.aload_n 0, 1) := by decide +kernel
theorem dX5_line_57 : decode cX5_line 57 = .ok (.ldc 89, 2) := by decide +kernel
theorem dX5_line_59 : decode cX5_line 59 = .ok (.invokevirtual 59, 3) := by decide +kernel
theorem dX5_line_62 : decode cX5_line 62 = .ok (.ireturn, 1) := by decide +kernel
theorem dX5_between_0 : decode cX5_between 0 = .ok (.aload_n 0, 1) := by decide +kernel
theorem dX5_between_1 : decode cX5_between 1 = .ok (.iload_n 1, 1) := by decide +kernel
theorem dX5_between_2 : decode cX5_between 2 = .ok (.invokevirtual 135, 3) := by decide +kernel
theorem dX5_between_5 : decode cX5_between 5 = .ok (.iconst 0, 1) := by decide +kernel
theorem dX5_between_6 : decode cX5_between 6 = .ok (.istore 4, 2) := by decide +kernel
theorem dX5_between_8 : decode cX5_between 8 = .ok (.iconst 0, 1) := by decide +kernel
theorem dX5_between_9 : decode cX5_between 9 = .ok (.istore 5, 2) := by decide +kernel
theorem dX5_between_11 : decode cX5_between 11 = .ok (.iload 5, 2) := by decide +kernel
theorem dX5_between_13 : decode cX5_between 13 = .ok (.aload_n 0, 1) := by decide +kernel
theorem dX5_between_14 : decode cX5_between 14 = .ok (.getfield 7, 3) := by decide +kernel
theorem dX5_between_17 : decode cX5_between 17 = .ok (.bipush 17, 2) := by decide +kernel
theorem dX5_between_19 : decode cX5_between 19 = .ok (.iaload, 1) := by decide +kernel
theorem dX5_between_20 : decode cX5_between 20 = .ok (.if_icmp .ge 37, 3) := by decide +kernel
theorem dX5_between_23 : decode cX5_between 23 = .ok (.iload 4, 2) := by decide +kernel
theorem dX5_between_25 : decode cX5_between 25 = .ok (.aload_n 0, 1) := by decide +kernel
theorem dX5_between_26 : decode cX5_between 26 = .ok (.getfield 22, 3) := by decide +kernel
theorem dX5_between_29 : decode cX5_between 29 = .ok (.iload 5, 2) := by decide +kernel
theorem dX5_between_31 : decode cX5_between 31 = .ok (.iaload, 1) := by decide +kernel
theorem dX5_between_32 : decode cX5_between 32 = .ok (.i2l, 1) := by decide +kernel
theorem dX5_between_33 : decode cX5_between 33 = .ok (.iload_n 2, 1) := by decide +kernel
theorem dX5_between_34 : decode cX5_between 34 = .ok (.i2l, 1) := by decide +kernel
theorem dX5_between_35 : decode cX5_between 35 = .ok (.iload_n 3, 1) := by decide +kernel
theorem dX5_between_36 : decode cX5_between 36 = .ok (.i2l, 1) := by decide +kernel
theorem dX5_between_37 : decode cX5_between 37 = .ok (.invokestatic 43, 3) := by decide +kernel
theorem dX5_between_40 : decode cX5_between 40 = .ok (.ifCond .eq 7, 3) := by decide +kernel
theorem dX5_between_43 : decode cX5_between 43 = .ok (.iconst 1, 1) := by decide +kernel
theorem dX5_between_44 : decode cX5_between 44 = .ok (.goto 4, 3) := by decide +kernel
theorem dX5_between_47 : decode cX5_between 47 = .ok (.iconst 0, 1) := by decide +kernel
theorem dX5_between_48 : decode cX5_between 48 = .ok (.iadd, 1) := by decide +kernel
theorem dX5_between_49 : decode cX5_between 49 = .ok (.istore 4, 2) := by decide +kernel
theorem dX5_between_51 : decode cX5_between 51 = .ok (.iinc 5 1, 3) := by decide +kernel
theorem dX5_between_54 : decode cX5_between 54 = .ok (.goto (-43), 3) := by decide +kernel
theorem dX5_between_57 : decode cX5_between 57 = .ok (.iload 4, 2) := by decide +kernel
theorem dX5_between_59 : decode cX5_between 59 = .ok (.ireturn, 1) := by decide +kernel
theorem dX5_heap_0 : decode cX5_heap 0 = .ok (.aload_n 0, 1) := by decide +kernel
theorem dX5_heap_1 : decode cX5_heap 1 = .ok (.iload_n 1, 1) := by decide +kernel
theorem dX5_heap_2 : decode cX5_heap 2 = .ok (.invokevirtual 114, 3) := by decide +kernel
theorem dX5_heap_5 : decode cX5_heap 5 = .ok (.ifCond .eq 10, 3) := by decide +kernel
theorem dX5_heap_8 : decode cX5_heap 8 = .ok (.iload_n 2, 1) := by decide +kernel
theorem dX5_heap_9 : decode cX5_heap 9 = .ok (.invokestatic 152, 3) := by decide +kernel
theorem dX5_heap_12 : decode cX5_heap 12 = .ok (.ifCond .ne 10, 3) := by decide +kernel
theorem dX5_heap_15 : decode cX5_heap 15 = .ok (.aload_n 0, 1) := by decide +kernel
theorem dX5_heap_16 : decode cX5_heap 16 = .ok (.ldc 40, 2) := by decide +kernel
theorem dX5_heap_18 : decode cX5_heap 18 = .ok (.invokevirtual 59, 3) := by decide +kernel
theorem dX5_heap_21 : decode cX5_heap 21 = .ok (.ireturn, 1) := by decide +kernel
theorem dX5_heap_22 : decode cX5_heap 22 = .ok (.aload_n 0, 1) := by decide +kernel
theorem dX5_heap_23 : decode cX5_heap 23 = .ok (.iload_n 1, 1) := by decide +kernel
theorem dX5_heap_24 : decode cX5_heap 24 = .ok (.iload_n 2, 1) := by decide +kernel
theorem dX5_heap_25 : decode cX5_heap 25 = .ok (.iload_n 2, 1) := by decide +kernel
theorem dX5_heap_26 : decode cX5_heap 26 = .ok (.iconst 2, 1) := by decide +kernel
theorem dX5_heap_27 : decode cX5_heap 27 = .ok (.iadd, 1) := by decide +kernel
theorem dX5_heap_28 : decode cX5_heap 28 = .ok (.invokevirtual 163, 3) := by decide +kernel
theorem dX5_heap_31 : decode cX5_heap 31 = .ok (.aload_n 0, 1) := by decide +kernel
theorem dX5_heap_32 : decode cX5_heap 32 = .ok (.iload_n 1, 1) := by decide +kernel
theorem dX5_heap_33 : decode cX5_heap 33 = .ok (.iload_n 2, 1) := by decide +kernel
theorem dX5_heap_34 : decode cX5_heap 34 = .ok (.iconst 3, 1) := by decide +kernel
theorem dX5_heap_35 : decode cX5_heap 35 = .ok (.isub, 1) := by decide +kernel
theorem dX5_heap_36 : decode cX5_heap 36 = .ok (.iload_n 2, 1) := by decide +kernel
theorem dX5_heap_37 : decode cX5_heap 37 = .ok (.iconst 1, 1) := by decide +kernel
theorem dX5_heap_38 : decode cX5_heap 38 = .ok (.isub, 1) := by decide +kernel
theorem dX5_heap_39 : decode cX5_heap 39 = .ok (.invokevirtual 163, 3) := by decide +kernel
theorem dX5_heap_42 : decode cX5_heap 42 = .ok (.isub, 1) := by decide +kernel
theorem dX5_heap_43 : decode cX5_heap 43 = .ok (.ireturn, 1) := by decide +kernel
theorem dX5_kindest_0 : decode cX5_kindest 0 = .ok (.iload_n 1, 1) := by decide +kernel
theorem dX5_kindest_1 : decode cX5_kindest 1 = .ok (.invokestatic 152, 3) := by decide +kernel
theorem dX5_kindest_4 : decode cX5_kindest 4 = .ok (.ifCond .ne 10, 3) := by decide +kernel
theorem dX5_kindest_7 : decode cX5_kindest 7 = .ok (.aload_n 0, 1) := by decide +kernel
theorem dX5_kindest_8 : decode cX5_kindest 8 = .ok (.ldc 40, 2) := by decide +kernel
theorem dX5_kindest_10 : decode cX5_kindest 10 = .ok (.invokevirtual 59, 3) := by decide +kernel
theorem dX5_kindest_13 : decode cX5_kindest 13 = .ok (.ireturn, 1) := by decide +kernel
theorem dX5_kindest_14 : decode cX5_kindest 14 = .ok (.iconst (-1), 1) := by decide +kernel
theorem dX5_kindest_15 : decode cX5_kindest 15 = .ok (.istore_n 2, 1) := by decide +kernel
theorem dX5_kindest_16 : decode cX5_kindest 16 = .ok (.iconst (-1), 1) := by decide +kernel
theorem dX5_kindest_17 : decode cX5_kindest 17 = .ok (.istore_n 3, 1) := by decide +kernel
theorem dX5_kindest_18 : decode cX5_kindest 18 = .ok (.iconst 0, 1) := by decide +kernel
theorem dX5_kindest_19 : decode cX5_kindest 19 = .ok (.istore 4, 2) := by decide +kernel
theorem dX5_kindest_21 : decode cX5_kindest 21 = .ok (.iload 4, 2) := by decide +kernel
theorem dX5_kindest_23 : decode cX5_kindest 23 = .ok (.aload_n 0, 1) := by decide +kernel
theorem dX5_kindest_24 : decode cX5_kindest 24 = .ok (.getfield 7, 3) := by decide +kernel
theorem dX5_kindest_27 : decode cX5_kindest 27 = .ok (.bipush 18, 2) := by decide +kernel
theorem dX5_kindest_29 : decode cX5_kindest 29 = .ok (.iaload, 1) := by decide +kernel
theorem dX5_kindest_30 : decode cX5_kindest 30 = .ok (.if_icmp .ge 33, 3) := by decide +kernel
theorem dX5_kindest_33 : decode cX5_kindest 33 = .ok (.aload_n 0, 1) := by decide +kernel
theorem dX5_kindest_34 : decode cX5_kindest 34 = .ok (.iload 4, 2) := by decide +kernel
theorem dX5_kindest_36 : decode cX5_kindest 36 = .ok (.iload_n 1, 1) := by decide +kernel
theorem dX5_kindest_37 : decode cX5_kindest 37 = .ok (.invokevirtual 155, 3) := by decide +kernel
theorem dX5_kindest_40 : decode cX5_kindest 40 = .ok (.invokestatic 160, 3) := by decide +kernel
theorem dX5_kindest_43 : decode cX5_kindest 43 = .ok (.istore 5, 2) := by decide +kernel
theorem dX5_kindest_45 : decode cX5_kindest 45 = .ok (.iload 5, 2) := by decide +kernel
theorem dX5_kindest_47 : decode cX5_kindest 47 = .ok (.iload_n 3, 1) := by decide +kernel
theorem dX5_kindest_48 : decode cX5_kindest 48 = .ok (.if_icmp .le 9, 3) := by decide +kernel
theorem dX5_kindest_51 : decode cX5_kindest 51 = .ok (.iload 4, 2) := by decide +kernel
theorem dX5_kindest_53 : decode cX5_kindest 53 = .ok (.istore_n 2, 1) := by decide +kernel
theorem dX5_kindest_54 : decode cX5_kindest 54 = .ok (.iload 5, 2) := by decide +kernel
theorem dX5_kindest_56 : decode cX5_kindest 56 = .ok (.istore_n 3, 1) := by decide +kernel
theorem dX5_kindest_57 : decode cX5_kindest 57 = .ok (.iinc 4 1, 3) := by decide +kernel
theorem dX5_kindest_60 : decode cX5_kindest 60 = .ok (.goto (-39), 3) := by decide +kernel
theorem dX5_kindest_63 : decode cX5_kindest 63 = .ok (.iload_n 2, 1) := by decide +kernel
theorem dX5_kindest_64 : decode cX5_kindest 64 = .ok (.ifCond .ge 12, 3) := by decide +kernel
theorem dX5_kindest_67 : decode cX5_kindest 67 = .ok (.aload_n 0, 1) := by decide +kernel
theorem dX5_kindest_68 : decode cX5_kindest 68 = .ok (.ldc 89, 2) := by decide +kernel
theorem dX5_kindest_70 : decode cX5_kindest 70 = .ok (.invokevirtual 59, 3) := by decide +kernel
theorem dX5_kindest_73 : decode cX5_kindest 73 = .ok (.goto 4, 3) := by decide +kernel
theorem dX5_kindest_76 : decode cX5_kindest 76 = .ok (.iload_n 2, 1) := by decide +kernel
theorem dX5_kindest_77 : decode cX5_kindest 77 = .ok (.ireturn, 1) := by decide +kernel
theorem dX5_byFor_0 : decode cX5_byFor 0 = .ok (.aload_n 0, 1) := by decide +kernel
theorem dX5_byFor_1 : decode cX5_byFor 1 = .ok (.iload_n 1, 1) := by decide +kernel
theorem dX5_byFor_2 : decode cX5_byFor 2 = .ok (.invokevirtual 114, 3) := by decide +kernel
theorem dX5_byFor_5 : decode cX5_byFor 5 = .ok (.ifCond .eq 10, 3) := by decide +kernel
theorem dX5_byFor_8 : decode cX5_byFor 8 = .ok (.iload_n 2, 1) := by decide +kernel
theorem dX5_byFor_9 : decode cX5_byFor 9 = .ok (.invokestatic 152, 3) := by decide +kernel
theorem dX5_byFor_12 : decode cX5_byFor 12 = .ok (.ifCond .ne 10, 3) := by decide +kernel
theorem dX5_byFor_15 : decode cX5_byFor 15 = .ok (.aload_n 0, 1) := by decide +kernel
theorem dX5_byFor_16 : decode cX5_byFor 16 = .ok (.ldc 40, 2) := by decide +kernel
theorem dX5_byFor_18 : decode cX5_byFor 18 = .ok (.invokevirtual 59, 3) := by decide +kernel
theorem dX5_byFor_21 : decode cX5_byFor 21 = .ok (.ireturn, 1) := by decide +kernel
theorem dX5_byFor_22 : decode cX5_byFor 22 = .ok (.aload_n 0, 1) := by decide +kernel
theorem dX5_byFor_23 : decode cX5_byFor 23 = .ok (.getfield 7, 3) := by decide +kernel
theorem dX5_byFor_26 : decode cX5_byFor 26 = .ok (.sipush 223, 3) := by decide +kernel
theorem dX5_byFor_29 : decode cX5_byFor 29 = .ok (.iconst 2, 1) := by decide +kernel
theorem dX5_byFor_30 : decode cX5_byFor 30 = .ok (.iload_n 1, 1) := by decide +kernel
theorem dX5_byFor_31 : decode cX5_byFor 31 = .ok (.imul, 1) := by decide +kernel
theorem dX5_byFor_32 : decode cX5_byFor 32 = .ok (.iadd, 1) := by decide +kernel
theorem dX5_byFor_33 : decode cX5_byFor 33 = .ok (.iconst 1, 1) := by decide +kernel
theorem dX5_byFor_34 : decode cX5_byFor 34 = .ok (.iadd, 1) := by decide +kernel
theorem dX5_byFor_35 : decode cX5_byFor 35 = .ok (.iaload, 1) := by decide +kernel
theorem dX5_byFor_36 : decode cX5_byFor 36 = .ok (.istore_n 3, 1) := by decide +kernel
theorem dX5_byFor_37 : decode cX5_byFor 37 = .ok (.iconst (-1), 1) := by decide +kernel
theorem dX5_byFor_38 : decode cX5_byFor 38 = .ok (.istore 4, 2) := by decide +kernel
theorem dX5_byFor_40 : decode cX5_byFor 40 = .ok (.bipush 100, 2) := by decide +kernel
theorem dX5_byFor_42 : decode cX5_byFor 42 = .ok (.istore 5, 2) := by decide +kernel
theorem dX5_byFor_44 : decode cX5_byFor 44 = .ok (.iload 5, 2) := by decide +kernel
theorem dX5_byFor_46 : decode cX5_byFor 46 = .ok (.ifCond .lt 53, 3) := by decide +kernel
theorem dX5_byFor_49 : decode cX5_byFor 49 = .ok (.aload_n 0, 1) := by decide +kernel
theorem dX5_byFor_50 : decode cX5_byFor 50 = .ok (.getfield 7, 3) := by decide +kernel
theorem dX5_byFor_53 : decode cX5_byFor 53 = .ok (.sipush 223, 3) := by decide +kernel
theorem dX5_byFor_56 : decode cX5_byFor 56 = .ok (.iconst 2, 1) := by decide +kernel
theorem dX5_byFor_57 : decode cX5_byFor 57 = .ok (.iload_n 1, 1) := by decide +kernel
theorem dX5_byFor_58 : decode cX5_byFor 58 = .ok (.imul, 1) := by decide +kernel
theorem dX5_byFor_59 : decode cX5_byFor 59 = .ok (.iadd, 1) := by decide +kernel
theorem dX5_byFor_60 : decode cX5_byFor 60 = .ok (.iconst 1, 1) := by decide +kernel
theorem dX5_byFor_61 : decode cX5_byFor 61 = .ok (.iadd, 1) := by decide +kernel
theorem dX5_byFor_62 : decode cX5_byFor 62 = .ok (.iload 5, 2) := by decide +kernel
theorem dX5_byFor_64 : decode cX5_byFor 64 = .ok (.iastore, 1) := by decide +kernel
theorem dX5_byFor_65 : decode cX5_byFor 65 = .ok (.aload_n 0, 1) := by decide +kernel
theorem dX5_byFor_66 : decode cX5_byFor 66 = .ok (.iload_n 1, 1) := by decide +kernel
theorem dX5_byFor_67 : decode cX5_byFor 67 = .ok (.iload_n 2, 1) := by decide +kernel
theorem dX5_byFor_68 : decode cX5_byFor 68 = .ok (.invokevirtual 155, 3) := by decide +kernel
theorem dX5_byFor_71 : decode cX5_byFor 71 = .ok (.invokestatic 160, 3) := by decide +kernel
theorem dX5_byFor_74 : decode cX5_byFor 74 = .ok (.aload_n 0, 1) := by decide +kernel
theorem dX5_byFor_75 : decode cX5_byFor 75 = .ok (.getfield 7, 3) := by decide +kernel
theorem dX5_byFor_78 : decode cX5_byFor 78 = .ok (.bipush 17, 2) := by decide +kernel
theorem dX5_byFor_80 : decode cX5_byFor 80 = .ok (.iaload, 1) := by decide +kernel
theorem dX5_byFor_81 : decode cX5_byFor 81 = .ok (.if_icmp .ne 8, 3) := by decide +kernel
theorem dX5_byFor_84 : decode cX5_byFor 84 = .ok (.iload 5, 2) := by decide +kernel
theorem dX5_byFor_86 : decode cX5_byFor 86 = .ok (.goto 5, 3) := by decide +kernel
theorem dX5_byFor_89 : decode cX5_byFor 89 = .ok (.iload 4, 2) := by decide +kernel
theorem dX5_byFor_91 : decode cX5_byFor 91 = .ok (.istore 4, 2) := by decide +kernel
theorem dX5_byFor_93 : decode cX5_byFor 93 = .ok (.iinc 5 (-1), 3) := by decide +kernel
theorem dX5_byFor_96 : decode cX5_byFor 96 = .ok (.goto (-52), 3) := by decide +kernel
theorem dX5_byFor_99 : decode cX5_byFor 99 = .ok (.aload_n 0, 1) := by decide +kernel
theorem dX5_byFor_100 : decode cX5_byFor 100 = .ok (.getfield 7, 3) := by decide +kernel
theorem dX5_byFor_103 : decode cX5_byFor 103 = .ok (.sipush 223, 3) := by decide +kernel
theorem dX5_byFor_106 : decode cX5_byFor 106 = .ok (.iconst 2, 1) := by decide +kernel
theorem dX5_byFor_107 : decode cX5_byFor 107 = .ok (.iload_n 1, 1) := by decide +kernel
theorem dX5_byFor_108 : decode cX5_byFor 108 = .ok (.imul, 1) := by decide +kernel
theorem dX5_byFor_109 : decode cX5_byFor 109 = .ok (.iadd, 1) := by decide +kernel
theorem dX5_byFor_110 : decode cX5_byFor 110 = .ok (.iconst 1, 1) := by decide +kernel
theorem dX5_byFor_111 : decode cX5_byFor 111 = .ok (.iadd, 1) := by decide +kernel
theorem dX5_byFor_112 : decode cX5_byFor 112 = .ok (.iload_n 3, 1) := by decide +kernel
theorem dX5_byFor_113 : decode cX5_byFor 113 = .ok (.iastore, 1) := by decide +kernel
theorem dX5_byFor_114 : decode cX5_byFor 114 = .ok (.iload 4, 2) := by decide +kernel
theorem dX5_byFor_116 : decode cX5_byFor 116 = .ok (.ifCond .ge 12, 3) := by decide +kernel
theorem dX5_byFor_119 : decode cX5_byFor 119 = .ok (.aload_n 0, 1) := by decide +kernel
theorem dX5_byFor_120 : decode cX5_byFor 120 = .ok (.ldc 89, 2) := by decide +kernel
theorem dX5_byFor_122 : decode cX5_byFor 122 = .ok (.invokevirtual 59, 3) := by decide +kernel
theorem dX5_byFor_125 : decode cX5_byFor 125 = .ok (.goto 5, 3) := by decide +kernel
theorem dX5_byFor_128 : decode cX5_byFor 128 = .ok (.iload 4, 2) := by decide +kernel
theorem dX5_byFor_130 : decode cX5_byFor 130 = .ok (.ireturn, 1) := by decide +kernel
end
section
theorem dX5_letters_0 : decode cX5_letters 0 = .ok (.aload_n 0, 1) := by decide +kernel
theorem dX5_letters_1 : decode cX5_letters 1 = .ok (.iload_n 1, 1) := by decide +kernel
theorem dX5_letters_2 : decode cX5_letters 2 = .ok (.invokevirtual 114, 3) := by decide +kernel
theorem dX5_letters_5 : decode cX5_letters 5 = .ok (.ifCond .eq 32, 3) := by decide +kernel
theorem dX5_letters_8 : decode cX5_letters 8 = .ok (.iload_n 2, 1) := by decide +kernel
theorem dX5_letters_9 : decode cX5_letters 9 = .ok (.invokestatic 152, 3) := by decide +kernel
theorem dX5_letters_12 : decode cX5_letters 12 = .ok (.ifCond .eq 25, 3) := by decide +kernel
theorem dX5_letters_15 : decode cX5_letters 15 = .ok (.iload_n 3, 1) := by decide +kernel
theorem dX5_letters_16 : decode cX5_letters 16 = .ok (.invokestatic 152, 3) := by decide +kernel
theorem dX5_letters_19 : decode cX5_letters 19 = .ok (.ifCond .eq 18, 3) := by decide +kernel
theorem dX5_letters_22 : decode cX5_letters 22 = .ok (.iload_n 2, 1) := by decide +kernel
theorem dX5_letters_23 : decode cX5_letters 23 = .ok (.iload_n 3, 1) := by decide +kernel
theorem dX5_letters_24 : decode cX5_letters 24 = .ok (.if_icmp .gt 13, 3) := by decide +kernel
theorem dX5_letters_27 : decode cX5_letters 27 = .ok (.aload_n 0, 1) := by decide +kernel
theorem dX5_letters_28 : decode cX5_letters 28 = .ok (.iload_n 1, 1) := by decide +kernel
theorem dX5_letters_29 : decode cX5_letters 29 = .ok (.iload_n 2, 1) := by decide +kernel
theorem dX5_letters_30 : decode cX5_letters 30 = .ok (.iload_n 3, 1) := by decide +kernel
theorem dX5_letters_31 : decode cX5_letters 31 = .ok (.invokevirtual 163, 3) := by decide +kernel
theorem dX5_letters_34 : decode cX5_letters 34 = .ok (.goto 9, 3) := by decide +kernel
theorem dX5_letters_37 : decode cX5_letters 37 = .ok (.aload_n 0, 1) := by decide +kernel
theorem dX5_letters_38 : decode cX5_letters 38 = .ok (.ldc 40, 2) := by decide +kernel
theorem dX5_letters_40 : decode cX5_letters 40 = .ok (.invokevirtual 59, 3) := by decide +kernel
theorem dX5_letters_43 : decode cX5_letters 43 = .ok (.ireturn, 1) := by decide +kernel
theorem dX5_apart_0 : decode cX5_apart 0 = .ok (.aload_n 0, 1) := by decide +kernel
theorem dX5_apart_1 : decode cX5_apart 1 = .ok (.getfield 7, 3) := by decide +kernel
theorem dX5_apart_4 : decode cX5_apart 4 = .ok (.iload_n 1, 1) := by decide +kernel
theorem dX5_apart_5 : decode cX5_apart 5 = .ok (.iconst 1, 1) := by decide +kernel
theorem dX5_apart_6 : decode cX5_apart 6 = .ok (.iload_n 2, 1) := by decide +kernel
theorem dX5_apart_7 : decode cX5_apart 7 = .ok (.invokestatic 49, 3) := by decide +kernel
theorem dX5_apart_10 : decode cX5_apart 10 = .ok (.iaload, 1) := by decide +kernel
theorem dX5_apart_11 : decode cX5_apart 11 = .ok (.aload_n 0, 1) := by decide +kernel
theorem dX5_apart_12 : decode cX5_apart 12 = .ok (.getfield 7, 3) := by decide +kernel
theorem dX5_apart_15 : decode cX5_apart 15 = .ok (.iload_n 1, 1) := by decide +kernel
theorem dX5_apart_16 : decode cX5_apart 16 = .ok (.iconst 0, 1) := by decide +kernel
theorem dX5_apart_17 : decode cX5_apart 17 = .ok (.iload_n 2, 1) := by decide +kernel
theorem dX5_apart_18 : decode cX5_apart 18 = .ok (.invokestatic 49, 3) := by decide +kernel
theorem dX5_apart_21 : decode cX5_apart 21 = .ok (.iaload, 1) := by decide +kernel
theorem dX5_apart_22 : decode cX5_apart 22 = .ok (.isub, 1) := by decide +kernel
theorem dX5_apart_23 : decode cX5_apart 23 = .ok (.ireturn, 1) := by decide +kernel
theorem dX5_size_0 : decode cX5_size 0 = .ok (.iload_n 0, 1) := by decide +kernel
theorem dX5_size_1 : decode cX5_size 1 = .ok (.ifCond .ge 9, 3) := by decide +kernel
theorem dX5_size_4 : decode cX5_size 4 = .ok (.iconst 0, 1) := by decide +kernel
theorem dX5_size_5 : decode cX5_size 5 = .ok (.iload_n 0, 1) := by decide +kernel
theorem dX5_size_6 : decode cX5_size 6 = .ok (.isub, 1) := by decide +kernel
theorem dX5_size_7 : decode cX5_size 7 = .ok (.goto 4, 3) := by decide +kernel
theorem dX5_size_10 : decode cX5_size 10 = .ok (.iload_n 0, 1) := by decide +kernel
theorem dX5_size_11 : decode cX5_size 11 = .ok (.ireturn, 1) := by decide +kernel
theorem dX5_lean_0 : decode cX5_lean 0 = .ok (.iconst 0, 1) := by decide +kernel
theorem dX5_lean_1 : decode cX5_lean 1 = .ok (.istore_n 1, 1) := by decide +kernel
theorem dX5_lean_2 : decode cX5_lean 2 = .ok (.iconst 0, 1) := by decide +kernel
theorem dX5_lean_3 : decode cX5_lean 3 = .ok (.istore_n 2, 1) := by decide +kernel
theorem dX5_lean_4 : decode cX5_lean 4 = .ok (.iload_n 2, 1) := by decide +kernel
theorem dX5_lean_5 : decode cX5_lean 5 = .ok (.aload_n 0, 1) := by decide +kernel
theorem dX5_lean_6 : decode cX5_lean 6 = .ok (.getfield 7, 3) := by decide +kernel
theorem dX5_lean_9 : decode cX5_lean 9 = .ok (.bipush 17, 2) := by decide +kernel
theorem dX5_lean_11 : decode cX5_lean 11 = .ok (.iaload, 1) := by decide +kernel
theorem dX5_lean_12 : decode cX5_lean 12 = .ok (.if_icmp .ge 32, 3) := by decide +kernel
theorem dX5_lean_15 : decode cX5_lean 15 = .ok (.iconst 0, 1) := by decide +kernel
theorem dX5_lean_16 : decode cX5_lean 16 = .ok (.istore_n 3, 1) := by decide +kernel
theorem dX5_lean_17 : decode cX5_lean 17 = .ok (.iload_n 3, 1) := by decide +kernel
theorem dX5_lean_18 : decode cX5_lean 18 = .ok (.bipush 8, 2) := by decide +kernel
theorem dX5_lean_20 : decode cX5_lean 20 = .ok (.if_icmp .ge 18, 3) := by decide +kernel
theorem dX5_lean_23 : decode cX5_lean 23 = .ok (.iload_n 1, 1) := by decide +kernel
theorem dX5_lean_24 : decode cX5_lean 24 = .ok (.aload_n 0, 1) := by decide +kernel
theorem dX5_lean_25 : decode cX5_lean 25 = .ok (.iload_n 2, 1) := by decide +kernel
theorem dX5_lean_26 : decode cX5_lean 26 = .ok (.iload_n 3, 1) := by decide +kernel
theorem dX5_lean_27 : decode cX5_lean 27 = .ok (.invokevirtual 166, 3) := by decide +kernel
theorem dX5_lean_30 : decode cX5_lean 30 = .ok (.iadd, 1) := by decide +kernel
theorem dX5_lean_31 : decode cX5_lean 31 = .ok (.istore_n 1, 1) := by decide +kernel
theorem dX5_lean_32 : decode cX5_lean 32 = .ok (.iinc 3 1, 3) := by decide +kernel
theorem dX5_lean_35 : decode cX5_lean 35 = .ok (.goto (-18), 3) := by decide +kernel
theorem dX5_lean_38 : decode cX5_lean 38 = .ok (.iinc 2 1, 3) := by decide +kernel
theorem dX5_lean_41 : decode cX5_lean 41 = .ok (.goto (-37), 3) := by decide +kernel
theorem dX5_lean_44 : decode cX5_lean 44 = .ok (.aload_n 0, 1) := by decide +kernel
theorem dX5_lean_45 : decode cX5_lean 45 = .ok (.getfield 7, 3) := by decide +kernel
theorem dX5_lean_48 : decode cX5_lean 48 = .ok (.bipush 17, 2) := by decide +kernel
theorem dX5_lean_50 : decode cX5_lean 50 = .ok (.iaload, 1) := by decide +kernel
theorem dX5_lean_51 : decode cX5_lean 51 = .ok (.ifCond .ne 7, 3) := by decide +kernel
theorem dX5_lean_54 : decode cX5_lean 54 = .ok (.iconst 0, 1) := by decide +kernel
theorem dX5_lean_55 : decode cX5_lean 55 = .ok (.goto 15, 3) := by decide +kernel
theorem dX5_lean_58 : decode cX5_lean 58 = .ok (.bipush 100, 2) := by decide +kernel
theorem dX5_lean_60 : decode cX5_lean 60 = .ok (.iload_n 1, 1) := by decide +kernel
theorem dX5_lean_61 : decode cX5_lean 61 = .ok (.imul, 1) := by decide +kernel
theorem dX5_lean_62 : decode cX5_lean 62 = .ok (.aload_n 0, 1) := by decide +kernel
theorem dX5_lean_63 : decode cX5_lean 63 = .ok (.getfield 7, 3) := by decide +kernel
theorem dX5_lean_66 : decode cX5_lean 66 = .ok (.bipush 17, 2) := by decide +kernel
theorem dX5_lean_68 : decode cX5_lean 68 = .ok (.iaload, 1) := by decide +kernel
theorem dX5_lean_69 : decode cX5_lean 69 = .ok (.idiv, 1) := by decide +kernel
theorem dX5_lean_70 : decode cX5_lean 70 = .ok (.ireturn, 1) := by decide +kernel
theorem dX5_right_0 : decode cX5_right 0 = .ok (.iload_n 1, 1) := by decide +kernel
theorem dX5_right_1 : decode cX5_right 1 = .ok (.i2l, 1) := by decide +kernel
theorem dX5_right_2 : decode cX5_right 2 = .ok (.lconst 1, 1) := by decide +kernel
theorem dX5_right_3 : decode cX5_right 3 = .ok (.ldc2_w 57, 3) := by decide +kernel
theorem dX5_right_6 : decode cX5_right 6 = .ok (.invokestatic 43, 3) := by decide +kernel
theorem dX5_right_9 : decode cX5_right 9 = .ok (.ifCond .ne 10, 3) := by decide +kernel
theorem dX5_right_12 : decode cX5_right 12 = .ok (.aload_n 0, 1) := by decide +kernel
theorem dX5_right_13 : decode cX5_right 13 = .ok (.ldc 40, 2) := by decide +kernel
theorem dX5_right_15 : decode cX5_right 15 = .ok (.invokevirtual 59, 3) := by decide +kernel
theorem dX5_right_18 : decode cX5_right 18 = .ok (.ireturn, 1) := by decide +kernel
theorem dX5_right_19 : decode cX5_right 19 = .ok (.iconst 0, 1) := by decide +kernel
theorem dX5_right_20 : decode cX5_right 20 = .ok (.istore_n 2, 1) := by decide +kernel
theorem dX5_right_21 : decode cX5_right 21 = .ok (.iconst 0, 1) := by decide +kernel
theorem dX5_right_22 : decode cX5_right 22 = .ok (.istore_n 3, 1) := by decide +kernel
theorem dX5_right_23 : decode cX5_right 23 = .ok (.iload_n 3, 1) := by decide +kernel
theorem dX5_right_24 : decode cX5_right 24 = .ok (.aload_n 0, 1) := by decide +kernel
theorem dX5_right_25 : decode cX5_right 25 = .ok (.getfield 7, 3) := by decide +kernel
theorem dX5_right_28 : decode cX5_right 28 = .ok (.bipush 17, 2) := by decide +kernel
theorem dX5_right_30 : decode cX5_right 30 = .ok (.iaload, 1) := by decide +kernel
theorem dX5_right_31 : decode cX5_right 31 = .ok (.if_icmp .ge 66, 3) := by decide +kernel
theorem dX5_right_34 : decode cX5_right 34 = .ok (.iconst 0, 1) := by decide +kernel
theorem dX5_right_35 : decode cX5_right 35 = .ok (.istore 4, 2) := by decide +kernel
theorem dX5_right_37 : decode cX5_right 37 = .ok (.iload 4, 2) := by decide +kernel
theorem dX5_right_39 : decode cX5_right 39 = .ok (.bipush 8, 2) := by decide +kernel
theorem dX5_right_41 : decode cX5_right 41 = .ok (.if_icmp .ge 50, 3) := by decide +kernel
theorem dX5_right_44 : decode cX5_right 44 = .ok (.aload_n 0, 1) := by decide +kernel
theorem dX5_right_45 : decode cX5_right 45 = .ok (.iload_n 3, 1) := by decide +kernel
theorem dX5_right_46 : decode cX5_right 46 = .ok (.iload 4, 2) := by decide +kernel
theorem dX5_right_48 : decode cX5_right 48 = .ok (.invokevirtual 166, 3) := by decide +kernel
theorem dX5_right_51 : decode cX5_right 51 = .ok (.invokestatic 169, 3) := by decide +kernel
theorem dX5_right_54 : decode cX5_right 54 = .ok (.iload_n 1, 1) := by decide +kernel
theorem dX5_right_55 : decode cX5_right 55 = .ok (.if_icmp .lt 30, 3) := by decide +kernel
theorem dX5_right_58 : decode cX5_right 58 = .ok (.aload_n 0, 1) := by decide +kernel
theorem dX5_right_59 : decode cX5_right 59 = .ok (.getfield 7, 3) := by decide +kernel
theorem dX5_right_62 : decode cX5_right 62 = .ok (.iload_n 3, 1) := by decide +kernel
theorem dX5_right_63 : decode cX5_right 63 = .ok (.iconst 1, 1) := by decide +kernel
theorem dX5_right_64 : decode cX5_right 64 = .ok (.iload 4, 2) := by decide +kernel
theorem dX5_right_66 : decode cX5_right 66 = .ok (.invokestatic 49, 3) := by decide +kernel
theorem dX5_right_69 : decode cX5_right 69 = .ok (.aload_n 0, 1) := by decide +kernel
theorem dX5_right_70 : decode cX5_right 70 = .ok (.getfield 7, 3) := by decide +kernel
theorem dX5_right_73 : decode cX5_right 73 = .ok (.iload_n 3, 1) := by decide +kernel
theorem dX5_right_74 : decode cX5_right 74 = .ok (.iconst 0, 1) := by decide +kernel
theorem dX5_right_75 : decode cX5_right 75 = .ok (.iload 4, 2) := by decide +kernel
theorem dX5_right_77 : decode cX5_right 77 = .ok (.invokestatic 49, 3) := by decide +kernel
theorem dX5_right_80 : decode cX5_right 80 = .ok (.iaload, 1) := by decide +kernel
theorem dX5_right_81 : decode cX5_right 81 = .ok (.iastore, 1) := by decide +kernel
theorem dX5_right_82 : decode cX5_right 82 = .ok (.iinc 2 1, 3) := by decide +kernel
theorem dX5_right_85 : decode cX5_right 85 = .ok (.iinc 4 1, 3) := by decide +kernel
theorem dX5_right_88 : decode cX5_right 88 = .ok (.goto (-51), 3) := by decide +kernel
theorem dX5_right_91 : decode cX5_right 91 = .ok (.iinc 3 1, 3) := by decide +kernel
theorem dX5_right_94 : decode cX5_right 94 = .ok (.goto (-71), 3) := by decide +kernel
theorem dX5_right_97 : decode cX5_right 97 = .ok (.iload_n 2, 1) := by decide +kernel
theorem dX5_right_98 : decode cX5_right 98 = .ok (.ireturn, 1) := by decide +kernel
theorem dX5_unlike_0 : decode cX5_unlike 0 = .ok (.iload_n 1, 1) := by decide +kernel
theorem dX5_unlike_1 : decode cX5_unlike 1 = .ok (.i2l, 1) := by decide +kernel
theorem dX5_unlike_2 : decode cX5_unlike 2 = .ok (.lconst 0, 1) := by decide +kernel
theorem dX5_unlike_3 : decode cX5_unlike 3 = .ok (.lconst 1, 1) := by decide +kernel
theorem dX5_unlike_4 : decode cX5_unlike 4 = .ok (.invokestatic 43, 3) := by decide +kernel
theorem dX5_unlike_7 : decode cX5_unlike 7 = .ok (.ifCond .ne 10, 3) := by decide +kernel
theorem dX5_unlike_10 : decode cX5_unlike 10 = .ok (.aload_n 0, 1) := by decide +kernel
theorem dX5_unlike_11 : decode cX5_unlike 11 = .ok (.ldc 40, 2) := by decide +kernel
theorem dX5_unlike_13 : decode cX5_unlike 13 = .ok (.invokevirtual 59, 3) := by decide +kernel
theorem dX5_unlike_16 : decode cX5_unlike 16 = .ok (.ireturn, 1) := by decide +kernel
theorem dX5_unlike_17 : decode cX5_unlike 17 = .ok (.iconst (-1), 1) := by decide +kernel
theorem dX5_unlike_18 : decode cX5_unlike 18 = .ok (.istore_n 2, 1) := by decide +kernel
theorem dX5_unlike_19 : decode cX5_unlike 19 = .ok (.iconst (-1), 1) := by decide +kernel
theorem dX5_unlike_20 : decode cX5_unlike 20 = .ok (.istore_n 3, 1) := by decide +kernel
theorem dX5_unlike_21 : decode cX5_unlike 21 = .ok (.iconst 0, 1) := by decide +kernel
theorem dX5_unlike_22 : decode cX5_unlike 22 = .ok (.istore 4, 2) := by decide +kernel
theorem dX5_unlike_24 : decode cX5_unlike 24 = .ok (.iload 4, 2) := by decide +kernel
theorem dX5_unlike_26 : decode cX5_unlike 26 = .ok (.aload_n 0, 1) := by decide +kernel
theorem dX5_unlike_27 : decode cX5_unlike 27 = .ok (.getfield 7, 3) := by decide +kernel
theorem dX5_unlike_30 : decode cX5_unlike 30 = .ok (.bipush 17, 2) := by decide +kernel
theorem dX5_unlike_32 : decode cX5_unlike 32 = .ok (.iaload, 1) := by decide +kernel
theorem dX5_unlike_33 : decode cX5_unlike 33 = .ok (.if_icmp .ge 56, 3) := by decide +kernel
theorem dX5_unlike_36 : decode cX5_unlike 36 = .ok (.iconst 0, 1) := by decide +kernel
theorem dX5_unlike_37 : decode cX5_unlike 37 = .ok (.istore 5, 2) := by decide +kernel
theorem dX5_unlike_39 : decode cX5_unlike 39 = .ok (.iconst 0, 1) := by decide +kernel
theorem dX5_unlike_40 : decode cX5_unlike 40 = .ok (.istore 6, 2) := by decide +kernel
theorem dX5_unlike_42 : decode cX5_unlike 42 = .ok (.iload 6, 2) := by decide +kernel
theorem dX5_unlike_44 : decode cX5_unlike 44 = .ok (.bipush 8, 2) := by decide +kernel
theorem dX5_unlike_46 : decode cX5_unlike 46 = .ok (.if_icmp .ge 25, 3) := by decide +kernel
theorem dX5_unlike_49 : decode cX5_unlike 49 = .ok (.iload 5, 2) := by decide +kernel
theorem dX5_unlike_51 : decode cX5_unlike 51 = .ok (.aload_n 0, 1) := by decide +kernel
theorem dX5_unlike_52 : decode cX5_unlike 52 = .ok (.iload 4, 2) := by decide +kernel
theorem dX5_unlike_54 : decode cX5_unlike 54 = .ok (.iload 6, 2) := by decide +kernel
theorem dX5_unlike_56 : decode cX5_unlike 56 = .ok (.invokevirtual 166, 3) := by decide +kernel
theorem dX5_unlike_59 : decode cX5_unlike 59 = .ok (.invokestatic 169, 3) := by decide +kernel
theorem dX5_unlike_62 : decode cX5_unlike 62 = .ok (.iadd, 1) := by decide +kernel
theorem dX5_unlike_63 : decode cX5_unlike 63 = .ok (.istore 5, 2) := by decide +kernel
theorem dX5_unlike_65 : decode cX5_unlike 65 = .ok (.iinc 6 1, 3) := by decide +kernel
theorem dX5_unlike_68 : decode cX5_unlike 68 = .ok (.goto (-26), 3) := by decide +kernel
theorem dX5_unlike_71 : decode cX5_unlike 71 = .ok (.iload 5, 2) := by decide +kernel
theorem dX5_unlike_73 : decode cX5_unlike 73 = .ok (.iload_n 3, 1) := by decide +kernel
theorem dX5_unlike_74 : decode cX5_unlike 74 = .ok (.if_icmp .le 9, 3) := by decide +kernel
theorem dX5_unlike_77 : decode cX5_unlike 77 = .ok (.iload 4, 2) := by decide +kernel
theorem dX5_unlike_79 : decode cX5_unlike 79 = .ok (.istore_n 2, 1) := by decide +kernel
theorem dX5_unlike_80 : decode cX5_unlike 80 = .ok (.iload 5, 2) := by decide +kernel
theorem dX5_unlike_82 : decode cX5_unlike 82 = .ok (.istore_n 3, 1) := by decide +kernel
theorem dX5_unlike_83 : decode cX5_unlike 83 = .ok (.iinc 4 1, 3) := by decide +kernel
theorem dX5_unlike_86 : decode cX5_unlike 86 = .ok (.goto (-62), 3) := by decide +kernel
theorem dX5_unlike_89 : decode cX5_unlike 89 = .ok (.iload_n 2, 1) := by decide +kernel
theorem dX5_unlike_90 : decode cX5_unlike 90 = .ok (.ifCond .ge 12, 3) := by decide +kernel
theorem dX5_unlike_93 : decode cX5_unlike 93 = .ok (.aload_n 0, 1) := by decide +kernel
theorem dX5_unlike_94 : decode cX5_unlike 94 = .ok (.ldc 89, 2) := by decide +kernel
theorem dX5_unlike_96 : decode cX5_unlike 96 = .ok (.invokevirtual 59, 3) := by decide +kernel
theorem dX5_unlike_99 : decode cX5_unlike 99 = .ok (.goto 12, 3) := by decide +kernel
theorem dX5_unlike_102 : decode cX5_unlike 102 = .ok (.iload_n 1, 1) := by decide +kernel
theorem dX5_unlike_103 : decode cX5_unlike 103 = .ok (.ifCond .ne 7, 3) := by decide +kernel
theorem dX5_unlike_106 : decode cX5_unlike 106 = .ok (.iload_n 2, 1) := by decide +kernel
theorem dX5_unlike_107 : decode cX5_unlike 107 = .ok (.goto 4, 3) := by decide +kernel
theorem dX5_unlike_110 : decode cX5_unlike 110 = .ok (.iload_n 3, 1) := by decide +kernel
theorem dX5_unlike_111 : decode cX5_unlike 111 = .ok (.ireturn, 1) := by decide +kernel
theorem dX5_countsOf_0 : decode cX5_countsOf 0 = .ok (.iconst 0, 1) := by decide +kernel
theorem dX5_countsOf_1 : decode cX5_countsOf 1 = .ok (.istore_n 2, 1) := by decide +kernel
theorem dX5_countsOf_2 : decode cX5_countsOf 2 = .ok (.iconst 0, 1) := by decide +kernel
theorem dX5_countsOf_3 : decode cX5_countsOf 3 = .ok (.istore_n 3, 1) := by decide +kernel
theorem dX5_countsOf_4 : decode cX5_countsOf 4 = .ok (.iload_n 3, 1) := by decide +kernel
theorem dX5_countsOf_5 : decode cX5_countsOf 5 = .ok (.aload_n 0, 1) := by decide +kernel
theorem dX5_countsOf_6 : decode cX5_countsOf 6 = .ok (.getfield 7, 3) := by decide +kernel
theorem dX5_countsOf_9 : decode cX5_countsOf 9 = .ok (.bipush 17, 2) := by decide +kernel
theorem dX5_countsOf_11 : decode cX5_countsOf 11 = .ok (.iaload, 1) := by decide +kernel
theorem dX5_countsOf_12 : decode cX5_countsOf 12 = .ok (.if_icmp .ge 44, 3) := by decide +kernel
theorem dX5_countsOf_15 : decode cX5_countsOf 15 = .ok (.iconst 0, 1) := by decide +kernel
theorem dX5_countsOf_16 : decode cX5_countsOf 16 = .ok (.istore 4, 2) := by decide +kernel
theorem dX5_countsOf_18 : decode cX5_countsOf 18 = .ok (.iload 4, 2) := by decide +kernel
theorem dX5_countsOf_20 : decode cX5_countsOf 20 = .ok (.iload_n 3, 1) := by decide +kernel
theorem dX5_countsOf_21 : decode cX5_countsOf 21 = .ok (.if_icmp .ge 29, 3) := by decide +kernel
theorem dX5_countsOf_24 : decode cX5_countsOf 24 = .ok (.iload_n 2, 1) := by decide +kernel
theorem dX5_countsOf_25 : decode cX5_countsOf 25 = .ok (.aload_n 0, 1) := by decide +kernel
theorem dX5_countsOf_26 : decode cX5_countsOf 26 = .ok (.iload_n 3, 1) := by decide +kernel
theorem dX5_countsOf_27 : decode cX5_countsOf 27 = .ok (.iload_n 1, 1) := by decide +kernel
theorem dX5_countsOf_28 : decode cX5_countsOf 28 = .ok (.invokevirtual 78, 3) := by decide +kernel
theorem dX5_countsOf_31 : decode cX5_countsOf 31 = .ok (.aload_n 0, 1) := by decide +kernel
theorem dX5_countsOf_32 : decode cX5_countsOf 32 = .ok (.iload 4, 2) := by decide +kernel
theorem dX5_countsOf_34 : decode cX5_countsOf 34 = .ok (.iload_n 1, 1) := by decide +kernel
theorem dX5_countsOf_35 : decode cX5_countsOf 35 = .ok (.invokevirtual 78, 3) := by decide +kernel
theorem dX5_countsOf_38 : decode cX5_countsOf 38 = .ok (.isub, 1) := by decide +kernel
theorem dX5_countsOf_39 : decode cX5_countsOf 39 = .ok (.invokestatic 169, 3) := by decide +kernel
theorem dX5_countsOf_42 : decode cX5_countsOf 42 = .ok (.iadd, 1) := by decide +kernel
theorem dX5_countsOf_43 : decode cX5_countsOf 43 = .ok (.istore_n 2, 1) := by decide +kernel
theorem dX5_countsOf_44 : decode cX5_countsOf 44 = .ok (.iinc 4 1, 3) := by decide +kernel
theorem dX5_countsOf_47 : decode cX5_countsOf 47 = .ok (.goto (-29), 3) := by decide +kernel
theorem dX5_countsOf_50 : decode cX5_countsOf 50 = .ok (.iinc 3 1, 3) := by decide +kernel
theorem dX5_countsOf_53 : decode cX5_countsOf 53 = .ok (.goto (-49), 3) := by decide +kernel
theorem dX5_countsOf_56 : decode cX5_countsOf 56 = .ok (.iload_n 2, 1) := by decide +kernel
theorem dX5_countsOf_57 : decode cX5_countsOf 57 = .ok (.ireturn, 1) := by decide +kernel
theorem dX5_counts_0 : decode cX5_counts 0 = .ok (.iload_n 1, 1) := by decide +kernel
theorem dX5_counts_1 : decode cX5_counts 1 = .ok (.invokestatic 53, 3) := by decide +kernel
theorem dX5_counts_4 : decode cX5_counts 4 = .ok (.ifCond .eq 11, 3) := by decide +kernel
theorem dX5_counts_7 : decode cX5_counts 7 = .ok (.aload_n 0, 1) := by decide +kernel
theorem dX5_counts_8 : decode cX5_counts 8 = .ok (.iload_n 1, 1) := by decide +kernel
theorem dX5_counts_9 : decode cX5_counts 9 = .ok (.invokevirtual 172, 3) := by decide +kernel
theorem dX5_counts_12 : decode cX5_counts 12 = .ok (.goto 9, 3) := by decide +kernel
theorem dX5_counts_15 : decode cX5_counts 15 = .ok (.aload_n 0, 1) := by decide +kernel
theorem dX5_counts_16 : decode cX5_counts 16 = .ok (.ldc 40, 2) := by decide +kernel
theorem dX5_counts_18 : decode cX5_counts 18 = .ok (.invokevirtual 59, 3) := by decide +kernel
theorem dX5_counts_21 : decode cX5_counts 21 = .ok (.ireturn, 1) := by decide +kernel
theorem dX5_heavy_0 : decode cX5_heavy 0 = .ok (.iconst 0, 1) := by decide +kernel
theorem dX5_heavy_1 : decode cX5_heavy 1 = .ok (.istore_n 1, 1) := by decide +kernel
theorem dX5_heavy_2 : decode cX5_heavy 2 = .ok (.iconst 1, 1) := by decide +kernel
theorem dX5_heavy_3 : decode cX5_heavy 3 = .ok (.istore_n 2, 1) := by decide +kernel
theorem dX5_heavy_4 : decode cX5_heavy 4 = .ok (.iload_n 2, 1) := by decide +kernel
theorem dX5_heavy_5 : decode cX5_heavy 5 = .ok (.bipush 8, 2) := by decide +kernel
theorem dX5_heavy_7 : decode cX5_heavy 7 = .ok (.if_icmp .ge 28, 3) := by decide +kernel
theorem dX5_heavy_10 : decode cX5_heavy 10 = .ok (.aload_n 0, 1) := by decide +kernel
theorem dX5_heavy_11 : decode cX5_heavy 11 = .ok (.iload_n 2, 1) := by decide +kernel
theorem dX5_heavy_12 : decode cX5_heavy 12 = .ok (.invokevirtual 172, 3) := by decide +kernel
theorem dX5_heavy_15 : decode cX5_heavy 15 = .ok (.aload_n 0, 1) := by decide +kernel
theorem dX5_heavy_16 : decode cX5_heavy 16 = .ok (.iload_n 1, 1) := by decide +kernel
theorem dX5_heavy_17 : decode cX5_heavy 17 = .ok (.invokevirtual 172, 3) := by decide +kernel
theorem dX5_heavy_20 : decode cX5_heavy 20 = .ok (.if_icmp .le 7, 3) := by decide +kernel
theorem dX5_heavy_23 : decode cX5_heavy 23 = .ok (.iload_n 2, 1) := by decide +kernel
theorem dX5_heavy_24 : decode cX5_heavy 24 = .ok (.goto 4, 3) := by decide +kernel
theorem dX5_heavy_27 : decode cX5_heavy 27 = .ok (.iload_n 1, 1) := by decide +kernel
theorem dX5_heavy_28 : decode cX5_heavy 28 = .ok (.istore_n 1, 1) := by decide +kernel
theorem dX5_heavy_29 : decode cX5_heavy 29 = .ok (.iinc 2 1, 3) := by decide +kernel
theorem dX5_heavy_32 : decode cX5_heavy 32 = .ok (.goto (-28), 3) := by decide +kernel
theorem dX5_heavy_35 : decode cX5_heavy 35 = .ok (.iload_n 1, 1) := by decide +kernel
theorem dX5_heavy_36 : decode cX5_heavy 36 = .ok (.ireturn, 1) := by decide +kernel
theorem dX5_seed_0 : decode cX5_seed 0 = .ok (.aload_n 0, 1) := by decide +kernel
theorem dX5_seed_1 : decode cX5_seed 1 = .ok (.getfield 7, 3) := by decide +kernel
theorem dX5_seed_4 : decode cX5_seed 4 = .ok (.bipush 16, 2) := by decide +kernel
theorem dX5_seed_6 : decode cX5_seed 6 = .ok (.iaload, 1) := by decide +kernel
theorem dX5_seed_7 : decode cX5_seed 7 = .ok (.istore_n 2, 1) := by decide +kernel
theorem dX5_seed_8 : decode cX5_seed 8 = .ok (.aload_n 0, 1) := by decide +kernel
theorem dX5_seed_9 : decode cX5_seed 9 = .ok (.getfield 7, 3) := by decide +kernel
theorem dX5_seed_12 : decode cX5_seed 12 = .ok (.bipush 16, 2) := by decide +kernel
theorem dX5_seed_14 : decode cX5_seed 14 = .ok (.iload_n 1, 1) := by decide +kernel
theorem dX5_seed_15 : decode cX5_seed 15 = .ok (.iastore, 1) := by decide +kernel
theorem dX5_seed_16 : decode cX5_seed 16 = .ok (.iload_n 2, 1) := by decide +kernel
theorem dX5_seed_17 : decode cX5_seed 17 = .ok (.ireturn, 1) := by decide +kernel
theorem dX5_feed_0 : decode cX5_feed 0 = .ok (.iload_n 2, 1) := by decide +kernel
theorem dX5_feed_1 : decode cX5_feed 1 = .ok (.i2l, 1) := by decide +kernel
theorem dX5_feed_2 : decode cX5_feed 2 = .ok (.lconst 1, 1) := by decide +kernel
theorem dX5_feed_3 : decode cX5_feed 3 = .ok (.ldc2_w 175, 3) := by decide +kernel
theorem dX5_feed_6 : decode cX5_feed 6 = .ok (.invokestatic 43, 3) := by decide +kernel
theorem dX5_feed_9 : decode cX5_feed 9 = .ok (.ifCond .ne 10, 3) := by decide +kernel
theorem dX5_feed_12 : decode cX5_feed 12 = .ok (.aload_n 0, 1) := by decide +kernel
theorem dX5_feed_13 : decode cX5_feed 13 = .ok (.ldc 40, 2) := by decide +kernel
theorem dX5_feed_15 : decode cX5_feed 15 = .ok (.invokevirtual 59, 3) := by decide +kernel
theorem dX5_feed_18 : decode cX5_feed 18 = .ok (.ireturn, 1) := by decide +kernel
theorem dX5_feed_19 : decode cX5_feed 19 = .ok (.aload_n 0, 1) := by decide +kernel
theorem dX5_feed_20 : decode cX5_feed 20 = .ok (.getfield 177, 3) := by decide +kernel
theorem dX5_feed_23 : decode cX5_feed 23 = .ok (.iload_n 2, 1) := by decide +kernel
theorem dX5_feed_24 : decode cX5_feed 24 = .ok (.iadd, 1) := by decide +kernel
theorem dX5_feed_25 : decode cX5_feed 25 = .ok (.bipush 120, 2) := by decide +kernel
theorem dX5_feed_27 : decode cX5_feed 27 = .ok (.if_icmp .le 10, 3) := by decide +kernel
theorem dX5_feed_30 : decode cX5_feed 30 = .ok (.aload_n 0, 1) := by decide +kernel
theorem dX5_feed_31 : decode cX5_feed 31 = .ok (.ldc 71, 2) := by decide +kernel
theorem dX5_feed_33 : decode cX5_feed 33 = .ok (.invokevirtual 59, 3) := by decide +kernel
theorem dX5_feed_36 : decode cX5_feed 36 = .ok (.ireturn, 1) := by decide +kernel
theorem dX5_feed_37 : decode cX5_feed 37 = .ok (.iload_n 2, 1) := by decide +kernel
theorem dX5_feed_38 : decode cX5_feed 38 = .ok (.iconst 1, 1) := by decide +kernel
theorem dX5_feed_39 : decode cX5_feed 39 = .ok (.isub, 1) := by decide +kernel
theorem dX5_feed_40 : decode cX5_feed 40 = .ok (.istore_n 3, 1) := by decide +kernel
theorem dX5_feed_41 : decode cX5_feed 41 = .ok (.iload_n 3, 1) := by decide +kernel
theorem dX5_feed_42 : decode cX5_feed 42 = .ok (.ifCond .lt 38, 3) := by decide +kernel
theorem dX5_feed_45 : decode cX5_feed 45 = .ok (.aload_n 0, 1) := by decide +kernel
theorem dX5_feed_46 : decode cX5_feed 46 = .ok (.getfield 25, 3) := by decide +kernel
theorem dX5_feed_49 : decode cX5_feed 49 = .ok (.aload_n 0, 1) := by decide +kernel
theorem dX5_feed_50 : decode cX5_feed 50 = .ok (.getfield 177, 3) := by decide +kernel
theorem dX5_feed_53 : decode cX5_feed 53 = .ok (.iload_n 1, 1) := by decide +kernel
theorem dX5_feed_54 : decode cX5_feed 54 = .ok (.bipush 8, 2) := by decide +kernel
theorem dX5_feed_56 : decode cX5_feed 56 = .ok (.iload_n 3, 1) := by decide +kernel
theorem dX5_feed_57 : decode cX5_feed 57 = .ok (.imul, 1) := by decide +kernel
theorem dX5_feed_58 : decode cX5_feed 58 = .ok (.ishr, 1) := by decide +kernel
theorem dX5_feed_59 : decode cX5_feed 59 = .ok (.sipush 255, 3) := by decide +kernel
theorem dX5_feed_62 : decode cX5_feed 62 = .ok (.iand, 1) := by decide +kernel
theorem dX5_feed_63 : decode cX5_feed 63 = .ok (.iastore, 1) := by decide +kernel
theorem dX5_feed_64 : decode cX5_feed 64 = .ok (.aload_n 0, 1) := by decide +kernel
theorem dX5_feed_65 : decode cX5_feed 65 = .ok (.dup, 1) := by decide +kernel
theorem dX5_feed_66 : decode cX5_feed 66 = .ok (.getfield 177, 3) := by decide +kernel
theorem dX5_feed_69 : decode cX5_feed 69 = .ok (.iconst 1, 1) := by decide +kernel
theorem dX5_feed_70 : decode cX5_feed 70 = .ok (.iadd, 1) := by decide +kernel
theorem dX5_feed_71 : decode cX5_feed 71 = .ok (.putfield 177, 3) := by decide +kernel
theorem dX5_feed_74 : decode cX5_feed 74 = .ok (.iinc 3 (-1), 3) := by decide +kernel
theorem dX5_feed_77 : decode cX5_feed 77 = .ok (.goto (-36), 3) := by decide +kernel
theorem dX5_feed_80 : decode cX5_feed 80 = .ok (.aload_n 0, 1) := by decide +kernel
theorem dX5_feed_81 : decode cX5_feed 81 = .ok (.getfield 177, 3) := by decide +kernel
theorem dX5_feed_84 : decode cX5_feed 84 = .ok (.ireturn, 1) := by decide +kernel
theorem dX5_wipe_0 : decode cX5_wipe 0 = .ok (.aload_n 0, 1) := by decide +kernel
theorem dX5_wipe_1 : decode cX5_wipe 1 = .ok (.getfield 177, 3) := by decide +kernel
theorem dX5_wipe_4 : decode cX5_wipe 4 = .ok (.istore_n 1, 1) := by decide +kernel
theorem dX5_wipe_5 : decode cX5_wipe 5 = .ok (.aload_n 0, 1) := by decide +kernel
theorem dX5_wipe_6 : decode cX5_wipe 6 = .ok (.iconst 0, 1) := by decide +kernel
theorem dX5_wipe_7 : decode cX5_wipe 7 = .ok (.putfield 177, 3) := by decide +kernel
theorem dX5_wipe_10 : decode cX5_wipe 10 = .ok (.iload_n 1, 1) := by decide +kernel
theorem dX5_wipe_11 : decode cX5_wipe 11 = .ok (.ireturn, 1) := by decide +kernel
theorem dX5_byteAt_0 : decode cX5_byteAt 0 = .ok (.iload_n 1, 1) := by decide +kernel
theorem dX5_byteAt_1 : decode cX5_byteAt 1 = .ok (.aload_n 0, 1) := by decide +kernel
theorem dX5_byteAt_2 : decode cX5_byteAt 2 = .ok (.getfield 177, 3) := by decide +kernel
theorem dX5_byteAt_5 : decode cX5_byteAt 5 = .ok (.if_icmp .ge 12, 3) := by decide +kernel
theorem dX5_byteAt_8 : decode cX5_byteAt 8 = .ok (.aload_n 0, 1) := by decide +kernel
theorem dX5_byteAt_9 : decode cX5_byteAt 9 = .ok (.getfield 25, 3) := by decide +kernel
theorem dX5_byteAt_12 : decode cX5_byteAt 12 = .ok (.iload_n 1, 1) := by decide +kernel
theorem dX5_byteAt_13 : decode cX5_byteAt 13 = .ok (.iaload, 1) := by decide +kernel
theorem dX5_byteAt_14 : decode cX5_byteAt 14 = .ok (.goto 4, 3) := by decide +kernel
theorem dX5_byteAt_17 : decode cX5_byteAt 17 = .ok (.iconst (-1), 1) := by decide +kernel
theorem dX5_byteAt_18 : decode cX5_byteAt 18 = .ok (.ireturn, 1) := by decide +kernel
theorem dX5_isLetter_0 : decode cX5_isLetter 0 = .ok (.iload_n 0, 1) := by decide +kernel
theorem dX5_isLetter_1 : decode cX5_isLetter 1 = .ok (.i2l, 1) := by decide +kernel
theorem dX5_isLetter_2 : decode cX5_isLetter 2 = .ok (.ldc2_w 181, 3) := by decide +kernel
theorem dX5_isLetter_5 : decode cX5_isLetter 5 = .ok (.ldc2_w 183, 3) := by decide +kernel
theorem dX5_isLetter_8 : decode cX5_isLetter 8 = .ok (.invokestatic 43, 3) := by decide +kernel
theorem dX5_isLetter_11 : decode cX5_isLetter 11 = .ok (.ireturn, 1) := by decide +kernel
theorem dX5_isDigit_0 : decode cX5_isDigit 0 = .ok (.iload_n 0, 1) := by decide +kernel
theorem dX5_isDigit_1 : decode cX5_isDigit 1 = .ok (.i2l, 1) := by decide +kernel
theorem dX5_isDigit_2 : decode cX5_isDigit 2 = .ok (.ldc2_w 185, 3) := by decide +kernel
theorem dX5_isDigit_5 : decode cX5_isDigit 5 = .ok (.ldc2_w 187, 3) := by decide +kernel
theorem dX5_isDigit_8 : decode cX5_isDigit 8 = .ok (.invokestatic 43, 3) := by decide +kernel
theorem dX5_isDigit_11 : decode cX5_isDigit 11 = .ok (.ireturn, 1) := by decide +kernel
theorem dX5_token_0 : decode cX5_token 0 = .ok (.aload_n 0, 1) := by decide +kernel
theorem dX5_token_1 : decode cX5_token 1 = .ok (.aload_n 0, 1) := by decide +kernel
theorem dX5_token_2 : decode cX5_token 2 = .ok (.getfield 189, 3) := by decide +kernel
theorem dX5_token_5 : decode cX5_token 5 = .ok (.putfield 192, 3) := by decide +kernel
theorem dX5_token_8 : decode cX5_token 8 = .ok (.aload_n 0, 1) := by decide +kernel
theorem dX5_token_9 : decode cX5_token 9 = .ok (.aload_n 0, 1) := by decide +kernel
theorem dX5_token_10 : decode cX5_token 10 = .ok (.getfield 192, 3) := by decide +kernel
theorem dX5_token_13 : decode cX5_token 13 = .ok (.invokevirtual 195, 3) := by decide +kernel
theorem dX5_token_16 : decode cX5_token 16 = .ok (.bipush 32, 2) := by decide +kernel
theorem dX5_token_18 : decode cX5_token 18 = .ok (.if_icmp .ne 16, 3) := by decide +kernel
theorem dX5_token_21 : decode cX5_token 21 = .ok (.aload_n 0, 1) := by decide +kernel
theorem dX5_token_22 : decode cX5_token 22 = .ok (.dup, 1) := by decide +kernel
theorem dX5_token_23 : decode cX5_token 23 = .ok (.getfield 192, 3) := by decide +kernel
theorem dX5_token_26 : decode cX5_token 26 = .ok (.iconst 1, 1) := by decide +kernel
theorem dX5_token_27 : decode cX5_token 27 = .ok (.iadd, 1) := by decide +kernel
theorem dX5_token_28 : decode cX5_token 28 = .ok (.putfield 192, 3) := by decide +kernel
theorem dX5_token_31 : decode cX5_token 31 = .ok (.goto (-23), 3) := by decide +kernel
theorem dX5_token_34 : decode cX5_token 34 = .ok (.aload_n 0, 1) := by decide +kernel
theorem dX5_token_35 : decode cX5_token 35 = .ok (.aload_n 0, 1) := by decide +kernel
theorem dX5_token_36 : decode cX5_token 36 = .ok (.getfield 192, 3) := by decide +kernel
theorem dX5_token_39 : decode cX5_token 39 = .ok (.invokevirtual 195, 3) := by decide +kernel
theorem dX5_token_42 : decode cX5_token 42 = .ok (.invokestatic 198, 3) := by decide +kernel
theorem dX5_token_45 : decode cX5_token 45 = .ok (.istore_n 1, 1) := by decide +kernel
theorem dX5_token_46 : decode cX5_token 46 = .ok (.aload_n 0, 1) := by decide +kernel
theorem dX5_token_47 : decode cX5_token 47 = .ok (.aload_n 0, 1) := by decide +kernel
theorem dX5_token_48 : decode cX5_token 48 = .ok (.getfield 192, 3) := by decide +kernel
theorem dX5_token_51 : decode cX5_token 51 = .ok (.invokevirtual 195, 3) := by decide +kernel
theorem dX5_token_54 : decode cX5_token 54 = .ok (.invokestatic 201, 3) := by decide +kernel
theorem dX5_token_57 : decode cX5_token 57 = .ok (.istore_n 2, 1) := by decide +kernel
theorem dX5_token_58 : decode cX5_token 58 = .ok (.aload_n 0, 1) := by decide +kernel
theorem dX5_token_59 : decode cX5_token 59 = .ok (.aload_n 0, 1) := by decide +kernel
theorem dX5_token_60 : decode cX5_token 60 = .ok (.getfield 192, 3) := by decide +kernel
theorem dX5_token_63 : decode cX5_token 63 = .ok (.aload_n 0, 1) := by decide +kernel
theorem dX5_token_64 : decode cX5_token 64 = .ok (.getfield 177, 3) := by decide +kernel
theorem dX5_token_67 : decode cX5_token 67 = .ok (.if_icmp .ge 12, 3) := by decide +kernel
theorem dX5_token_70 : decode cX5_token 70 = .ok (.aload_n 0, 1) := by decide +kernel
theorem dX5_token_71 : decode cX5_token 71 = .ok (.getfield 192, 3) := by decide +kernel
theorem dX5_token_74 : decode cX5_token 74 = .ok (.iconst 1, 1) := by decide +kernel
theorem dX5_token_75 : decode cX5_token 75 = .ok (.iadd, 1) := by decide +kernel
theorem dX5_token_76 : decode cX5_token 76 = .ok (.goto 7, 3) := by decide +kernel
theorem dX5_token_79 : decode cX5_token 79 = .ok (.aload_n 0, 1) := by decide +kernel
theorem dX5_token_80 : decode cX5_token 80 = .ok (.getfield 192, 3) := by decide +kernel
theorem dX5_token_83 : decode cX5_token 83 = .ok (.putfield 189, 3) := by decide +kernel
theorem dX5_token_86 : decode cX5_token 86 = .ok (.iload_n 1, 1) := by decide +kernel
theorem dX5_token_87 : decode cX5_token 87 = .ok (.ifCond .eq 17, 3) := by decide +kernel
theorem dX5_token_90 : decode cX5_token 90 = .ok (.aload_n 0, 1) := by decide +kernel
theorem dX5_token_91 : decode cX5_token 91 = .ok (.aload_n 0, 1) := by decide +kernel
theorem dX5_token_92 : decode cX5_token 92 = .ok (.getfield 189, 3) := by decide +kernel
theorem dX5_token_95 : decode cX5_token 95 = .ok (.invokevirtual 195, 3) := by decide +kernel
theorem dX5_token_98 : decode cX5_token 98 = .ok (.invokestatic 198, 3) := by decide +kernel
theorem dX5_token_101 : decode cX5_token 101 = .ok (.ifCond .ne 21, 3) := by decide +kernel
theorem dX5_token_104 : decode cX5_token 104 = .ok (.iload_n 2, 1) := by decide +kernel
theorem dX5_token_105 : decode cX5_token 105 = .ok (.ifCond .eq 30, 3) := by decide +kernel
theorem dX5_token_108 : decode cX5_token 108 = .ok (.aload_n 0, 1) := by decide +kernel
theorem dX5_token_109 : decode cX5_token 109 = .ok (.aload_n 0, 1) := by decide +kernel
theorem dX5_token_110 : decode cX5_token 110 = .ok (.getfield 189, 3) := by decide +kernel
theorem dX5_token_113 : decode cX5_token 113 = .ok (.invokevirtual 195, 3) := by decide +kernel
theorem dX5_token_116 : decode cX5_token 116 = .ok (.invokestatic 201, 3) := by decide +kernel
theorem dX5_token_119 : decode cX5_token 119 = .ok (.ifCond .eq 16, 3) := by decide +kernel
theorem dX5_token_122 : decode cX5_token 122 = .ok (.aload_n 0, 1) := by decide +kernel
theorem dX5_token_123 : decode cX5_token 123 = .ok (.dup, 1) := by decide +kernel
theorem dX5_token_124 : decode cX5_token 124 = .ok (.getfield 189, 3) := by decide +kernel
theorem dX5_token_127 : decode cX5_token 127 = .ok (.iconst 1, 1) := by decide +kernel
theorem dX5_token_128 : decode cX5_token 128 = .ok (.iadd, 1) := by decide +kernel
theorem dX5_token_129 : decode cX5_token 129 = .ok (.putfield 189, 3) := by decide +kernel
theorem dX5_token_132 : decode cX5_token 132 = .ok (.goto (-46), 3) := by decide +kernel
theorem dX5_token_135 : decode cX5_token 135 = .ok (.return_, 1) := by decide +kernel
theorem dX5_needs_0 : decode cX5_needs 0 = .ok (.aload_n 0, 1) := by decide +kernel
theorem dX5_needs_1 : decode cX5_needs 1 = .ok (.aload_n 0, 1) := by decide +kernel
theorem dX5_needs_2 : decode cX5_needs 2 = .ok (.getfield 204, 3) := by decide +kernel
theorem dX5_needs_5 : decode cX5_needs 5 = .ok (.ifCond .ne 7, 3) := by decide +kernel
theorem dX5_needs_8 : decode cX5_needs 8 = .ok (.iload_n 1, 1) := by decide +kernel
theorem dX5_needs_9 : decode cX5_needs 9 = .ok (.ifCond .ne 7, 3) := by decide +kernel
theorem dX5_needs_12 : decode cX5_needs 12 = .ok (.iconst 1, 1) := by decide +kernel
theorem dX5_needs_13 : decode cX5_needs 13 = .ok (.goto 4, 3) := by decide +kernel
theorem dX5_needs_16 : decode cX5_needs 16 = .ok (.iconst 0, 1) := by decide +kernel
theorem dX5_needs_17 : decode cX5_needs 17 = .ok (.putfield 204, 3) := by decide +kernel
theorem dX5_needs_20 : decode cX5_needs 20 = .ok (.aload_n 0, 1) := by decide +kernel
theorem dX5_needs_21 : decode cX5_needs 21 = .ok (.getfield 204, 3) := by decide +kernel
theorem dX5_needs_24 : decode cX5_needs 24 = .ok (.ifCond .ne 7, 3) := by decide +kernel
theorem dX5_needs_27 : decode cX5_needs 27 = .ok (.aload_n 0, 1) := by decide +kernel
theorem dX5_needs_28 : decode cX5_needs 28 = .ok (.invokevirtual 208, 3) := by decide +kernel
theorem dX5_needs_31 : decode cX5_needs 31 = .ok (.return_, 1) := by decide +kernel
theorem dX5_isLetterAt_0 : decode cX5_isLetterAt 0 = .ok (.iload_n 2, 1) := by decide +kernel
theorem dX5_isLetterAt_1 : decode cX5_isLetterAt 1 = .ok (.ifCond .eq 17, 3) := by decide +kernel
theorem dX5_isLetterAt_4 : decode cX5_isLetterAt 4 = .ok (.aload_n 0, 1) := by decide +kernel
theorem dX5_isLetterAt_5 : decode cX5_isLetterAt 5 = .ok (.aload_n 0, 1) := by decide +kernel
theorem dX5_isLetterAt_6 : decode cX5_isLetterAt 6 = .ok (.getfield 192, 3) := by decide +kernel
theorem dX5_isLetterAt_9 : decode cX5_isLetterAt 9 = .ok (.iload_n 1, 1) := by decide +kernel
theorem dX5_isLetterAt_10 : decode cX5_isLetterAt 10 = .ok (.iadd, 1) := by decide +kernel
theorem dX5_isLetterAt_11 : decode cX5_isLetterAt 11 = .ok (.invokevirtual 195, 3) := by decide +kernel
theorem dX5_isLetterAt_14 : decode cX5_isLetterAt 14 = .ok (.iload_n 2, 1) := by decide +kernel
theorem dX5_isLetterAt_15 : decode cX5_isLetterAt 15 = .ok (.if_icmp .ne 7, 3) := by decide +kernel
theorem dX5_isLetterAt_18 : decode cX5_isLetterAt 18 = .ok (.iconst 1, 1) := by decide +kernel
theorem dX5_isLetterAt_19 : decode cX5_isLetterAt 19 = .ok (.goto 4, 3) := by decide +kernel
theorem dX5_isLetterAt_22 : decode cX5_isLetterAt 22 = .ok (.iconst 0, 1) := by decide +kernel
theorem dX5_isLetterAt_23 : decode cX5_isLetterAt 23 = .ok (.ireturn, 1) := by decide +kernel
theorem dX5_isWord_0 : decode cX5_isWord 0 = .ok (.iload 4, 2) := by decide +kernel
theorem dX5_isWord_2 : decode cX5_isWord 2 = .ok (.ifCond .ne 7, 3) := by decide +kernel
theorem dX5_isWord_5 : decode cX5_isWord 5 = .ok (.iconst 3, 1) := by decide +kernel
theorem dX5_isWord_6 : decode cX5_isWord 6 = .ok (.goto 53, 3) := by decide +kernel
theorem dX5_isWord_9 : decode cX5_isWord 9 = .ok (.iload 5, 2) := by decide +kernel
theorem dX5_isWord_11 : decode cX5_isWord 11 = .ok (.ifCond .ne 7, 3) := by decide +kernel
theorem dX5_isWord_14 : decode cX5_isWord 14 = .ok (.iconst 4, 1) := by decide +kernel
theorem dX5_isWord_15 : decode cX5_isWord 15 = .ok (.goto 44, 3) := by decide +kernel
theorem dX5_isWord_18 : decode cX5_isWord 18 = .ok (.iload 6, 2) := by decide +kernel
theorem dX5_isWord_20 : decode cX5_isWord 20 = .ok (.ifCond .ne 7, 3) := by decide +kernel
theorem dX5_isWord_23 : decode cX5_isWord 23 = .ok (.iconst 5, 1) := by decide +kernel
theorem dX5_isWord_24 : decode cX5_isWord 24 = .ok (.goto 35, 3) := by decide +kernel
theorem dX5_isWord_27 : decode cX5_isWord 27 = .ok (.iload 7, 2) := by decide +kernel
theorem dX5_isWord_29 : decode cX5_isWord 29 = .ok (.ifCond .ne 8, 3) := by decide +kernel
theorem dX5_isWord_32 : decode cX5_isWord 32 = .ok (.bipush 6, 2) := by decide +kernel
theorem dX5_isWord_34 : decode cX5_isWord 34 = .ok (.goto 25, 3) := by decide +kernel
theorem dX5_isWord_37 : decode cX5_isWord 37 = .ok (.iload 8, 2) := by decide +kernel
theorem dX5_isWord_39 : decode cX5_isWord 39 = .ok (.ifCond .ne 8, 3) := by decide +kernel
theorem dX5_isWord_42 : decode cX5_isWord 42 = .ok (.bipush 7, 2) := by decide +kernel
theorem dX5_isWord_44 : decode cX5_isWord 44 = .ok (.goto 15, 3) := by decide +kernel
theorem dX5_isWord_47 : decode cX5_isWord 47 = .ok (.iload 9, 2) := by decide +kernel
theorem dX5_isWord_49 : decode cX5_isWord 49 = .ok (.ifCond .ne 8, 3) := by decide +kernel
theorem dX5_isWord_52 : decode cX5_isWord 52 = .ok (.bipush 8, 2) := by decide +kernel
theorem dX5_isWord_54 : decode cX5_isWord 54 = .ok (.goto 5, 3) := by decide +kernel
theorem dX5_isWord_57 : decode cX5_isWord 57 = .ok (.bipush 9, 2) := by decide +kernel
theorem dX5_isWord_59 : decode cX5_isWord 59 = .ok (.istore 10, 2) := by decide +kernel
theorem dX5_isWord_61 : decode cX5_isWord 61 = .ok (.iload_n 3, 1) := by decide +kernel
theorem dX5_isWord_62 : decode cX5_isWord 62 = .ok (.ifCond .ne 7, 3) := by decide +kernel
theorem dX5_isWord_65 : decode cX5_isWord 65 = .ok (.iconst 2, 1) := by decide +kernel
theorem dX5_isWord_66 : decode cX5_isWord 66 = .ok (.goto 5, 3) := by decide +kernel
theorem dX5_isWord_69 : decode cX5_isWord 69 = .ok (.iload 10, 2) := by decide +kernel
theorem dX5_isWord_71 : decode cX5_isWord 71 = .ok (.istore 10, 2) := by decide +kernel
theorem dX5_isWord_73 : decode cX5_isWord 73 = .ok (.aload_n 0, 1) := by decide +kernel
theorem dX5_isWord_74 : decode cX5_isWord 74 = .ok (.getfield 204, 3) := by decide +kernel
theorem dX5_isWord_77 : decode cX5_isWord 77 = .ok (.ifCond .ne 68, 3) := by decide +kernel
theorem dX5_isWord_80 : decode cX5_isWord 80 = .ok (.aload_n 0, 1) := by decide +kernel
theorem dX5_isWord_81 : decode cX5_isWord 81 = .ok (.getfield 189, 3) := by decide +kernel
theorem dX5_isWord_84 : decode cX5_isWord 84 = .ok (.aload_n 0, 1) := by decide +kernel
theorem dX5_isWord_85 : decode cX5_isWord 85 = .ok (.getfield 192, 3) := by decide +kernel
theorem dX5_isWord_88 : decode cX5_isWord 88 = .ok (.isub, 1) := by decide +kernel
theorem dX5_isWord_89 : decode cX5_isWord 89 = .ok (.iload 10, 2) := by decide +kernel
theorem dX5_isWord_91 : decode cX5_isWord 91 = .ok (.if_icmp .ne 54, 3) := by decide +kernel
theorem dX5_isWord_94 : decode cX5_isWord 94 = .ok (.aload_n 0, 1) := by decide +kernel
theorem dX5_isWord_95 : decode cX5_isWord 95 = .ok (.iconst 0, 1) := by decide +kernel
theorem dX5_isWord_96 : decode cX5_isWord 96 = .ok (.iload_n 1, 1) := by decide +kernel
theorem dX5_isWord_97 : decode cX5_isWord 97 = .ok (.invokevirtual 211, 3) := by decide +kernel
theorem dX5_isWord_100 : decode cX5_isWord 100 = .ok (.ifCond .eq 45, 3) := by decide +kernel
theorem dX5_isWord_103 : decode cX5_isWord 103 = .ok (.aload_n 0, 1) := by decide +kernel
theorem dX5_isWord_104 : decode cX5_isWord 104 = .ok (.iconst 1, 1) := by decide +kernel
theorem dX5_isWord_105 : decode cX5_isWord 105 = .ok (.iload_n 2, 1) := by decide +kernel
theorem dX5_isWord_106 : decode cX5_isWord 106 = .ok (.invokevirtual 211, 3) := by decide +kernel
theorem dX5_isWord_109 : decode cX5_isWord 109 = .ok (.ifCond .eq 36, 3) := by decide +kernel
theorem dX5_isWord_112 : decode cX5_isWord 112 = .ok (.aload_n 0, 1) := by decide +kernel
theorem dX5_isWord_113 : decode cX5_isWord 113 = .ok (.iconst 2, 1) := by decide +kernel
theorem dX5_isWord_114 : decode cX5_isWord 114 = .ok (.iload_n 3, 1) := by decide +kernel
theorem dX5_isWord_115 : decode cX5_isWord 115 = .ok (.invokevirtual 211, 3) := by decide +kernel
theorem dX5_isWord_118 : decode cX5_isWord 118 = .ok (.ifCond .eq 27, 3) := by decide +kernel
theorem dX5_isWord_121 : decode cX5_isWord 121 = .ok (.aload_n 0, 1) := by decide +kernel
theorem dX5_isWord_122 : decode cX5_isWord 122 = .ok (.iconst 3, 1) := by decide +kernel
theorem dX5_isWord_123 : decode cX5_isWord 123 = .ok (.iload 4, 2) := by decide +kernel
theorem dX5_isWord_125 : decode cX5_isWord 125 = .ok (.invokevirtual 211, 3) := by decide +kernel
theorem dX5_isWord_128 : decode cX5_isWord 128 = .ok (.ifCond .eq 17, 3) := by decide +kernel
theorem dX5_isWord_131 : decode cX5_isWord 131 = .ok (.aload_n 0, 1) := by decide +kernel
theorem dX5_isWord_132 : decode cX5_isWord 132 = .ok (.iconst 4, 1) := by decide +kernel
theorem dX5_isWord_133 : decode cX5_isWord 133 = .ok (.iload 5, 2) := by decide +kernel
theorem dX5_isWord_135 : decode cX5_isWord 135 = .ok (.invokevirtual 211, 3) := by decide +kernel
theorem dX5_isWord_138 : decode cX5_isWord 138 = .ok (.ifCond .eq 7, 3) := by decide +kernel
theorem dX5_isWord_141 : decode cX5_isWord 141 = .ok (.iconst 1, 1) := by decide +kernel
theorem dX5_isWord_142 : decode cX5_isWord 142 = .ok (.goto 4, 3) := by decide +kernel
theorem dX5_isWord_145 : decode cX5_isWord 145 = .ok (.iconst 0, 1) := by decide +kernel
theorem dX5_isWord_146 : decode cX5_isWord 146 = .ok (.istore 11, 2) := by decide +kernel
theorem dX5_isWord_148 : decode cX5_isWord 148 = .ok (.iload 11, 2) := by decide +kernel
theorem dX5_isWord_150 : decode cX5_isWord 150 = .ok (.ifCond .eq 50, 3) := by decide +kernel
theorem dX5_isWord_153 : decode cX5_isWord 153 = .ok (.aload_n 0, 1) := by decide +kernel
theorem dX5_isWord_154 : decode cX5_isWord 154 = .ok (.iconst 5, 1) := by decide +kernel
theorem dX5_isWord_155 : decode cX5_isWord 155 = .ok (.iload 6, 2) := by decide +kernel
theorem dX5_isWord_157 : decode cX5_isWord 157 = .ok (.invokevirtual 211, 3) := by decide +kernel
theorem dX5_isWord_160 : decode cX5_isWord 160 = .ok (.ifCond .eq 40, 3) := by decide +kernel
theorem dX5_isWord_163 : decode cX5_isWord 163 = .ok (.aload_n 0, 1) := by decide +kernel
theorem dX5_isWord_164 : decode cX5_isWord 164 = .ok (.bipush 6, 2) := by decide +kernel
theorem dX5_isWord_166 : decode cX5_isWord 166 = .ok (.iload 7, 2) := by decide +kernel
theorem dX5_isWord_168 : decode cX5_isWord 168 = .ok (.invokevirtual 211, 3) := by decide +kernel
theorem dX5_isWord_171 : decode cX5_isWord 171 = .ok (.ifCond .eq 29, 3) := by decide +kernel
theorem dX5_isWord_174 : decode cX5_isWord 174 = .ok (.aload_n 0, 1) := by decide +kernel
theorem dX5_isWord_175 : decode cX5_isWord 175 = .ok (.bipush 7, 2) := by decide +kernel
theorem dX5_isWord_177 : decode cX5_isWord 177 = .ok (.iload 8, 2) := by decide +kernel
theorem dX5_isWord_179 : decode cX5_isWord 179 = .ok (.invokevirtual 211, 3) := by decide +kernel
theorem dX5_isWord_182 : decode cX5_isWord 182 = .ok (.ifCond .eq 18, 3) := by decide +kernel
theorem dX5_isWord_185 : decode cX5_isWord 185 = .ok (.aload_n 0, 1) := by decide +kernel
theorem dX5_isWord_186 : decode cX5_isWord 186 = .ok (.bipush 8, 2) := by decide +kernel
theorem dX5_isWord_188 : decode cX5_isWord 188 = .ok (.iload 9, 2) := by decide +kernel
theorem dX5_isWord_190 : decode cX5_isWord 190 = .ok (.invokevirtual 211, 3) := by decide +kernel
theorem dX5_isWord_193 : decode cX5_isWord 193 = .ok (.ifCond .eq 7, 3) := by decide +kernel
theorem dX5_isWord_196 : decode cX5_isWord 196 = .ok (.iconst 1, 1) := by decide +kernel
theorem dX5_isWord_197 : decode cX5_isWord 197 = .ok (.goto 4, 3) := by decide +kernel
theorem dX5_isWord_200 : decode cX5_isWord 200 = .ok (.iconst 0, 1) := by decide +kernel
theorem dX5_isWord_201 : decode cX5_isWord 201 = .ok (.ireturn, 1) := by decide +kernel
theorem dX5_number_0 : decode cX5_number 0 = .ok (.aload_n 0, 1) := by decide +kernel
theorem dX5_number_1 : decode cX5_number 1 = .ok (.getfield 204, 3) := by decide +kernel
theorem dX5_number_4 : decode cX5_number 4 = .ok (.ifCond .eq 4, 3) := by decide +kernel
theorem dX5_number_7 : decode cX5_number 7 = .ok (.return_, 1) := by decide +kernel
theorem dX5_number_8 : decode cX5_number 8 = .ok (.aload_n 0, 1) := by decide +kernel
theorem dX5_number_9 : decode cX5_number 9 = .ok (.aload_n 0, 1) := by decide +kernel
theorem dX5_number_10 : decode cX5_number 10 = .ok (.getfield 192, 3) := by decide +kernel
theorem dX5_number_13 : decode cX5_number 13 = .ok (.invokevirtual 195, 3) := by decide +kernel
theorem dX5_number_16 : decode cX5_number 16 = .ok (.invokestatic 201, 3) := by decide +kernel
theorem dX5_number_19 : decode cX5_number 19 = .ok (.istore_n 3, 1) := by decide +kernel
theorem dX5_number_20 : decode cX5_number 20 = .ok (.iconst 0, 1) := by decide +kernel
theorem dX5_number_21 : decode cX5_number 21 = .ok (.istore 4, 2) := by decide +kernel
theorem dX5_number_23 : decode cX5_number 23 = .ok (.aload_n 0, 1) := by decide +kernel
theorem dX5_number_24 : decode cX5_number 24 = .ok (.getfield 192, 3) := by decide +kernel
theorem dX5_number_27 : decode cX5_number 27 = .ok (.istore 5, 2) := by decide +kernel
theorem dX5_number_29 : decode cX5_number 29 = .ok (.iload 5, 2) := by decide +kernel
theorem dX5_number_31 : decode cX5_number 31 = .ok (.aload_n 0, 1) := by decide +kernel
theorem dX5_number_32 : decode cX5_number 32 = .ok (.getfield 189, 3) := by decide +kernel
theorem dX5_number_35 : decode cX5_number 35 = .ok (.if_icmp .ge 44, 3) := by decide +kernel
theorem dX5_number_38 : decode cX5_number 38 = .ok (.iload_n 3, 1) := by decide +kernel
theorem dX5_number_39 : decode cX5_number 39 = .ok (.ifCond .eq 40, 3) := by decide +kernel
theorem dX5_number_42 : decode cX5_number 42 = .ok (.iload 4, 2) := by decide +kernel
theorem dX5_number_44 : decode cX5_number 44 = .ok (.sipush 999, 3) := by decide +kernel
theorem dX5_number_47 : decode cX5_number 47 = .ok (.if_icmp .le 8, 3) := by decide +kernel
theorem dX5_number_50 : decode cX5_number 50 = .ok (.iload 4, 2) := by decide +kernel
theorem dX5_number_52 : decode cX5_number 52 = .ok (.goto 19, 3) := by decide +kernel
theorem dX5_number_55 : decode cX5_number 55 = .ok (.bipush 10, 2) := by decide +kernel
theorem dX5_number_57 : decode cX5_number 57 = .ok (.iload 4, 2) := by decide +kernel
theorem dX5_number_59 : decode cX5_number 59 = .ok (.imul, 1) := by decide +kernel
theorem dX5_number_60 : decode cX5_number 60 = .ok (.aload_n 0, 1) := by decide +kernel
theorem dX5_number_61 : decode cX5_number 61 = .ok (.getfield 25, 3) := by decide +kernel
theorem dX5_number_64 : decode cX5_number 64 = .ok (.iload 5, 2) := by decide +kernel
theorem dX5_number_66 : decode cX5_number 66 = .ok (.iaload, 1) := by decide +kernel
theorem dX5_number_67 : decode cX5_number 67 = .ok (.iadd, 1) := by decide +kernel
theorem dX5_number_68 : decode cX5_number 68 = .ok (.bipush 48, 2) := by decide +kernel
theorem dX5_number_70 : decode cX5_number 70 = .ok (.isub, 1) := by decide +kernel
theorem dX5_number_71 : decode cX5_number 71 = .ok (.istore 4, 2) := by decide +kernel
theorem dX5_number_73 : decode cX5_number 73 = .ok (.iinc 5 1, 3) := by decide +kernel
theorem dX5_number_76 : decode cX5_number 76 = .ok (.goto (-47), 3) := by decide +kernel
theorem dX5_number_79 : decode cX5_number 79 = .ok (.aload_n 0, 1) := by decide +kernel
theorem dX5_number_80 : decode cX5_number 80 = .ok (.iload 4, 2) := by decide +kernel
theorem dX5_number_82 : decode cX5_number 82 = .ok (.putfield 215, 3) := by decide +kernel
theorem dX5_number_85 : decode cX5_number 85 = .ok (.aload_n 0, 1) := by decide +kernel
theorem dX5_number_86 : decode cX5_number 86 = .ok (.iload_n 3, 1) := by decide +kernel
theorem dX5_number_87 : decode cX5_number 87 = .ok (.ifCond .eq 20, 3) := by decide +kernel
theorem dX5_number_90 : decode cX5_number 90 = .ok (.iload 4, 2) := by decide +kernel
theorem dX5_number_92 : decode cX5_number 92 = .ok (.i2l, 1) := by decide +kernel
theorem dX5_number_93 : decode cX5_number 93 = .ok (.iload_n 1, 1) := by decide +kernel
theorem dX5_number_94 : decode cX5_number 94 = .ok (.i2l, 1) := by decide +kernel
theorem dX5_number_95 : decode cX5_number 95 = .ok (.iload_n 2, 1) := by decide +kernel
theorem dX5_number_96 : decode cX5_number 96 = .ok (.i2l, 1) := by decide +kernel
theorem dX5_number_97 : decode cX5_number 97 = .ok (.invokestatic 43, 3) := by decide +kernel
theorem dX5_number_100 : decode cX5_number 100 = .ok (.ifCond .eq 7, 3) := by decide +kernel
theorem dX5_number_103 : decode cX5_number 103 = .ok (.iconst 1, 1) := by decide +kernel
theorem dX5_number_104 : decode cX5_number 104 = .ok (.goto 4, 3) := by decide +kernel
theorem dX5_number_107 : decode cX5_number 107 = .ok (.iconst 0, 1) := by decide +kernel
theorem dX5_number_108 : decode cX5_number 108 = .ok (.invokevirtual 218, 3) := by decide +kernel
theorem dX5_number_111 : decode cX5_number 111 = .ok (.return_, 1) := by decide +kernel
theorem dX5_kindHere_0 : decode cX5_kindHere 0 = .ok (.aload_n 0, 1) := by decide +kernel
theorem dX5_kindHere_1 : decode cX5_kindHere 1 = .ok (.bipush 99, 2) := by decide +kernel
theorem dX5_kindHere_3 : decode cX5_kindHere 3 = .ok (.bipush 117, 2) := by decide +kernel
theorem dX5_kindHere_5 : decode cX5_kindHere 5 = .ok (.bipush 114, 2) := by decide +kernel
theorem dX5_kindHere_7 : decode cX5_kindHere 7 = .ok (.bipush 118, 2) := by decide +kernel
theorem dX5_kindHere_9 : decode cX5_kindHere 9 = .ok (.bipush 101, 2) := by decide +kernel
theorem dX5_kindHere_11 : decode cX5_kindHere 11 = .ok (.iconst 0, 1) := by decide +kernel
theorem dX5_kindHere_12 : decode cX5_kindHere 12 = .ok (.iconst 0, 1) := by decide +kernel
theorem dX5_kindHere_13 : decode cX5_kindHere 13 = .ok (.iconst 0, 1) := by decide +kernel
theorem dX5_kindHere_14 : decode cX5_kindHere 14 = .ok (.iconst 0, 1) := by decide +kernel
theorem dX5_kindHere_15 : decode cX5_kindHere 15 = .ok (.invokevirtual 222, 3) := by decide +kernel
theorem dX5_kindHere_18 : decode cX5_kindHere 18 = .ok (.ifCond .eq 5, 3) := by decide +kernel
theorem dX5_kindHere_21 : decode cX5_kindHere 21 = .ok (.iconst 0, 1) := by decide +kernel
theorem dX5_kindHere_22 : decode cX5_kindHere 22 = .ok (.ireturn, 1) := by decide +kernel
theorem dX5_kindHere_23 : decode cX5_kindHere 23 = .ok (.aload_n 0, 1) := by decide +kernel
theorem dX5_kindHere_24 : decode cX5_kindHere 24 = .ok (.bipush 97, 2) := by decide +kernel
theorem dX5_kindHere_26 : decode cX5_kindHere 26 = .ok (.bipush 100, 2) := by decide +kernel
theorem dX5_kindHere_28 : decode cX5_kindHere 28 = .ok (.bipush 100, 2) := by decide +kernel
theorem dX5_kindHere_30 : decode cX5_kindHere 30 = .ok (.bipush 101, 2) := by decide +kernel
theorem dX5_kindHere_32 : decode cX5_kindHere 32 = .ok (.bipush 100, 2) := by decide +kernel
theorem dX5_kindHere_34 : decode cX5_kindHere 34 = .ok (.iconst 0, 1) := by decide +kernel
theorem dX5_kindHere_35 : decode cX5_kindHere 35 = .ok (.iconst 0, 1) := by decide +kernel
theorem dX5_kindHere_36 : decode cX5_kindHere 36 = .ok (.iconst 0, 1) := by decide +kernel
theorem dX5_kindHere_37 : decode cX5_kindHere 37 = .ok (.iconst 0, 1) := by decide +kernel
theorem dX5_kindHere_38 : decode cX5_kindHere 38 = .ok (.invokevirtual 222, 3) := by decide +kernel
theorem dX5_kindHere_41 : decode cX5_kindHere 41 = .ok (.ifCond .eq 7, 3) := by decide +kernel
theorem dX5_kindHere_44 : decode cX5_kindHere 44 = .ok (.iconst 1, 1) := by decide +kernel
theorem dX5_kindHere_45 : decode cX5_kindHere 45 = .ok (.goto 137, 3) := by decide +kernel
theorem dX5_kindHere_48 : decode cX5_kindHere 48 = .ok (.aload_n 0, 1) := by decide +kernel
theorem dX5_kindHere_49 : decode cX5_kindHere 49 = .ok (.bipush 115, 2) := by decide +kernel
theorem dX5_kindHere_51 : decode cX5_kindHere 51 = .ok (.bipush 116, 2) := by decide +kernel
theorem dX5_kindHere_53 : decode cX5_kindHere 53 = .ok (.bipush 114, 2) := by decide +kernel
theorem dX5_kindHere_55 : decode cX5_kindHere 55 = .ok (.bipush 101, 2) := by decide +kernel
theorem dX5_kindHere_57 : decode cX5_kindHere 57 = .ok (.bipush 116, 2) := by decide +kernel
theorem dX5_kindHere_59 : decode cX5_kindHere 59 = .ok (.bipush 99, 2) := by decide +kernel
theorem dX5_kindHere_61 : decode cX5_kindHere 61 = .ok (.bipush 104, 2) := by decide +kernel
theorem dX5_kindHere_63 : decode cX5_kindHere 63 = .ok (.bipush 101, 2) := by decide +kernel
theorem dX5_kindHere_65 : decode cX5_kindHere 65 = .ok (.bipush 100, 2) := by decide +kernel
theorem dX5_kindHere_67 : decode cX5_kindHere 67 = .ok (.invokevirtual 222, 3) := by decide +kernel
theorem dX5_kindHere_70 : decode cX5_kindHere 70 = .ok (.ifCond .eq 7, 3) := by decide +kernel
theorem dX5_kindHere_73 : decode cX5_kindHere 73 = .ok (.iconst 2, 1) := by decide +kernel
theorem dX5_kindHere_74 : decode cX5_kindHere 74 = .ok (.goto 108, 3) := by decide +kernel
theorem dX5_kindHere_77 : decode cX5_kindHere 77 = .ok (.aload_n 0, 1) := by decide +kernel
theorem dX5_kindHere_78 : decode cX5_kindHere 78 = .ok (.bipush 98, 2) := by decide +kernel
theorem dX5_kindHere_80 : decode cX5_kindHere 80 = .ok (.bipush 101, 2) := by decide +kernel
theorem dX5_kindHere_82 : decode cX5_kindHere 82 = .ok (.bipush 110, 2) := by decide +kernel
theorem dX5_kindHere_84 : decode cX5_kindHere 84 = .ok (.bipush 116, 2) := by decide +kernel
theorem dX5_kindHere_86 : decode cX5_kindHere 86 = .ok (.iconst 0, 1) := by decide +kernel
theorem dX5_kindHere_87 : decode cX5_kindHere 87 = .ok (.iconst 0, 1) := by decide +kernel
theorem dX5_kindHere_88 : decode cX5_kindHere 88 = .ok (.iconst 0, 1) := by decide +kernel
theorem dX5_kindHere_89 : decode cX5_kindHere 89 = .ok (.iconst 0, 1) := by decide +kernel
theorem dX5_kindHere_90 : decode cX5_kindHere 90 = .ok (.iconst 0, 1) := by decide +kernel
theorem dX5_kindHere_91 : decode cX5_kindHere 91 = .ok (.invokevirtual 222, 3) := by decide +kernel
theorem dX5_kindHere_94 : decode cX5_kindHere 94 = .ok (.ifCond .eq 7, 3) := by decide +kernel
theorem dX5_kindHere_97 : decode cX5_kindHere 97 = .ok (.iconst 3, 1) := by decide +kernel
theorem dX5_kindHere_98 : decode cX5_kindHere 98 = .ok (.goto 84, 3) := by decide +kernel
theorem dX5_kindHere_101 : decode cX5_kindHere 101 = .ok (.aload_n 0, 1) := by decide +kernel
theorem dX5_kindHere_102 : decode cX5_kindHere 102 = .ok (.bipush 115, 2) := by decide +kernel
theorem dX5_kindHere_104 : decode cX5_kindHere 104 = .ok (.bipush 104, 2) := by decide +kernel
theorem dX5_kindHere_106 : decode cX5_kindHere 106 = .ok (.bipush 97, 2) := by decide +kernel
theorem dX5_kindHere_108 : decode cX5_kindHere 108 = .ok (.bipush 114, 2) := by decide +kernel
theorem dX5_kindHere_110 : decode cX5_kindHere 110 = .ok (.bipush 101, 2) := by decide +kernel
theorem dX5_kindHere_112 : decode cX5_kindHere 112 = .ok (.bipush 100, 2) := by decide +kernel
theorem dX5_kindHere_114 : decode cX5_kindHere 114 = .ok (.iconst 0, 1) := by decide +kernel
theorem dX5_kindHere_115 : decode cX5_kindHere 115 = .ok (.iconst 0, 1) := by decide +kernel
theorem dX5_kindHere_116 : decode cX5_kindHere 116 = .ok (.iconst 0, 1) := by decide +kernel
theorem dX5_kindHere_117 : decode cX5_kindHere 117 = .ok (.invokevirtual 222, 3) := by decide +kernel
theorem dX5_kindHere_120 : decode cX5_kindHere 120 = .ok (.ifCond .eq 7, 3) := by decide +kernel
theorem dX5_kindHere_123 : decode cX5_kindHere 123 = .ok (.iconst 4, 1) := by decide +kernel
theorem dX5_kindHere_124 : decode cX5_kindHere 124 = .ok (.goto 58, 3) := by decide +kernel
theorem dX5_kindHere_127 : decode cX5_kindHere 127 = .ok (.aload_n 0, 1) := by decide +kernel
theorem dX5_kindHere_128 : decode cX5_kindHere 128 = .ok (.bipush 108, 2) := by decide +kernel
theorem dX5_kindHere_130 : decode cX5_kindHere 130 = .ok (.bipush 105, 2) := by decide +kernel
theorem dX5_kindHere_132 : decode cX5_kindHere 132 = .ok (.bipush 110, 2) := by decide +kernel
theorem dX5_kindHere_134 : decode cX5_kindHere 134 = .ok (.bipush 107, 2) := by decide +kernel
theorem dX5_kindHere_136 : decode cX5_kindHere 136 = .ok (.bipush 101, 2) := by decide +kernel
theorem dX5_kindHere_138 : decode cX5_kindHere 138 = .ok (.bipush 100, 2) := by decide +kernel
theorem dX5_kindHere_140 : decode cX5_kindHere 140 = .ok (.iconst 0, 1) := by decide +kernel
theorem dX5_kindHere_141 : decode cX5_kindHere 141 = .ok (.iconst 0, 1) := by decide +kernel
theorem dX5_kindHere_142 : decode cX5_kindHere 142 = .ok (.iconst 0, 1) := by decide +kernel
theorem dX5_kindHere_143 : decode cX5_kindHere 143 = .ok (.invokevirtual 222, 3) := by decide +kernel
theorem dX5_kindHere_146 : decode cX5_kindHere 146 = .ok (.ifCond .eq 7, 3) := by decide +kernel
theorem dX5_kindHere_149 : decode cX5_kindHere 149 = .ok (.iconst 5, 1) := by decide +kernel
theorem dX5_kindHere_150 : decode cX5_kindHere 150 = .ok (.goto 32, 3) := by decide +kernel
theorem dX5_kindHere_153 : decode cX5_kindHere 153 = .ok (.aload_n 0, 1) := by decide +kernel
theorem dX5_kindHere_154 : decode cX5_kindHere 154 = .ok (.bipush 100, 2) := by decide +kernel
theorem dX5_kindHere_156 : decode cX5_kindHere 156 = .ok (.bipush 114, 2) := by decide +kernel
theorem dX5_kindHere_158 : decode cX5_kindHere 158 = .ok (.bipush 111, 2) := by decide +kernel
theorem dX5_kindHere_160 : decode cX5_kindHere 160 = .ok (.bipush 112, 2) := by decide +kernel
theorem dX5_kindHere_162 : decode cX5_kindHere 162 = .ok (.bipush 112, 2) := by decide +kernel
theorem dX5_kindHere_164 : decode cX5_kindHere 164 = .ok (.bipush 101, 2) := by decide +kernel
theorem dX5_kindHere_166 : decode cX5_kindHere 166 = .ok (.bipush 100, 2) := by decide +kernel
theorem dX5_kindHere_168 : decode cX5_kindHere 168 = .ok (.iconst 0, 1) := by decide +kernel
theorem dX5_kindHere_169 : decode cX5_kindHere 169 = .ok (.iconst 0, 1) := by decide +kernel
theorem dX5_kindHere_170 : decode cX5_kindHere 170 = .ok (.invokevirtual 222, 3) := by decide +kernel
theorem dX5_kindHere_173 : decode cX5_kindHere 173 = .ok (.ifCond .eq 8, 3) := by decide +kernel
theorem dX5_kindHere_176 : decode cX5_kindHere 176 = .ok (.bipush 6, 2) := by decide +kernel
theorem dX5_kindHere_178 : decode cX5_kindHere 178 = .ok (.goto 4, 3) := by decide +kernel
theorem dX5_kindHere_181 : decode cX5_kindHere 181 = .ok (.iconst (-1), 1) := by decide +kernel
theorem dX5_kindHere_182 : decode cX5_kindHere 182 = .ok (.ireturn, 1) := by decide +kernel
theorem dX5_curveItem_0 : decode cX5_curveItem 0 = .ok (.aload_n 0, 1) := by decide +kernel
theorem dX5_curveItem_1 : decode cX5_curveItem 1 = .ok (.aload_n 0, 1) := by decide +kernel
theorem dX5_curveItem_2 : decode cX5_curveItem 2 = .ok (.getfield 7, 3) := by decide +kernel
theorem dX5_curveItem_5 : decode cX5_curveItem 5 = .ok (.bipush 18, 2) := by decide +kernel
theorem dX5_curveItem_7 : decode cX5_curveItem 7 = .ok (.iaload, 1) := by decide +kernel
theorem dX5_curveItem_8 : decode cX5_curveItem 8 = .ok (.bipush 6, 2) := by decide +kernel
theorem dX5_curveItem_10 : decode cX5_curveItem 10 = .ok (.if_icmp .ge 7, 3) := by decide +kernel
theorem dX5_curveItem_13 : decode cX5_curveItem 13 = .ok (.iconst 1, 1) := by decide +kernel
theorem dX5_curveItem_14 : decode cX5_curveItem 14 = .ok (.goto 4, 3) := by decide +kernel
theorem dX5_curveItem_17 : decode cX5_curveItem 17 = .ok (.iconst 0, 1) := by decide +kernel
theorem dX5_curveItem_18 : decode cX5_curveItem 18 = .ok (.invokevirtual 218, 3) := by decide +kernel
theorem dX5_curveItem_21 : decode cX5_curveItem 21 = .ok (.iconst 0, 1) := by decide +kernel
theorem dX5_curveItem_22 : decode cX5_curveItem 22 = .ok (.istore_n 2, 1) := by decide +kernel
theorem dX5_curveItem_23 : decode cX5_curveItem 23 = .ok (.aload_n 0, 1) := by decide +kernel
theorem dX5_curveItem_24 : decode cX5_curveItem 24 = .ok (.bipush 98, 2) := by decide +kernel
theorem dX5_curveItem_26 : decode cX5_curveItem 26 = .ok (.bipush 121, 2) := by decide +kernel
theorem dX5_curveItem_28 : decode cX5_curveItem 28 = .ok (.iconst 0, 1) := by decide +kernel
theorem dX5_curveItem_29 : decode cX5_curveItem 29 = .ok (.iconst 0, 1) := by decide +kernel
theorem dX5_curveItem_30 : decode cX5_curveItem 30 = .ok (.iconst 0, 1) := by decide +kernel
theorem dX5_curveItem_31 : decode cX5_curveItem 31 = .ok (.iconst 0, 1) := by decide +kernel
theorem dX5_curveItem_32 : decode cX5_curveItem 32 = .ok (.iconst 0, 1) := by decide +kernel
theorem dX5_curveItem_33 : decode cX5_curveItem 33 = .ok (.iconst 0, 1) := by decide +kernel
theorem dX5_curveItem_34 : decode cX5_curveItem 34 = .ok (.iconst 0, 1) := by decide +kernel
theorem dX5_curveItem_35 : decode cX5_curveItem 35 = .ok (.invokevirtual 222, 3) := by decide +kernel
theorem dX5_curveItem_38 : decode cX5_curveItem 38 = .ok (.ifCond .eq 20, 3) := by decide +kernel
theorem dX5_curveItem_41 : decode cX5_curveItem 41 = .ok (.aload_n 0, 1) := by decide +kernel
theorem dX5_curveItem_42 : decode cX5_curveItem 42 = .ok (.iconst 1, 1) := by decide +kernel
theorem dX5_curveItem_43 : decode cX5_curveItem 43 = .ok (.invokevirtual 218, 3) := by decide +kernel
theorem dX5_curveItem_46 : decode cX5_curveItem 46 = .ok (.aload_n 0, 1) := by decide +kernel
theorem dX5_curveItem_47 : decode cX5_curveItem 47 = .ok (.iconst 0, 1) := by decide +kernel
theorem dX5_curveItem_48 : decode cX5_curveItem 48 = .ok (.bipush 100, 2) := by decide +kernel
theorem dX5_curveItem_50 : decode cX5_curveItem 50 = .ok (.invokevirtual 226, 3) := by decide +kernel
theorem dX5_curveItem_53 : decode cX5_curveItem 53 = .ok (.aload_n 0, 1) := by decide +kernel
theorem dX5_curveItem_54 : decode cX5_curveItem 54 = .ok (.getfield 215, 3) := by decide +kernel
theorem dX5_curveItem_57 : decode cX5_curveItem 57 = .ok (.istore_n 2, 1) := by decide +kernel
theorem dX5_curveItem_58 : decode cX5_curveItem 58 = .ok (.aload_n 0, 1) := by decide +kernel
theorem dX5_curveItem_59 : decode cX5_curveItem 59 = .ok (.getfield 204, 3) := by decide +kernel
theorem dX5_curveItem_62 : decode cX5_curveItem 62 = .ok (.ifCond .ne 10, 3) := by decide +kernel
theorem dX5_curveItem_65 : decode cX5_curveItem 65 = .ok (.aload_n 0, 1) := by decide +kernel
theorem dX5_curveItem_66 : decode cX5_curveItem 66 = .ok (.iload_n 1, 1) := by decide +kernel
theorem dX5_curveItem_67 : decode cX5_curveItem 67 = .ok (.iload_n 2, 1) := by decide +kernel
theorem dX5_curveItem_68 : decode cX5_curveItem 68 = .ok (.invokevirtual 111, 3) := by decide +kernel
theorem dX5_curveItem_71 : decode cX5_curveItem 71 = .ok (.istore_n 3, 1) := by decide +kernel
theorem dX5_curveItem_72 : decode cX5_curveItem 72 = .ok (.return_, 1) := by decide +kernel
theorem dX5_pupilItem_0 : decode cX5_pupilItem 0 = .ok (.aload_n 0, 1) := by decide +kernel
theorem dX5_pupilItem_1 : decode cX5_pupilItem 1 = .ok (.aload_n 0, 1) := by decide +kernel
theorem dX5_pupilItem_2 : decode cX5_pupilItem 2 = .ok (.getfield 7, 3) := by decide +kernel
theorem dX5_pupilItem_5 : decode cX5_pupilItem 5 = .ok (.bipush 17, 2) := by decide +kernel
theorem dX5_pupilItem_7 : decode cX5_pupilItem 7 = .ok (.iaload, 1) := by decide +kernel
theorem dX5_pupilItem_8 : decode cX5_pupilItem 8 = .ok (.bipush 12, 2) := by decide +kernel
theorem dX5_pupilItem_10 : decode cX5_pupilItem 10 = .ok (.if_icmp .ge 7, 3) := by decide +kernel
theorem dX5_pupilItem_13 : decode cX5_pupilItem 13 = .ok (.iconst 1, 1) := by decide +kernel
theorem dX5_pupilItem_14 : decode cX5_pupilItem 14 = .ok (.goto 4, 3) := by decide +kernel
theorem dX5_pupilItem_17 : decode cX5_pupilItem 17 = .ok (.iconst 0, 1) := by decide +kernel
theorem dX5_pupilItem_18 : decode cX5_pupilItem 18 = .ok (.invokevirtual 218, 3) := by decide +kernel
theorem dX5_pupilItem_21 : decode cX5_pupilItem 21 = .ok (.aload_n 0, 1) := by decide +kernel
theorem dX5_pupilItem_22 : decode cX5_pupilItem 22 = .ok (.iconst 0, 1) := by decide +kernel
theorem dX5_pupilItem_23 : decode cX5_pupilItem 23 = .ok (.iconst 3, 1) := by decide +kernel
theorem dX5_pupilItem_24 : decode cX5_pupilItem 24 = .ok (.invokevirtual 226, 3) := by decide +kernel
theorem dX5_pupilItem_27 : decode cX5_pupilItem 27 = .ok (.aload_n 0, 1) := by decide +kernel
theorem dX5_pupilItem_28 : decode cX5_pupilItem 28 = .ok (.getfield 204, 3) := by decide +kernel
theorem dX5_pupilItem_31 : decode cX5_pupilItem 31 = .ok (.ifCond .eq 4, 3) := by decide +kernel
theorem dX5_pupilItem_34 : decode cX5_pupilItem 34 = .ok (.return_, 1) := by decide +kernel
theorem dX5_pupilItem_35 : decode cX5_pupilItem 35 = .ok (.aload_n 0, 1) := by decide +kernel
theorem dX5_pupilItem_36 : decode cX5_pupilItem 36 = .ok (.aload_n 0, 1) := by decide +kernel
theorem dX5_pupilItem_37 : decode cX5_pupilItem 37 = .ok (.getfield 215, 3) := by decide +kernel
theorem dX5_pupilItem_40 : decode cX5_pupilItem 40 = .ok (.invokevirtual 72, 3) := by decide +kernel
theorem dX5_pupilItem_43 : decode cX5_pupilItem 43 = .ok (.istore_n 1, 1) := by decide +kernel
theorem dX5_pupilItem_44 : decode cX5_pupilItem 44 = .ok (.iconst 0, 1) := by decide +kernel
theorem dX5_pupilItem_45 : decode cX5_pupilItem 45 = .ok (.istore_n 2, 1) := by decide +kernel
theorem dX5_pupilItem_46 : decode cX5_pupilItem 46 = .ok (.iload_n 2, 1) := by decide +kernel
theorem dX5_pupilItem_47 : decode cX5_pupilItem 47 = .ok (.bipush 8, 2) := by decide +kernel
theorem dX5_pupilItem_49 : decode cX5_pupilItem 49 = .ok (.if_icmp .ge 80, 3) := by decide +kernel
theorem dX5_pupilItem_52 : decode cX5_pupilItem 52 = .ok (.aload_n 0, 1) := by decide +kernel
theorem dX5_pupilItem_53 : decode cX5_pupilItem 53 = .ok (.getfield 204, 3) := by decide +kernel
theorem dX5_pupilItem_56 : decode cX5_pupilItem 56 = .ok (.ifCond .ne 73, 3) := by decide +kernel
theorem dX5_pupilItem_59 : decode cX5_pupilItem 59 = .ok (.aload_n 0, 1) := by decide +kernel
theorem dX5_pupilItem_60 : decode cX5_pupilItem 60 = .ok (.aload_n 0, 1) := by decide +kernel
theorem dX5_pupilItem_61 : decode cX5_pupilItem 61 = .ok (.getfield 192, 3) := by decide +kernel
theorem dX5_pupilItem_64 : decode cX5_pupilItem 64 = .ok (.invokevirtual 195, 3) := by decide +kernel
theorem dX5_pupilItem_67 : decode cX5_pupilItem 67 = .ok (.invokestatic 201, 3) := by decide +kernel
theorem dX5_pupilItem_70 : decode cX5_pupilItem 70 = .ok (.ifCond .eq 59, 3) := by decide +kernel
theorem dX5_pupilItem_73 : decode cX5_pupilItem 73 = .ok (.aload_n 0, 1) := by decide +kernel
theorem dX5_pupilItem_74 : decode cX5_pupilItem 74 = .ok (.iconst 0, 1) := by decide +kernel
theorem dX5_pupilItem_75 : decode cX5_pupilItem 75 = .ok (.aload_n 0, 1) := by decide +kernel
theorem dX5_pupilItem_76 : decode cX5_pupilItem 76 = .ok (.getfield 7, 3) := by decide +kernel
theorem dX5_pupilItem_79 : decode cX5_pupilItem 79 = .ok (.iconst 0, 1) := by decide +kernel
theorem dX5_pupilItem_80 : decode cX5_pupilItem 80 = .ok (.iload_n 2, 1) := by decide +kernel
theorem dX5_pupilItem_81 : decode cX5_pupilItem 81 = .ok (.iadd, 1) := by decide +kernel
theorem dX5_pupilItem_82 : decode cX5_pupilItem 82 = .ok (.iaload, 1) := by decide +kernel
theorem dX5_pupilItem_83 : decode cX5_pupilItem 83 = .ok (.invokevirtual 226, 3) := by decide +kernel
theorem dX5_pupilItem_86 : decode cX5_pupilItem 86 = .ok (.aload_n 0, 1) := by decide +kernel
theorem dX5_pupilItem_87 : decode cX5_pupilItem 87 = .ok (.getfield 204, 3) := by decide +kernel
theorem dX5_pupilItem_90 : decode cX5_pupilItem 90 = .ok (.ifCond .ne 33, 3) := by decide +kernel
theorem dX5_pupilItem_93 : decode cX5_pupilItem 93 = .ok (.aload_n 0, 1) := by decide +kernel
theorem dX5_pupilItem_94 : decode cX5_pupilItem 94 = .ok (.getfield 7, 3) := by decide +kernel
theorem dX5_pupilItem_97 : decode cX5_pupilItem 97 = .ok (.iload_n 1, 1) := by decide +kernel
theorem dX5_pupilItem_98 : decode cX5_pupilItem 98 = .ok (.iconst 0, 1) := by decide +kernel
theorem dX5_pupilItem_99 : decode cX5_pupilItem 99 = .ok (.iload_n 2, 1) := by decide +kernel
theorem dX5_pupilItem_100 : decode cX5_pupilItem 100 = .ok (.invokestatic 49, 3) := by decide +kernel
theorem dX5_pupilItem_103 : decode cX5_pupilItem 103 = .ok (.aload_n 0, 1) := by decide +kernel
theorem dX5_pupilItem_104 : decode cX5_pupilItem 104 = .ok (.getfield 215, 3) := by decide +kernel
theorem dX5_pupilItem_107 : decode cX5_pupilItem 107 = .ok (.iastore, 1) := by decide +kernel
theorem dX5_pupilItem_108 : decode cX5_pupilItem 108 = .ok (.aload_n 0, 1) := by decide +kernel
theorem dX5_pupilItem_109 : decode cX5_pupilItem 109 = .ok (.getfield 7, 3) := by decide +kernel
theorem dX5_pupilItem_112 : decode cX5_pupilItem 112 = .ok (.iload_n 1, 1) := by decide +kernel
theorem dX5_pupilItem_113 : decode cX5_pupilItem 113 = .ok (.iconst 1, 1) := by decide +kernel
theorem dX5_pupilItem_114 : decode cX5_pupilItem 114 = .ok (.iload_n 2, 1) := by decide +kernel
theorem dX5_pupilItem_115 : decode cX5_pupilItem 115 = .ok (.invokestatic 49, 3) := by decide +kernel
theorem dX5_pupilItem_118 : decode cX5_pupilItem 118 = .ok (.aload_n 0, 1) := by decide +kernel
theorem dX5_pupilItem_119 : decode cX5_pupilItem 119 = .ok (.getfield 215, 3) := by decide +kernel
theorem dX5_pupilItem_122 : decode cX5_pupilItem 122 = .ok (.iastore, 1) := by decide +kernel
theorem dX5_pupilItem_123 : decode cX5_pupilItem 123 = .ok (.iinc 2 1, 3) := by decide +kernel
theorem dX5_pupilItem_126 : decode cX5_pupilItem 126 = .ok (.goto (-80), 3) := by decide +kernel
theorem dX5_pupilItem_129 : decode cX5_pupilItem 129 = .ok (.return_, 1) := by decide +kernel
theorem dX5_item_0 : decode cX5_item 0 = .ok (.aload_n 0, 1) := by decide +kernel
theorem dX5_item_1 : decode cX5_item 1 = .ok (.invokevirtual 228, 3) := by decide +kernel
theorem dX5_item_4 : decode cX5_item 4 = .ok (.istore_n 1, 1) := by decide +kernel
theorem dX5_item_5 : decode cX5_item 5 = .ok (.iload_n 1, 1) := by decide +kernel
theorem dX5_item_6 : decode cX5_item 6 = .ok (.ifCond .lt 11, 3) := by decide +kernel
theorem dX5_item_9 : decode cX5_item 9 = .ok (.aload_n 0, 1) := by decide +kernel
theorem dX5_item_10 : decode cX5_item 10 = .ok (.iload_n 1, 1) := by decide +kernel
theorem dX5_item_11 : decode cX5_item 11 = .ok (.invokevirtual 231, 3) := by decide +kernel
theorem dX5_item_14 : decode cX5_item 14 = .ok (.goto 183, 3) := by decide +kernel
theorem dX5_item_17 : decode cX5_item 17 = .ok (.aload_n 0, 1) := by decide +kernel
theorem dX5_item_18 : decode cX5_item 18 = .ok (.bipush 112, 2) := by decide +kernel
theorem dX5_item_20 : decode cX5_item 20 = .ok (.bipush 117, 2) := by decide +kernel
theorem dX5_item_22 : decode cX5_item 22 = .ok (.bipush 112, 2) := by decide +kernel
theorem dX5_item_24 : decode cX5_item 24 = .ok (.bipush 105, 2) := by decide +kernel
theorem dX5_item_26 : decode cX5_item 26 = .ok (.bipush 108, 2) := by decide +kernel
theorem dX5_item_28 : decode cX5_item 28 = .ok (.iconst 0, 1) := by decide +kernel
theorem dX5_item_29 : decode cX5_item 29 = .ok (.iconst 0, 1) := by decide +kernel
theorem dX5_item_30 : decode cX5_item 30 = .ok (.iconst 0, 1) := by decide +kernel
theorem dX5_item_31 : decode cX5_item 31 = .ok (.iconst 0, 1) := by decide +kernel
theorem dX5_item_32 : decode cX5_item 32 = .ok (.invokevirtual 222, 3) := by decide +kernel
theorem dX5_item_35 : decode cX5_item 35 = .ok (.ifCond .eq 10, 3) := by decide +kernel
theorem dX5_item_38 : decode cX5_item 38 = .ok (.aload_n 0, 1) := by decide +kernel
theorem dX5_item_39 : decode cX5_item 39 = .ok (.invokevirtual 234, 3) := by decide +kernel
theorem dX5_item_42 : decode cX5_item 42 = .ok (.goto 155, 3) := by decide +kernel
theorem dX5_item_45 : decode cX5_item 45 = .ok (.aload_n 0, 1) := by decide +kernel
theorem dX5_item_46 : decode cX5_item 46 = .ok (.bipush 99, 2) := by decide +kernel
theorem dX5_item_48 : decode cX5_item 48 = .ok (.bipush 111, 2) := by decide +kernel
theorem dX5_item_50 : decode cX5_item 50 = .ok (.bipush 109, 2) := by decide +kernel
theorem dX5_item_52 : decode cX5_item 52 = .ok (.bipush 109, 2) := by decide +kernel
theorem dX5_item_54 : decode cX5_item 54 = .ok (.bipush 111, 2) := by decide +kernel
theorem dX5_item_56 : decode cX5_item 56 = .ok (.bipush 110, 2) := by decide +kernel
theorem dX5_item_58 : decode cX5_item 58 = .ok (.iconst 0, 1) := by decide +kernel
theorem dX5_item_59 : decode cX5_item 59 = .ok (.iconst 0, 1) := by decide +kernel
theorem dX5_item_60 : decode cX5_item 60 = .ok (.iconst 0, 1) := by decide +kernel
theorem dX5_item_61 : decode cX5_item 61 = .ok (.invokevirtual 222, 3) := by decide +kernel
theorem dX5_item_64 : decode cX5_item 64 = .ok (.ifCond .eq 51, 3) := by decide +kernel
theorem dX5_item_67 : decode cX5_item 67 = .ok (.aload_n 0, 1) := by decide +kernel
theorem dX5_item_68 : decode cX5_item 68 = .ok (.iconst 1, 1) := by decide +kernel
theorem dX5_item_69 : decode cX5_item 69 = .ok (.invokevirtual 218, 3) := by decide +kernel
theorem dX5_item_72 : decode cX5_item 72 = .ok (.aload_n 0, 1) := by decide +kernel
theorem dX5_item_73 : decode cX5_item 73 = .ok (.iconst 0, 1) := by decide +kernel
theorem dX5_item_74 : decode cX5_item 74 = .ok (.bipush 7, 2) := by decide +kernel
theorem dX5_item_76 : decode cX5_item 76 = .ok (.invokevirtual 226, 3) := by decide +kernel
theorem dX5_item_79 : decode cX5_item 79 = .ok (.aload_n 0, 1) := by decide +kernel
theorem dX5_item_80 : decode cX5_item 80 = .ok (.getfield 215, 3) := by decide +kernel
theorem dX5_item_83 : decode cX5_item 83 = .ok (.istore_n 2, 1) := by decide +kernel
theorem dX5_item_84 : decode cX5_item 84 = .ok (.aload_n 0, 1) := by decide +kernel
theorem dX5_item_85 : decode cX5_item 85 = .ok (.iconst 0, 1) := by decide +kernel
theorem dX5_item_86 : decode cX5_item 86 = .ok (.sipush 400, 3) := by decide +kernel
theorem dX5_item_89 : decode cX5_item 89 = .ok (.invokevirtual 226, 3) := by decide +kernel
theorem dX5_item_92 : decode cX5_item 92 = .ok (.aload_n 0, 1) := by decide +kernel
theorem dX5_item_93 : decode cX5_item 93 = .ok (.getfield 204, 3) := by decide +kernel
theorem dX5_item_96 : decode cX5_item 96 = .ok (.ifCond .ne 16, 3) := by decide +kernel
theorem dX5_item_99 : decode cX5_item 99 = .ok (.aload_n 0, 1) := by decide +kernel
theorem dX5_item_100 : decode cX5_item 100 = .ok (.getfield 7, 3) := by decide +kernel
theorem dX5_item_103 : decode cX5_item 103 = .ok (.bipush 8, 2) := by decide +kernel
theorem dX5_item_105 : decode cX5_item 105 = .ok (.iload_n 2, 1) := by decide +kernel
theorem dX5_item_106 : decode cX5_item 106 = .ok (.iadd, 1) := by decide +kernel
theorem dX5_item_107 : decode cX5_item 107 = .ok (.aload_n 0, 1) := by decide +kernel
theorem dX5_item_108 : decode cX5_item 108 = .ok (.getfield 215, 3) := by decide +kernel
theorem dX5_item_111 : decode cX5_item 111 = .ok (.iastore, 1) := by decide +kernel
theorem dX5_item_112 : decode cX5_item 112 = .ok (.goto 85, 3) := by decide +kernel
theorem dX5_item_115 : decode cX5_item 115 = .ok (.aload_n 0, 1) := by decide +kernel
theorem dX5_item_116 : decode cX5_item 116 = .ok (.aload_n 0, 1) := by decide +kernel
theorem dX5_item_117 : decode cX5_item 117 = .ok (.bipush 113, 2) := by decide +kernel
theorem dX5_item_119 : decode cX5_item 119 = .ok (.bipush 117, 2) := by decide +kernel
theorem dX5_item_121 : decode cX5_item 121 = .ok (.bipush 101, 2) := by decide +kernel
theorem dX5_item_123 : decode cX5_item 123 = .ok (.bipush 115, 2) := by decide +kernel
theorem dX5_item_125 : decode cX5_item 125 = .ok (.bipush 116, 2) := by decide +kernel
theorem dX5_item_127 : decode cX5_item 127 = .ok (.bipush 105, 2) := by decide +kernel
theorem dX5_item_129 : decode cX5_item 129 = .ok (.bipush 111, 2) := by decide +kernel
theorem dX5_item_131 : decode cX5_item 131 = .ok (.bipush 110, 2) := by decide +kernel
theorem dX5_item_133 : decode cX5_item 133 = .ok (.iconst 0, 1) := by decide +kernel
theorem dX5_item_134 : decode cX5_item 134 = .ok (.invokevirtual 222, 3) := by decide +kernel
theorem dX5_item_137 : decode cX5_item 137 = .ok (.invokevirtual 218, 3) := by decide +kernel
theorem dX5_item_140 : decode cX5_item 140 = .ok (.aload_n 0, 1) := by decide +kernel
theorem dX5_item_141 : decode cX5_item 141 = .ok (.iconst 0, 1) := by decide +kernel
theorem dX5_item_142 : decode cX5_item 142 = .ok (.bipush 7, 2) := by decide +kernel
theorem dX5_item_144 : decode cX5_item 144 = .ok (.invokevirtual 226, 3) := by decide +kernel
theorem dX5_item_147 : decode cX5_item 147 = .ok (.aload_n 0, 1) := by decide +kernel
theorem dX5_item_148 : decode cX5_item 148 = .ok (.getfield 215, 3) := by decide +kernel
theorem dX5_item_151 : decode cX5_item 151 = .ok (.istore_n 2, 1) := by decide +kernel
theorem dX5_item_152 : decode cX5_item 152 = .ok (.aload_n 0, 1) := by decide +kernel
theorem dX5_item_153 : decode cX5_item 153 = .ok (.aload_n 0, 1) := by decide +kernel
theorem dX5_item_154 : decode cX5_item 154 = .ok (.bipush 119, 2) := by decide +kernel
theorem dX5_item_156 : decode cX5_item 156 = .ok (.bipush 111, 2) := by decide +kernel
theorem dX5_item_158 : decode cX5_item 158 = .ok (.bipush 114, 2) := by decide +kernel
theorem dX5_item_160 : decode cX5_item 160 = .ok (.bipush 116, 2) := by decide +kernel
theorem dX5_item_162 : decode cX5_item 162 = .ok (.bipush 104, 2) := by decide +kernel
theorem dX5_item_164 : decode cX5_item 164 = .ok (.iconst 0, 1) := by decide +kernel
theorem dX5_item_165 : decode cX5_item 165 = .ok (.iconst 0, 1) := by decide +kernel
theorem dX5_item_166 : decode cX5_item 166 = .ok (.iconst 0, 1) := by decide +kernel
theorem dX5_item_167 : decode cX5_item 167 = .ok (.iconst 0, 1) := by decide +kernel
theorem dX5_item_168 : decode cX5_item 168 = .ok (.invokevirtual 222, 3) := by decide +kernel
theorem dX5_item_171 : decode cX5_item 171 = .ok (.invokevirtual 218, 3) := by decide +kernel
theorem dX5_item_174 : decode cX5_item 174 = .ok (.aload_n 0, 1) := by decide +kernel
theorem dX5_item_175 : decode cX5_item 175 = .ok (.iconst 0, 1) := by decide +kernel
theorem dX5_item_176 : decode cX5_item 176 = .ok (.bipush 40, 2) := by decide +kernel
theorem dX5_item_178 : decode cX5_item 178 = .ok (.invokevirtual 226, 3) := by decide +kernel
theorem dX5_item_181 : decode cX5_item 181 = .ok (.aload_n 0, 1) := by decide +kernel
theorem dX5_item_182 : decode cX5_item 182 = .ok (.getfield 204, 3) := by decide +kernel
theorem dX5_item_185 : decode cX5_item 185 = .ok (.ifCond .ne 12, 3) := by decide +kernel
theorem dX5_item_188 : decode cX5_item 188 = .ok (.aload_n 0, 1) := by decide +kernel
theorem dX5_item_189 : decode cX5_item 189 = .ok (.iload_n 2, 1) := by decide +kernel
theorem dX5_item_190 : decode cX5_item 190 = .ok (.aload_n 0, 1) := by decide +kernel
theorem dX5_item_191 : decode cX5_item 191 = .ok (.getfield 215, 3) := by decide +kernel
theorem dX5_item_194 : decode cX5_item 194 = .ok (.invokevirtual 63, 3) := by decide +kernel
theorem dX5_item_197 : decode cX5_item 197 = .ok (.return_, 1) := by decide +kernel
theorem dX5_text_0 : decode cX5_text 0 = .ok (.aload_n 0, 1) := by decide +kernel
theorem dX5_text_1 : decode cX5_text 1 = .ok (.invokevirtual 146, 3) := by decide +kernel
theorem dX5_text_4 : decode cX5_text 4 = .ok (.aload_n 0, 1) := by decide +kernel
theorem dX5_text_5 : decode cX5_text 5 = .ok (.iconst 0, 1) := by decide +kernel
theorem dX5_text_6 : decode cX5_text 6 = .ok (.putfield 189, 3) := by decide +kernel
theorem dX5_text_9 : decode cX5_text 9 = .ok (.aload_n 0, 1) := by decide +kernel
theorem dX5_text_10 : decode cX5_text 10 = .ok (.iconst 0, 1) := by decide +kernel
theorem dX5_text_11 : decode cX5_text 11 = .ok (.putfield 204, 3) := by decide +kernel
theorem dX5_text_14 : decode cX5_text 14 = .ok (.aload_n 0, 1) := by decide +kernel
theorem dX5_text_15 : decode cX5_text 15 = .ok (.invokevirtual 208, 3) := by decide +kernel
theorem dX5_text_18 : decode cX5_text 18 = .ok (.iconst 1, 1) := by decide +kernel
theorem dX5_text_19 : decode cX5_text 19 = .ok (.istore_n 1, 1) := by decide +kernel
theorem dX5_text_20 : decode cX5_text 20 = .ok (.aload_n 0, 1) := by decide +kernel
theorem dX5_text_21 : decode cX5_text 21 = .ok (.invokevirtual 237, 3) := by decide +kernel
theorem dX5_text_24 : decode cX5_text 24 = .ok (.aload_n 0, 1) := by decide +kernel
theorem dX5_text_25 : decode cX5_text 25 = .ok (.getfield 204, 3) := by decide +kernel
theorem dX5_text_28 : decode cX5_text 28 = .ok (.ifCond .ne 46, 3) := by decide +kernel
theorem dX5_text_31 : decode cX5_text 31 = .ok (.aload_n 0, 1) := by decide +kernel
theorem dX5_text_32 : decode cX5_text 32 = .ok (.getfield 192, 3) := by decide +kernel
theorem dX5_text_35 : decode cX5_text 35 = .ok (.aload_n 0, 1) := by decide +kernel
theorem dX5_text_36 : decode cX5_text 36 = .ok (.getfield 177, 3) := by decide +kernel
theorem dX5_text_39 : decode cX5_text 39 = .ok (.if_icmp .ge 35, 3) := by decide +kernel
theorem dX5_text_42 : decode cX5_text 42 = .ok (.aload_n 0, 1) := by decide +kernel
theorem dX5_text_43 : decode cX5_text 43 = .ok (.aload_n 0, 1) := by decide +kernel
theorem dX5_text_44 : decode cX5_text 44 = .ok (.aload_n 0, 1) := by decide +kernel
theorem dX5_text_45 : decode cX5_text 45 = .ok (.getfield 192, 3) := by decide +kernel
theorem dX5_text_48 : decode cX5_text 48 = .ok (.invokevirtual 195, 3) := by decide +kernel
theorem dX5_text_51 : decode cX5_text 51 = .ok (.bipush 59, 2) := by decide +kernel
theorem dX5_text_53 : decode cX5_text 53 = .ok (.if_icmp .ne 7, 3) := by decide +kernel
theorem dX5_text_56 : decode cX5_text 56 = .ok (.iconst 1, 1) := by decide +kernel
theorem dX5_text_57 : decode cX5_text 57 = .ok (.goto 4, 3) := by decide +kernel
theorem dX5_text_60 : decode cX5_text 60 = .ok (.iconst 0, 1) := by decide +kernel
theorem dX5_text_61 : decode cX5_text 61 = .ok (.invokevirtual 218, 3) := by decide +kernel
theorem dX5_text_64 : decode cX5_text 64 = .ok (.aload_n 0, 1) := by decide +kernel
theorem dX5_text_65 : decode cX5_text 65 = .ok (.invokevirtual 237, 3) := by decide +kernel
theorem dX5_text_68 : decode cX5_text 68 = .ok (.iinc 1 1, 3) := by decide +kernel
theorem dX5_text_71 : decode cX5_text 71 = .ok (.goto (-47), 3) := by decide +kernel
theorem dX5_text_74 : decode cX5_text 74 = .ok (.aload_n 0, 1) := by decide +kernel
theorem dX5_text_75 : decode cX5_text 75 = .ok (.iconst 0, 1) := by decide +kernel
theorem dX5_text_76 : decode cX5_text 76 = .ok (.putfield 177, 3) := by decide +kernel
theorem dX5_text_79 : decode cX5_text 79 = .ok (.aload_n 0, 1) := by decide +kernel
theorem dX5_text_80 : decode cX5_text 80 = .ok (.getfield 204, 3) := by decide +kernel
theorem dX5_text_83 : decode cX5_text 83 = .ok (.ifCond .eq 14, 3) := by decide +kernel
theorem dX5_text_86 : decode cX5_text 86 = .ok (.aload_n 0, 1) := by decide +kernel
theorem dX5_text_87 : decode cX5_text 87 = .ok (.invokevirtual 149, 3) := by decide +kernel
theorem dX5_text_90 : decode cX5_text 90 = .ok (.iconst (-1), 1) := by decide +kernel
theorem dX5_text_91 : decode cX5_text 91 = .ok (.aload_n 0, 1) := by decide +kernel
theorem dX5_text_92 : decode cX5_text 92 = .ok (.getfield 192, 3) := by decide +kernel
theorem dX5_text_95 : decode cX5_text 95 = .ok (.isub, 1) := by decide +kernel
theorem dX5_text_96 : decode cX5_text 96 = .ok (.ireturn, 1) := by decide +kernel
theorem dX5_text_97 : decode cX5_text 97 = .ok (.iload_n 1, 1) := by decide +kernel
theorem dX5_text_98 : decode cX5_text 98 = .ok (.ireturn, 1) := by decide +kernel
theorem dX5_hold_0 : decode cX5_hold 0 = .ok (.iload_n 1, 1) := by decide +kernel
theorem dX5_hold_1 : decode cX5_hold 1 = .ok (.i2l, 1) := by decide +kernel
theorem dX5_hold_2 : decode cX5_hold 2 = .ok (.lconst 0, 1) := by decide +kernel
theorem dX5_hold_3 : decode cX5_hold 3 = .ok (.ldc2_w 82, 3) := by decide +kernel
theorem dX5_hold_6 : decode cX5_hold 6 = .ok (.invokestatic 43, 3) := by decide +kernel
theorem dX5_hold_9 : decode cX5_hold 9 = .ok (.ifCond .eq 16, 3) := by decide +kernel
theorem dX5_hold_12 : decode cX5_hold 12 = .ok (.iload_n 2, 1) := by decide +kernel
theorem dX5_hold_13 : decode cX5_hold 13 = .ok (.iconst (-1), 1) := by decide +kernel
theorem dX5_hold_14 : decode cX5_hold 14 = .ok (.if_icmp .eq 18, 3) := by decide +kernel
theorem dX5_hold_17 : decode cX5_hold 17 = .ok (.aload_n 0, 1) := by decide +kernel
theorem dX5_hold_18 : decode cX5_hold 18 = .ok (.iload_n 2, 1) := by decide +kernel
theorem dX5_hold_19 : decode cX5_hold 19 = .ok (.invokevirtual 114, 3) := by decide +kernel
theorem dX5_hold_22 : decode cX5_hold 22 = .ok (.ifCond .ne 10, 3) := by decide +kernel
theorem dX5_hold_25 : decode cX5_hold 25 = .ok (.aload_n 0, 1) := by decide +kernel
theorem dX5_hold_26 : decode cX5_hold 26 = .ok (.ldc 40, 2) := by decide +kernel
theorem dX5_hold_28 : decode cX5_hold 28 = .ok (.invokevirtual 59, 3) := by decide +kernel
theorem dX5_hold_31 : decode cX5_hold 31 = .ok (.ireturn, 1) := by decide +kernel
theorem dX5_hold_32 : decode cX5_hold 32 = .ok (.aload_n 0, 1) := by decide +kernel
theorem dX5_hold_33 : decode cX5_hold 33 = .ok (.getfield 7, 3) := by decide +kernel
theorem dX5_hold_36 : decode cX5_hold 36 = .ok (.sipush 235, 3) := by decide +kernel
theorem dX5_hold_39 : decode cX5_hold 39 = .ok (.iload_n 1, 1) := by decide +kernel
theorem dX5_hold_40 : decode cX5_hold 40 = .ok (.iadd, 1) := by decide +kernel
theorem dX5_hold_41 : decode cX5_hold 41 = .ok (.iload_n 2, 1) := by decide +kernel
theorem dX5_hold_42 : decode cX5_hold 42 = .ok (.iastore, 1) := by decide +kernel
theorem dX5_hold_43 : decode cX5_hold 43 = .ok (.iconst 1, 1) := by decide +kernel
theorem dX5_hold_44 : decode cX5_hold 44 = .ok (.ireturn, 1) := by decide +kernel
theorem dX5_as_0 : decode cX5_as 0 = .ok (.iload_n 1, 1) := by decide +kernel
theorem dX5_as_1 : decode cX5_as 1 = .ok (.i2l, 1) := by decide +kernel
theorem dX5_as_2 : decode cX5_as 2 = .ok (.lconst 0, 1) := by decide +kernel
theorem dX5_as_3 : decode cX5_as 3 = .ok (.ldc2_w 82, 3) := by decide +kernel
theorem dX5_as_6 : decode cX5_as 6 = .ok (.invokestatic 43, 3) := by decide +kernel
theorem dX5_as_9 : decode cX5_as 9 = .ok (.ifCond .eq 15, 3) := by decide +kernel
theorem dX5_as_12 : decode cX5_as 12 = .ok (.iload_n 2, 1) := by decide +kernel
theorem dX5_as_13 : decode cX5_as 13 = .ok (.i2l, 1) := by decide +kernel
theorem dX5_as_14 : decode cX5_as 14 = .ok (.lconst 0, 1) := by decide +kernel
theorem dX5_as_15 : decode cX5_as 15 = .ok (.ldc2_w 107, 3) := by decide +kernel
theorem dX5_as_18 : decode cX5_as 18 = .ok (.invokestatic 43, 3) := by decide +kernel
theorem dX5_as_21 : decode cX5_as 21 = .ok (.ifCond .ne 10, 3) := by decide +kernel
theorem dX5_as_24 : decode cX5_as 24 = .ok (.aload_n 0, 1) := by decide +kernel
theorem dX5_as_25 : decode cX5_as 25 = .ok (.ldc 40, 2) := by decide +kernel
theorem dX5_as_27 : decode cX5_as 27 = .ok (.invokevirtual 59, 3) := by decide +kernel
theorem dX5_as_30 : decode cX5_as 30 = .ok (.ireturn, 1) := by decide +kernel
theorem dX5_as_31 : decode cX5_as 31 = .ok (.aload_n 0, 1) := by decide +kernel
theorem dX5_as_32 : decode cX5_as 32 = .ok (.getfield 7, 3) := by decide +kernel
theorem dX5_as_35 : decode cX5_as 35 = .ok (.sipush 235, 3) := by decide +kernel
theorem dX5_as_38 : decode cX5_as 38 = .ok (.iload_n 1, 1) := by decide +kernel
theorem dX5_as_39 : decode cX5_as 39 = .ok (.iadd, 1) := by decide +kernel
theorem dX5_as_40 : decode cX5_as 40 = .ok (.iaload, 1) := by decide +kernel
theorem dX5_as_41 : decode cX5_as 41 = .ok (.istore_n 3, 1) := by decide +kernel
theorem dX5_as_42 : decode cX5_as 42 = .ok (.iload_n 3, 1) := by decide +kernel
theorem dX5_as_43 : decode cX5_as 43 = .ok (.ifCond .ge 10, 3) := by decide +kernel
theorem dX5_as_46 : decode cX5_as 46 = .ok (.aload_n 0, 1) := by decide +kernel
theorem dX5_as_47 : decode cX5_as 47 = .ok (.ldc 240, 2) := by decide +kernel
theorem dX5_as_49 : decode cX5_as 49 = .ok (.invokevirtual 59, 3) := by decide +kernel
theorem dX5_as_52 : decode cX5_as 52 = .ok (.ireturn, 1) := by decide +kernel
theorem dX5_as_53 : decode cX5_as 53 = .ok (.aload_n 0, 1) := by decide +kernel
theorem dX5_as_54 : decode cX5_as 54 = .ok (.getfield 7, 3) := by decide +kernel
theorem dX5_as_57 : decode cX5_as 57 = .ok (.sipush 223, 3) := by decide +kernel
theorem dX5_as_60 : decode cX5_as 60 = .ok (.iconst 2, 1) := by decide +kernel
theorem dX5_as_61 : decode cX5_as 61 = .ok (.iload_n 3, 1) := by decide +kernel
theorem dX5_as_62 : decode cX5_as 62 = .ok (.imul, 1) := by decide +kernel
theorem dX5_as_63 : decode cX5_as 63 = .ok (.iadd, 1) := by decide +kernel
theorem dX5_as_64 : decode cX5_as 64 = .ok (.iaload, 1) := by decide +kernel
theorem dX5_as_65 : decode cX5_as 65 = .ok (.istore 4, 2) := by decide +kernel
theorem dX5_as_67 : decode cX5_as 67 = .ok (.iload_n 2, 1) := by decide +kernel
theorem dX5_as_68 : decode cX5_as 68 = .ok (.ifCond .eq 31, 3) := by decide +kernel
theorem dX5_as_71 : decode cX5_as 71 = .ok (.iload 4, 2) := by decide +kernel
theorem dX5_as_73 : decode cX5_as 73 = .ok (.iload_n 2, 1) := by decide +kernel
theorem dX5_as_74 : decode cX5_as 74 = .ok (.if_icmp .eq 25, 3) := by decide +kernel
theorem dX5_as_77 : decode cX5_as 77 = .ok (.iload_n 2, 1) := by decide +kernel
theorem dX5_as_78 : decode cX5_as 78 = .ok (.iconst 1, 1) := by decide +kernel
theorem dX5_as_79 : decode cX5_as 79 = .ok (.if_icmp .ne 9, 3) := by decide +kernel
theorem dX5_as_82 : decode cX5_as 82 = .ok (.iload 4, 2) := by decide +kernel
theorem dX5_as_84 : decode cX5_as 84 = .ok (.iconst 5, 1) := by decide +kernel
theorem dX5_as_85 : decode cX5_as 85 = .ok (.if_icmp .eq 14, 3) := by decide +kernel
theorem dX5_as_88 : decode cX5_as 88 = .ok (.iload_n 2, 1) := by decide +kernel
theorem dX5_as_89 : decode cX5_as 89 = .ok (.iconst 2, 1) := by decide +kernel
theorem dX5_as_90 : decode cX5_as 90 = .ok (.if_icmp .ne 13, 3) := by decide +kernel
theorem dX5_as_93 : decode cX5_as 93 = .ok (.iload 4, 2) := by decide +kernel
theorem dX5_as_95 : decode cX5_as 95 = .ok (.iconst 3, 1) := by decide +kernel
theorem dX5_as_96 : decode cX5_as 96 = .ok (.if_icmp .ne 7, 3) := by decide +kernel
theorem dX5_as_99 : decode cX5_as 99 = .ok (.iconst 1, 1) := by decide +kernel
theorem dX5_as_100 : decode cX5_as 100 = .ok (.goto 4, 3) := by decide +kernel
theorem dX5_as_103 : decode cX5_as 103 = .ok (.iconst 0, 1) := by decide +kernel
theorem dX5_as_104 : decode cX5_as 104 = .ok (.istore 5, 2) := by decide +kernel
theorem dX5_as_106 : decode cX5_as 106 = .ok (.iload 5, 2) := by decide +kernel
theorem dX5_as_108 : decode cX5_as 108 = .ok (.ifCond .eq 7, 3) := by decide +kernel
theorem dX5_as_111 : decode cX5_as 111 = .ok (.iload_n 3, 1) := by decide +kernel
theorem dX5_as_112 : decode cX5_as 112 = .ok (.goto 9, 3) := by decide +kernel
theorem dX5_as_115 : decode cX5_as 115 = .ok (.aload_n 0, 1) := by decide +kernel
theorem dX5_as_116 : decode cX5_as 116 = .ok (.ldc 241, 2) := by decide +kernel
theorem dX5_as_118 : decode cX5_as 118 = .ok (.invokevirtual 59, 3) := by decide +kernel
theorem dX5_as_121 : decode cX5_as 121 = .ok (.ireturn, 1) := by decide +kernel
theorem dX5_isOne_0 : decode cX5_isOne 0 = .ok (.iload_n 0, 1) := by decide +kernel
theorem dX5_isOne_1 : decode cX5_isOne 1 = .ok (.i2l, 1) := by decide +kernel
theorem dX5_isOne_2 : decode cX5_isOne 2 = .ok (.lconst 0, 1) := by decide +kernel
theorem dX5_isOne_3 : decode cX5_isOne 3 = .ok (.ldc2_w 69, 3) := by decide +kernel
theorem dX5_isOne_6 : decode cX5_isOne 6 = .ok (.invokestatic 43, 3) := by decide +kernel
theorem dX5_isOne_9 : decode cX5_isOne 9 = .ok (.ireturn, 1) := by decide +kernel
theorem dX5_sheet_0 : decode cX5_sheet 0 = .ok (.iload_n 1, 1) := by decide +kernel
theorem dX5_sheet_1 : decode cX5_sheet 1 = .ok (.invokestatic 242, 3) := by decide +kernel
theorem dX5_sheet_4 : decode cX5_sheet 4 = .ok (.ifCond .eq 25, 3) := by decide +kernel
theorem dX5_sheet_7 : decode cX5_sheet 7 = .ok (.iload_n 2, 1) := by decide +kernel
theorem dX5_sheet_8 : decode cX5_sheet 8 = .ok (.ifCond .eq 28, 3) := by decide +kernel
theorem dX5_sheet_11 : decode cX5_sheet 11 = .ok (.iload_n 2, 1) := by decide +kernel
theorem dX5_sheet_12 : decode cX5_sheet 12 = .ok (.bipush 8, 2) := by decide +kernel
theorem dX5_sheet_14 : decode cX5_sheet 14 = .ok (.if_icmp .eq 22, 3) := by decide +kernel
theorem dX5_sheet_17 : decode cX5_sheet 17 = .ok (.iload_n 2, 1) := by decide +kernel
theorem dX5_sheet_18 : decode cX5_sheet 18 = .ok (.bipush 16, 2) := by decide +kernel
theorem dX5_sheet_20 : decode cX5_sheet 20 = .ok (.if_icmp .eq 16, 3) := by decide +kernel
theorem dX5_sheet_23 : decode cX5_sheet 23 = .ok (.iload_n 2, 1) := by decide +kernel
theorem dX5_sheet_24 : decode cX5_sheet 24 = .ok (.bipush 32, 2) := by decide +kernel
theorem dX5_sheet_26 : decode cX5_sheet 26 = .ok (.if_icmp .eq 10, 3) := by decide +kernel
theorem dX5_sheet_29 : decode cX5_sheet 29 = .ok (.aload_n 0, 1) := by decide +kernel
theorem dX5_sheet_30 : decode cX5_sheet 30 = .ok (.ldc 40, 2) := by decide +kernel
theorem dX5_sheet_32 : decode cX5_sheet 32 = .ok (.invokevirtual 59, 3) := by decide +kernel
theorem dX5_sheet_35 : decode cX5_sheet 35 = .ok (.ireturn, 1) := by decide +kernel
theorem dX5_sheet_36 : decode cX5_sheet 36 = .ok (.iload_n 3, 1) := by decide +kernel
theorem dX5_sheet_37 : decode cX5_sheet 37 = .ok (.ifCond .ge 10, 3) := by decide +kernel
theorem dX5_sheet_40 : decode cX5_sheet 40 = .ok (.aload_n 0, 1) := by decide +kernel
theorem dX5_sheet_41 : decode cX5_sheet 41 = .ok (.ldc 245, 2) := by decide +kernel
theorem dX5_sheet_43 : decode cX5_sheet 43 = .ok (.invokevirtual 59, 3) := by decide +kernel
theorem dX5_sheet_46 : decode cX5_sheet 46 = .ok (.ireturn, 1) := by decide +kernel
theorem dX5_sheet_47 : decode cX5_sheet 47 = .ok (.iload_n 3, 1) := by decide +kernel
theorem dX5_sheet_48 : decode cX5_sheet 48 = .ok (.bipush 40, 2) := by decide +kernel
theorem dX5_sheet_50 : decode cX5_sheet 50 = .ok (.if_icmp .le 10, 3) := by decide +kernel
theorem dX5_sheet_53 : decode cX5_sheet 53 = .ok (.aload_n 0, 1) := by decide +kernel
theorem dX5_sheet_54 : decode cX5_sheet 54 = .ok (.ldc 40, 2) := by decide +kernel
theorem dX5_sheet_56 : decode cX5_sheet 56 = .ok (.invokevirtual 59, 3) := by decide +kernel
theorem dX5_sheet_59 : decode cX5_sheet 59 = .ok (.ireturn, 1) := by decide +kernel
theorem dX5_sheet_60 : decode cX5_sheet 60 = .ok (.aload_n 0, 1) := by decide +kernel
theorem dX5_sheet_61 : decode cX5_sheet 61 = .ok (.getfield 28, 3) := by decide +kernel
theorem dX5_sheet_64 : decode cX5_sheet 64 = .ok (.iload_n 1, 1) := by decide +kernel
theorem dX5_sheet_65 : decode cX5_sheet 65 = .ok (.iload_n 2, 1) := by decide +kernel
theorem dX5_sheet_66 : decode cX5_sheet 66 = .ok (.iastore, 1) := by decide +kernel
theorem dX5_sheet_67 : decode cX5_sheet 67 = .ok (.aload_n 0, 1) := by decide +kernel
theorem dX5_sheet_68 : decode cX5_sheet 68 = .ok (.getfield 31, 3) := by decide +kernel
theorem dX5_sheet_71 : decode cX5_sheet 71 = .ok (.iload_n 1, 1) := by decide +kernel
theorem dX5_sheet_72 : decode cX5_sheet 72 = .ok (.iload_n 2, 1) := by decide +kernel
theorem dX5_sheet_73 : decode cX5_sheet 73 = .ok (.ifCond .ne 7, 3) := by decide +kernel
theorem dX5_sheet_76 : decode cX5_sheet 76 = .ok (.iconst 0, 1) := by decide +kernel
theorem dX5_sheet_77 : decode cX5_sheet 77 = .ok (.goto 4, 3) := by decide +kernel
theorem dX5_sheet_80 : decode cX5_sheet 80 = .ok (.iload_n 3, 1) := by decide +kernel
theorem dX5_sheet_81 : decode cX5_sheet 81 = .ok (.iastore, 1) := by decide +kernel
theorem dX5_sheet_82 : decode cX5_sheet 82 = .ok (.iconst 0, 1) := by decide +kernel
theorem dX5_sheet_83 : decode cX5_sheet 83 = .ok (.istore 4, 2) := by decide +kernel
theorem dX5_sheet_85 : decode cX5_sheet 85 = .ok (.iload 4, 2) := by decide +kernel
theorem dX5_sheet_87 : decode cX5_sheet 87 = .ok (.bipush 40, 2) := by decide +kernel
theorem dX5_sheet_89 : decode cX5_sheet 89 = .ok (.if_icmp .ge 22, 3) := by decide +kernel
theorem dX5_sheet_92 : decode cX5_sheet 92 = .ok (.aload_n 0, 1) := by decide +kernel
theorem dX5_sheet_93 : decode cX5_sheet 93 = .ok (.getfield 34, 3) := by decide +kernel
theorem dX5_sheet_96 : decode cX5_sheet 96 = .ok (.bipush 40, 2) := by decide +kernel
theorem dX5_sheet_98 : decode cX5_sheet 98 = .ok (.iload_n 1, 1) := by decide +kernel
theorem dX5_sheet_99 : decode cX5_sheet 99 = .ok (.imul, 1) := by decide +kernel
theorem dX5_sheet_100 : decode cX5_sheet 100 = .ok (.iload 4, 2) := by decide +kernel
theorem dX5_sheet_102 : decode cX5_sheet 102 = .ok (.iadd, 1) := by decide +kernel
theorem dX5_sheet_103 : decode cX5_sheet 103 = .ok (.iconst 0, 1) := by decide +kernel
theorem dX5_sheet_104 : decode cX5_sheet 104 = .ok (.iastore, 1) := by decide +kernel
theorem dX5_sheet_105 : decode cX5_sheet 105 = .ok (.iinc 4 1, 3) := by decide +kernel
theorem dX5_sheet_108 : decode cX5_sheet 108 = .ok (.goto (-23), 3) := by decide +kernel
theorem dX5_sheet_111 : decode cX5_sheet 111 = .ok (.aload_n 0, 1) := by decide +kernel
theorem dX5_sheet_112 : decode cX5_sheet 112 = .ok (.getfield 31, 3) := by decide +kernel
theorem dX5_sheet_115 : decode cX5_sheet 115 = .ok (.iload_n 1, 1) := by decide +kernel
theorem dX5_sheet_116 : decode cX5_sheet 116 = .ok (.iaload, 1) := by decide +kernel
theorem dX5_sheet_117 : decode cX5_sheet 117 = .ok (.ireturn, 1) := by decide +kernel
theorem dX5_narrowed_0 : decode cX5_narrowed 0 = .ok (.iload_n 0, 1) := by decide +kernel
theorem dX5_narrowed_1 : decode cX5_narrowed 1 = .ok (.bipush 8, 2) := by decide +kernel
theorem dX5_narrowed_3 : decode cX5_narrowed 3 = .ok (.if_icmp .ne 8, 3) := by decide +kernel
theorem dX5_narrowed_6 : decode cX5_narrowed 6 = .ok (.iload_n 1, 1) := by decide +kernel
theorem dX5_narrowed_7 : decode cX5_narrowed 7 = .ok (.i2b, 1) := by decide +kernel
theorem dX5_narrowed_8 : decode cX5_narrowed 8 = .ok (.goto 15, 3) := by decide +kernel
theorem dX5_narrowed_11 : decode cX5_narrowed 11 = .ok (.iload_n 0, 1) := by decide +kernel
theorem dX5_narrowed_12 : decode cX5_narrowed 12 = .ok (.bipush 16, 2) := by decide +kernel
theorem dX5_narrowed_14 : decode cX5_narrowed 14 = .ok (.if_icmp .ne 8, 3) := by decide +kernel
theorem dX5_narrowed_17 : decode cX5_narrowed 17 = .ok (.iload_n 1, 1) := by decide +kernel
theorem dX5_narrowed_18 : decode cX5_narrowed 18 = .ok (.i2s, 1) := by decide +kernel
theorem dX5_narrowed_19 : decode cX5_narrowed 19 = .ok (.goto 4, 3) := by decide +kernel
theorem dX5_narrowed_22 : decode cX5_narrowed 22 = .ok (.iload_n 1, 1) := by decide +kernel
theorem dX5_narrowed_23 : decode cX5_narrowed 23 = .ok (.ireturn, 1) := by decide +kernel
theorem dX5_wrong_0 : decode cX5_wrong 0 = .ok (.iload_n 1, 1) := by decide +kernel
theorem dX5_wrong_1 : decode cX5_wrong 1 = .ok (.invokestatic 242, 3) := by decide +kernel
theorem dX5_wrong_4 : decode cX5_wrong 4 = .ok (.ifCond .ne 8, 3) := by decide +kernel
theorem dX5_wrong_7 : decode cX5_wrong 7 = .ok (.ldc 40, 2) := by decide +kernel
theorem dX5_wrong_9 : decode cX5_wrong 9 = .ok (.goto 18, 3) := by decide +kernel
theorem dX5_wrong_12 : decode cX5_wrong 12 = .ok (.aload_n 0, 1) := by decide +kernel
theorem dX5_wrong_13 : decode cX5_wrong 13 = .ok (.getfield 28, 3) := by decide +kernel
theorem dX5_wrong_16 : decode cX5_wrong 16 = .ok (.iload_n 1, 1) := by decide +kernel
theorem dX5_wrong_17 : decode cX5_wrong 17 = .ok (.iaload, 1) := by decide +kernel
theorem dX5_wrong_18 : decode cX5_wrong 18 = .ok (.ifCond .ne 8, 3) := by decide +kernel
theorem dX5_wrong_21 : decode cX5_wrong 21 = .ok (.ldc 240, 2) := by decide +kernel
theorem dX5_wrong_23 : decode cX5_wrong 23 = .ok (.goto 4, 3) := by decide +kernel
theorem dX5_wrong_26 : decode cX5_wrong 26 = .ok (.iconst 0, 1) := by decide +kernel
theorem dX5_wrong_27 : decode cX5_wrong 27 = .ok (.ireturn, 1) := by decide +kernel
theorem dX5_write_0 : decode cX5_write 0 = .ok (.aload_n 0, 1) := by decide +kernel
theorem dX5_write_1 : decode cX5_write 1 = .ok (.iload_n 1, 1) := by decide +kernel
theorem dX5_write_2 : decode cX5_write 2 = .ok (.invokevirtual 246, 3) := by decide +kernel
theorem dX5_write_5 : decode cX5_write 5 = .ok (.istore 4, 2) := by decide +kernel
theorem dX5_write_7 : decode cX5_write 7 = .ok (.iload 4, 2) := by decide +kernel
theorem dX5_write_9 : decode cX5_write 9 = .ok (.ifCond .eq 10, 3) := by decide +kernel
theorem dX5_write_12 : decode cX5_write 12 = .ok (.aload_n 0, 1) := by decide +kernel
theorem dX5_write_13 : decode cX5_write 13 = .ok (.iload 4, 2) := by decide +kernel
theorem dX5_write_15 : decode cX5_write 15 = .ok (.invokevirtual 59, 3) := by decide +kernel
theorem dX5_write_18 : decode cX5_write 18 = .ok (.ireturn, 1) := by decide +kernel
theorem dX5_write_19 : decode cX5_write 19 = .ok (.iload_n 2, 1) := by decide +kernel
theorem dX5_write_20 : decode cX5_write 20 = .ok (.i2l, 1) := by decide +kernel
theorem dX5_write_21 : decode cX5_write 21 = .ok (.lconst 0, 1) := by decide +kernel
theorem dX5_write_22 : decode cX5_write 22 = .ok (.aload_n 0, 1) := by decide +kernel
theorem dX5_write_23 : decode cX5_write 23 = .ok (.getfield 31, 3) := by decide +kernel
theorem dX5_write_26 : decode cX5_write 26 = .ok (.iload_n 1, 1) := by decide +kernel
theorem dX5_write_27 : decode cX5_write 27 = .ok (.iaload, 1) := by decide +kernel
theorem dX5_write_28 : decode cX5_write 28 = .ok (.iconst 1, 1) := by decide +kernel
theorem dX5_write_29 : decode cX5_write 29 = .ok (.isub, 1) := by decide +kernel
theorem dX5_write_30 : decode cX5_write 30 = .ok (.i2l, 1) := by decide +kernel
theorem dX5_write_31 : decode cX5_write 31 = .ok (.invokestatic 43, 3) := by decide +kernel
theorem dX5_write_34 : decode cX5_write 34 = .ok (.ifCond .ne 10, 3) := by decide +kernel
theorem dX5_write_37 : decode cX5_write 37 = .ok (.aload_n 0, 1) := by decide +kernel
theorem dX5_write_38 : decode cX5_write 38 = .ok (.ldc 40, 2) := by decide +kernel
theorem dX5_write_40 : decode cX5_write 40 = .ok (.invokevirtual 59, 3) := by decide +kernel
theorem dX5_write_43 : decode cX5_write 43 = .ok (.ireturn, 1) := by decide +kernel
theorem dX5_write_44 : decode cX5_write 44 = .ok (.aload_n 0, 1) := by decide +kernel
theorem dX5_write_45 : decode cX5_write 45 = .ok (.getfield 34, 3) := by decide +kernel
theorem dX5_write_48 : decode cX5_write 48 = .ok (.bipush 40, 2) := by decide +kernel
theorem dX5_write_50 : decode cX5_write 50 = .ok (.iload_n 1, 1) := by decide +kernel
theorem dX5_write_51 : decode cX5_write 51 = .ok (.imul, 1) := by decide +kernel
theorem dX5_write_52 : decode cX5_write 52 = .ok (.iload_n 2, 1) := by decide +kernel
theorem dX5_write_53 : decode cX5_write 53 = .ok (.iadd, 1) := by decide +kernel
theorem dX5_write_54 : decode cX5_write 54 = .ok (.aload_n 0, 1) := by decide +kernel
theorem dX5_write_55 : decode cX5_write 55 = .ok (.getfield 28, 3) := by decide +kernel
theorem dX5_write_58 : decode cX5_write 58 = .ok (.iload_n 1, 1) := by decide +kernel
theorem dX5_write_59 : decode cX5_write 59 = .ok (.iaload, 1) := by decide +kernel
theorem dX5_write_60 : decode cX5_write 60 = .ok (.iload_n 3, 1) := by decide +kernel
theorem dX5_write_61 : decode cX5_write 61 = .ok (.invokestatic 249, 3) := by decide +kernel
theorem dX5_write_64 : decode cX5_write 64 = .ok (.iastore, 1) := by decide +kernel
theorem dX5_write_65 : decode cX5_write 65 = .ok (.iconst 1, 1) := by decide +kernel
theorem dX5_write_66 : decode cX5_write 66 = .ok (.ireturn, 1) := by decide +kernel
theorem dX5_copy_0 : decode cX5_copy 0 = .ok (.iload_n 1, 1) := by decide +kernel
theorem dX5_copy_1 : decode cX5_copy 1 = .ok (.invokestatic 242, 3) := by decide +kernel
theorem dX5_copy_4 : decode cX5_copy 4 = .ok (.ifCond .eq 10, 3) := by decide +kernel
theorem dX5_copy_7 : decode cX5_copy 7 = .ok (.iload_n 3, 1) := by decide +kernel
theorem dX5_copy_8 : decode cX5_copy 8 = .ok (.invokestatic 242, 3) := by decide +kernel
theorem dX5_copy_11 : decode cX5_copy 11 = .ok (.ifCond .ne 10, 3) := by decide +kernel
theorem dX5_copy_14 : decode cX5_copy 14 = .ok (.aload_n 0, 1) := by decide +kernel
theorem dX5_copy_15 : decode cX5_copy 15 = .ok (.ldc 40, 2) := by decide +kernel
theorem dX5_copy_17 : decode cX5_copy 17 = .ok (.invokevirtual 59, 3) := by decide +kernel
theorem dX5_copy_20 : decode cX5_copy 20 = .ok (.ireturn, 1) := by decide +kernel
theorem dX5_copy_21 : decode cX5_copy 21 = .ok (.aload_n 0, 1) := by decide +kernel
theorem dX5_copy_22 : decode cX5_copy 22 = .ok (.getfield 28, 3) := by decide +kernel
theorem dX5_copy_25 : decode cX5_copy 25 = .ok (.iload_n 1, 1) := by decide +kernel
theorem dX5_copy_26 : decode cX5_copy 26 = .ok (.iaload, 1) := by decide +kernel
theorem dX5_copy_27 : decode cX5_copy 27 = .ok (.ifCond .eq 12, 3) := by decide +kernel
theorem dX5_copy_30 : decode cX5_copy 30 = .ok (.aload_n 0, 1) := by decide +kernel
theorem dX5_copy_31 : decode cX5_copy 31 = .ok (.getfield 28, 3) := by decide +kernel
theorem dX5_copy_34 : decode cX5_copy 34 = .ok (.iload_n 3, 1) := by decide +kernel
theorem dX5_copy_35 : decode cX5_copy 35 = .ok (.iaload, 1) := by decide +kernel
theorem dX5_copy_36 : decode cX5_copy 36 = .ok (.ifCond .ne 10, 3) := by decide +kernel
theorem dX5_copy_39 : decode cX5_copy 39 = .ok (.aload_n 0, 1) := by decide +kernel
theorem dX5_copy_40 : decode cX5_copy 40 = .ok (.ldc 240, 2) := by decide +kernel
theorem dX5_copy_42 : decode cX5_copy 42 = .ok (.invokevirtual 59, 3) := by decide +kernel
theorem dX5_copy_45 : decode cX5_copy 45 = .ok (.ireturn, 1) := by decide +kernel
theorem dX5_copy_46 : decode cX5_copy 46 = .ok (.aload_n 0, 1) := by decide +kernel
theorem dX5_copy_47 : decode cX5_copy 47 = .ok (.getfield 28, 3) := by decide +kernel
theorem dX5_copy_50 : decode cX5_copy 50 = .ok (.iload_n 1, 1) := by decide +kernel
theorem dX5_copy_51 : decode cX5_copy 51 = .ok (.iaload, 1) := by decide +kernel
theorem dX5_copy_52 : decode cX5_copy 52 = .ok (.aload_n 0, 1) := by decide +kernel
theorem dX5_copy_53 : decode cX5_copy 53 = .ok (.getfield 28, 3) := by decide +kernel
theorem dX5_copy_56 : decode cX5_copy 56 = .ok (.iload_n 3, 1) := by decide +kernel
theorem dX5_copy_57 : decode cX5_copy 57 = .ok (.iaload, 1) := by decide +kernel
theorem dX5_copy_58 : decode cX5_copy 58 = .ok (.if_icmp .eq 10, 3) := by decide +kernel
theorem dX5_copy_61 : decode cX5_copy 61 = .ok (.aload_n 0, 1) := by decide +kernel
theorem dX5_copy_62 : decode cX5_copy 62 = .ok (.ldc 241, 2) := by decide +kernel
theorem dX5_copy_64 : decode cX5_copy 64 = .ok (.invokevirtual 59, 3) := by decide +kernel
theorem dX5_copy_67 : decode cX5_copy 67 = .ok (.ireturn, 1) := by decide +kernel
theorem dX5_copy_68 : decode cX5_copy 68 = .ok (.iload_n 2, 1) := by decide +kernel
theorem dX5_copy_69 : decode cX5_copy 69 = .ok (.ifCond .lt 40, 3) := by decide +kernel
theorem dX5_copy_72 : decode cX5_copy 72 = .ok (.iload 4, 2) := by decide +kernel
theorem dX5_copy_74 : decode cX5_copy 74 = .ok (.ifCond .lt 35, 3) := by decide +kernel
theorem dX5_copy_77 : decode cX5_copy 77 = .ok (.iload 5, 2) := by decide +kernel
theorem dX5_copy_79 : decode cX5_copy 79 = .ok (.ifCond .lt 30, 3) := by decide +kernel
theorem dX5_copy_82 : decode cX5_copy 82 = .ok (.iload 5, 2) := by decide +kernel
theorem dX5_copy_84 : decode cX5_copy 84 = .ok (.aload_n 0, 1) := by decide +kernel
theorem dX5_copy_85 : decode cX5_copy 85 = .ok (.getfield 31, 3) := by decide +kernel
theorem dX5_copy_88 : decode cX5_copy 88 = .ok (.iload_n 1, 1) := by decide +kernel
theorem dX5_copy_89 : decode cX5_copy 89 = .ok (.iaload, 1) := by decide +kernel
theorem dX5_copy_90 : decode cX5_copy 90 = .ok (.iload_n 2, 1) := by decide +kernel
theorem dX5_copy_91 : decode cX5_copy 91 = .ok (.isub, 1) := by decide +kernel
theorem dX5_copy_92 : decode cX5_copy 92 = .ok (.if_icmp .gt 17, 3) := by decide +kernel
theorem dX5_copy_95 : decode cX5_copy 95 = .ok (.iload 5, 2) := by decide +kernel
theorem dX5_copy_97 : decode cX5_copy 97 = .ok (.aload_n 0, 1) := by decide +kernel
theorem dX5_copy_98 : decode cX5_copy 98 = .ok (.getfield 31, 3) := by decide +kernel
theorem dX5_copy_101 : decode cX5_copy 101 = .ok (.iload_n 3, 1) := by decide +kernel
theorem dX5_copy_102 : decode cX5_copy 102 = .ok (.iaload, 1) := by decide +kernel
theorem dX5_copy_103 : decode cX5_copy 103 = .ok (.iload 4, 2) := by decide +kernel
theorem dX5_copy_105 : decode cX5_copy 105 = .ok (.isub, 1) := by decide +kernel
theorem dX5_copy_106 : decode cX5_copy 106 = .ok (.if_icmp .le 10, 3) := by decide +kernel
theorem dX5_copy_109 : decode cX5_copy 109 = .ok (.aload_n 0, 1) := by decide +kernel
theorem dX5_copy_110 : decode cX5_copy 110 = .ok (.ldc 40, 2) := by decide +kernel
theorem dX5_copy_112 : decode cX5_copy 112 = .ok (.invokevirtual 59, 3) := by decide +kernel
theorem dX5_copy_115 : decode cX5_copy 115 = .ok (.ireturn, 1) := by decide +kernel
theorem dX5_copy_116 : decode cX5_copy 116 = .ok (.iconst 0, 1) := by decide +kernel
theorem dX5_copy_117 : decode cX5_copy 117 = .ok (.istore 6, 2) := by decide +kernel
theorem dX5_copy_119 : decode cX5_copy 119 = .ok (.iload 6, 2) := by decide +kernel
theorem dX5_copy_121 : decode cX5_copy 121 = .ok (.iload 5, 2) := by decide +kernel
theorem dX5_copy_123 : decode cX5_copy 123 = .ok (.if_icmp .ge 30, 3) := by decide +kernel
theorem dX5_copy_126 : decode cX5_copy 126 = .ok (.aload_n 0, 1) := by decide +kernel
theorem dX5_copy_127 : decode cX5_copy 127 = .ok (.getfield 37, 3) := by decide +kernel
theorem dX5_copy_130 : decode cX5_copy 130 = .ok (.iload 6, 2) := by decide +kernel
theorem dX5_copy_132 : decode cX5_copy 132 = .ok (.aload_n 0, 1) := by decide +kernel
theorem dX5_copy_133 : decode cX5_copy 133 = .ok (.getfield 34, 3) := by decide +kernel
theorem dX5_copy_136 : decode cX5_copy 136 = .ok (.bipush 40, 2) := by decide +kernel
theorem dX5_copy_138 : decode cX5_copy 138 = .ok (.iload_n 1, 1) := by decide +kernel
theorem dX5_copy_139 : decode cX5_copy 139 = .ok (.imul, 1) := by decide +kernel
theorem dX5_copy_140 : decode cX5_copy 140 = .ok (.iload_n 2, 1) := by decide +kernel
theorem dX5_copy_141 : decode cX5_copy 141 = .ok (.iadd, 1) := by decide +kernel
theorem dX5_copy_142 : decode cX5_copy 142 = .ok (.iload 6, 2) := by decide +kernel
theorem dX5_copy_144 : decode cX5_copy 144 = .ok (.iadd, 1) := by decide +kernel
theorem dX5_copy_145 : decode cX5_copy 145 = .ok (.iaload, 1) := by decide +kernel
theorem dX5_copy_146 : decode cX5_copy 146 = .ok (.iastore, 1) := by decide +kernel
theorem dX5_copy_147 : decode cX5_copy 147 = .ok (.iinc 6 1, 3) := by decide +kernel
theorem dX5_copy_150 : decode cX5_copy 150 = .ok (.goto (-31), 3) := by decide +kernel
theorem dX5_copy_153 : decode cX5_copy 153 = .ok (.iconst 0, 1) := by decide +kernel
theorem dX5_copy_154 : decode cX5_copy 154 = .ok (.istore 6, 2) := by decide +kernel
theorem dX5_copy_156 : decode cX5_copy 156 = .ok (.iload 6, 2) := by decide +kernel
theorem dX5_copy_158 : decode cX5_copy 158 = .ok (.iload 5, 2) := by decide +kernel
theorem dX5_copy_160 : decode cX5_copy 160 = .ok (.if_icmp .ge 31, 3) := by decide +kernel
theorem dX5_copy_163 : decode cX5_copy 163 = .ok (.aload_n 0, 1) := by decide +kernel
theorem dX5_copy_164 : decode cX5_copy 164 = .ok (.getfield 34, 3) := by decide +kernel
theorem dX5_copy_167 : decode cX5_copy 167 = .ok (.bipush 40, 2) := by decide +kernel
theorem dX5_copy_169 : decode cX5_copy 169 = .ok (.iload_n 3, 1) := by decide +kernel
theorem dX5_copy_170 : decode cX5_copy 170 = .ok (.imul, 1) := by decide +kernel
theorem dX5_copy_171 : decode cX5_copy 171 = .ok (.iload 4, 2) := by decide +kernel
theorem dX5_copy_173 : decode cX5_copy 173 = .ok (.iadd, 1) := by decide +kernel
theorem dX5_copy_174 : decode cX5_copy 174 = .ok (.iload 6, 2) := by decide +kernel
theorem dX5_copy_176 : decode cX5_copy 176 = .ok (.iadd, 1) := by decide +kernel
theorem dX5_copy_177 : decode cX5_copy 177 = .ok (.aload_n 0, 1) := by decide +kernel
theorem dX5_copy_178 : decode cX5_copy 178 = .ok (.getfield 37, 3) := by decide +kernel
theorem dX5_copy_181 : decode cX5_copy 181 = .ok (.iload 6, 2) := by decide +kernel
theorem dX5_copy_183 : decode cX5_copy 183 = .ok (.iaload, 1) := by decide +kernel
theorem dX5_copy_184 : decode cX5_copy 184 = .ok (.iastore, 1) := by decide +kernel
theorem dX5_copy_185 : decode cX5_copy 185 = .ok (.iinc 6 1, 3) := by decide +kernel
theorem dX5_copy_188 : decode cX5_copy 188 = .ok (.goto (-32), 3) := by decide +kernel
theorem dX5_copy_191 : decode cX5_copy 191 = .ok (.iload 5, 2) := by decide +kernel
theorem dX5_copy_193 : decode cX5_copy 193 = .ok (.ireturn, 1) := by decide +kernel
theorem dX5_load_0 : decode cX5_load 0 = .ok (.aload_n 0, 1) := by decide +kernel
theorem dX5_load_1 : decode cX5_load 1 = .ok (.iload_n 1, 1) := by decide +kernel
theorem dX5_load_2 : decode cX5_load 2 = .ok (.invokevirtual 246, 3) := by decide +kernel
theorem dX5_load_5 : decode cX5_load 5 = .ok (.istore 4, 2) := by decide +kernel
theorem dX5_load_7 : decode cX5_load 7 = .ok (.iload 4, 2) := by decide +kernel
theorem dX5_load_9 : decode cX5_load 9 = .ok (.ifCond .eq 10, 3) := by decide +kernel
theorem dX5_load_12 : decode cX5_load 12 = .ok (.aload_n 0, 1) := by decide +kernel
theorem dX5_load_13 : decode cX5_load 13 = .ok (.iload 4, 2) := by decide +kernel
theorem dX5_load_15 : decode cX5_load 15 = .ok (.invokevirtual 59, 3) := by decide +kernel
theorem dX5_load_18 : decode cX5_load 18 = .ok (.ireturn, 1) := by decide +kernel
theorem dX5_load_19 : decode cX5_load 19 = .ok (.aload_n 0, 1) := by decide +kernel
theorem dX5_load_20 : decode cX5_load 20 = .ok (.iload_n 2, 1) := by decide +kernel
theorem dX5_load_21 : decode cX5_load 21 = .ok (.invokevirtual 75, 3) := by decide +kernel
theorem dX5_load_24 : decode cX5_load 24 = .ok (.ifCond .eq 13, 3) := by decide +kernel
theorem dX5_load_27 : decode cX5_load 27 = .ok (.iload_n 3, 1) := by decide +kernel
theorem dX5_load_28 : decode cX5_load 28 = .ok (.i2l, 1) := by decide +kernel
theorem dX5_load_29 : decode cX5_load 29 = .ok (.lconst 0, 1) := by decide +kernel
theorem dX5_load_30 : decode cX5_load 30 = .ok (.lconst 1, 1) := by decide +kernel
theorem dX5_load_31 : decode cX5_load 31 = .ok (.invokestatic 43, 3) := by decide +kernel
theorem dX5_load_34 : decode cX5_load 34 = .ok (.ifCond .ne 10, 3) := by decide +kernel
theorem dX5_load_37 : decode cX5_load 37 = .ok (.aload_n 0, 1) := by decide +kernel
theorem dX5_load_38 : decode cX5_load 38 = .ok (.ldc 40, 2) := by decide +kernel
theorem dX5_load_40 : decode cX5_load 40 = .ok (.invokevirtual 59, 3) := by decide +kernel
theorem dX5_load_43 : decode cX5_load 43 = .ok (.ireturn, 1) := by decide +kernel
theorem dX5_load_44 : decode cX5_load 44 = .ok (.iconst 0, 1) := by decide +kernel
theorem dX5_load_45 : decode cX5_load 45 = .ok (.istore 5, 2) := by decide +kernel
theorem dX5_load_47 : decode cX5_load 47 = .ok (.iconst 0, 1) := by decide +kernel
theorem dX5_load_48 : decode cX5_load 48 = .ok (.istore 6, 2) := by decide +kernel
theorem dX5_load_50 : decode cX5_load 50 = .ok (.iload 6, 2) := by decide +kernel
theorem dX5_load_52 : decode cX5_load 52 = .ok (.aload_n 0, 1) := by decide +kernel
theorem dX5_load_53 : decode cX5_load 53 = .ok (.getfield 31, 3) := by decide +kernel
theorem dX5_load_56 : decode cX5_load 56 = .ok (.iload_n 1, 1) := by decide +kernel
theorem dX5_load_57 : decode cX5_load 57 = .ok (.iaload, 1) := by decide +kernel
theorem dX5_load_58 : decode cX5_load 58 = .ok (.if_icmp .ge 70, 3) := by decide +kernel
theorem dX5_load_61 : decode cX5_load 61 = .ok (.iload 6, 2) := by decide +kernel
theorem dX5_load_63 : decode cX5_load 63 = .ok (.bipush 8, 2) := by decide +kernel
theorem dX5_load_65 : decode cX5_load 65 = .ok (.if_icmp .ge 63, 3) := by decide +kernel
theorem dX5_load_68 : decode cX5_load 68 = .ok (.aload_n 0, 1) := by decide +kernel
theorem dX5_load_69 : decode cX5_load 69 = .ok (.getfield 34, 3) := by decide +kernel
theorem dX5_load_72 : decode cX5_load 72 = .ok (.bipush 40, 2) := by decide +kernel
theorem dX5_load_74 : decode cX5_load 74 = .ok (.iload_n 1, 1) := by decide +kernel
theorem dX5_load_75 : decode cX5_load 75 = .ok (.imul, 1) := by decide +kernel
theorem dX5_load_76 : decode cX5_load 76 = .ok (.iload 6, 2) := by decide +kernel
theorem dX5_load_78 : decode cX5_load 78 = .ok (.iadd, 1) := by decide +kernel
theorem dX5_load_79 : decode cX5_load 79 = .ok (.iaload, 1) := by decide +kernel
theorem dX5_load_80 : decode cX5_load 80 = .ok (.istore 7, 2) := by decide +kernel
theorem dX5_load_82 : decode cX5_load 82 = .ok (.iload 7, 2) := by decide +kernel
theorem dX5_load_84 : decode cX5_load 84 = .ok (.i2l, 1) := by decide +kernel
theorem dX5_load_85 : decode cX5_load 85 = .ok (.lconst 0, 1) := by decide +kernel
theorem dX5_load_86 : decode cX5_load 86 = .ok (.aload_n 0, 1) := by decide +kernel
theorem dX5_load_87 : decode cX5_load 87 = .ok (.getfield 7, 3) := by decide +kernel
theorem dX5_load_90 : decode cX5_load 90 = .ok (.iconst 0, 1) := by decide +kernel
theorem dX5_load_91 : decode cX5_load 91 = .ok (.iload 6, 2) := by decide +kernel
theorem dX5_load_93 : decode cX5_load 93 = .ok (.iadd, 1) := by decide +kernel
theorem dX5_load_94 : decode cX5_load 94 = .ok (.iaload, 1) := by decide +kernel
theorem dX5_load_95 : decode cX5_load 95 = .ok (.i2l, 1) := by decide +kernel
theorem dX5_load_96 : decode cX5_load 96 = .ok (.invokestatic 43, 3) := by decide +kernel
theorem dX5_load_99 : decode cX5_load 99 = .ok (.ifCond .ne 6, 3) := by decide +kernel
theorem dX5_load_102 : decode cX5_load 102 = .ok (.iload 5, 2) := by decide +kernel
theorem dX5_load_104 : decode cX5_load 104 = .ok (.ireturn, 1) := by decide +kernel
theorem dX5_load_105 : decode cX5_load 105 = .ok (.aload_n 0, 1) := by decide +kernel
theorem dX5_load_106 : decode cX5_load 106 = .ok (.getfield 7, 3) := by decide +kernel
theorem dX5_load_109 : decode cX5_load 109 = .ok (.iload_n 2, 1) := by decide +kernel
theorem dX5_load_110 : decode cX5_load 110 = .ok (.iload_n 3, 1) := by decide +kernel
theorem dX5_load_111 : decode cX5_load 111 = .ok (.iload 6, 2) := by decide +kernel
theorem dX5_load_113 : decode cX5_load 113 = .ok (.invokestatic 49, 3) := by decide +kernel
theorem dX5_load_116 : decode cX5_load 116 = .ok (.iload 7, 2) := by decide +kernel
theorem dX5_load_118 : decode cX5_load 118 = .ok (.iastore, 1) := by decide +kernel
theorem dX5_load_119 : decode cX5_load 119 = .ok (.iinc 5 1, 3) := by decide +kernel
theorem dX5_load_122 : decode cX5_load 122 = .ok (.iinc 6 1, 3) := by decide +kernel
theorem dX5_load_125 : decode cX5_load 125 = .ok (.goto (-75), 3) := by decide +kernel
theorem dX5_load_128 : decode cX5_load 128 = .ok (.iload 5, 2) := by decide +kernel
theorem dX5_load_130 : decode cX5_load 130 = .ok (.ireturn, 1) := by decide +kernel
theorem dX5_judge_0 : decode cX5_judge 0 = .ok (.aload_n 0, 1) := by decide +kernel
theorem dX5_judge_1 : decode cX5_judge 1 = .ok (.iload_n 1, 1) := by decide +kernel
theorem dX5_judge_2 : decode cX5_judge 2 = .ok (.invokevirtual 246, 3) := by decide +kernel
theorem dX5_judge_5 : decode cX5_judge 5 = .ok (.istore_n 3, 1) := by decide +kernel
theorem dX5_judge_6 : decode cX5_judge 6 = .ok (.iload_n 3, 1) := by decide +kernel
theorem dX5_judge_7 : decode cX5_judge 7 = .ok (.ifCond .eq 9, 3) := by decide +kernel
theorem dX5_judge_10 : decode cX5_judge 10 = .ok (.aload_n 0, 1) := by decide +kernel
theorem dX5_judge_11 : decode cX5_judge 11 = .ok (.iload_n 3, 1) := by decide +kernel
theorem dX5_judge_12 : decode cX5_judge 12 = .ok (.invokevirtual 59, 3) := by decide +kernel
theorem dX5_judge_15 : decode cX5_judge 15 = .ok (.ireturn, 1) := by decide +kernel
theorem dX5_judge_16 : decode cX5_judge 16 = .ok (.aload_n 0, 1) := by decide +kernel
theorem dX5_judge_17 : decode cX5_judge 17 = .ok (.iload_n 2, 1) := by decide +kernel
theorem dX5_judge_18 : decode cX5_judge 18 = .ok (.invokevirtual 114, 3) := by decide +kernel
theorem dX5_judge_21 : decode cX5_judge 21 = .ok (.ifCond .ne 10, 3) := by decide +kernel
theorem dX5_judge_24 : decode cX5_judge 24 = .ok (.aload_n 0, 1) := by decide +kernel
theorem dX5_judge_25 : decode cX5_judge 25 = .ok (.ldc 40, 2) := by decide +kernel
theorem dX5_judge_27 : decode cX5_judge 27 = .ok (.invokevirtual 59, 3) := by decide +kernel
theorem dX5_judge_30 : decode cX5_judge 30 = .ok (.ireturn, 1) := by decide +kernel
theorem dX5_judge_31 : decode cX5_judge 31 = .ok (.aload_n 0, 1) := by decide +kernel
theorem dX5_judge_32 : decode cX5_judge 32 = .ok (.iload_n 2, 1) := by decide +kernel
theorem dX5_judge_33 : decode cX5_judge 33 = .ok (.invokevirtual 135, 3) := by decide +kernel
theorem dX5_judge_36 : decode cX5_judge 36 = .ok (.iconst 0, 1) := by decide +kernel
theorem dX5_judge_37 : decode cX5_judge 37 = .ok (.istore 4, 2) := by decide +kernel
theorem dX5_judge_39 : decode cX5_judge 39 = .ok (.iload 4, 2) := by decide +kernel
theorem dX5_judge_41 : decode cX5_judge 41 = .ok (.aload_n 0, 1) := by decide +kernel
theorem dX5_judge_42 : decode cX5_judge 42 = .ok (.getfield 31, 3) := by decide +kernel
theorem dX5_judge_45 : decode cX5_judge 45 = .ok (.iload_n 1, 1) := by decide +kernel
theorem dX5_judge_46 : decode cX5_judge 46 = .ok (.iaload, 1) := by decide +kernel
theorem dX5_judge_47 : decode cX5_judge 47 = .ok (.if_icmp .ge 43, 3) := by decide +kernel
theorem dX5_judge_50 : decode cX5_judge 50 = .ok (.iload 4, 2) := by decide +kernel
theorem dX5_judge_52 : decode cX5_judge 52 = .ok (.aload_n 0, 1) := by decide +kernel
theorem dX5_judge_53 : decode cX5_judge 53 = .ok (.getfield 7, 3) := by decide +kernel
theorem dX5_judge_56 : decode cX5_judge 56 = .ok (.bipush 17, 2) := by decide +kernel
theorem dX5_judge_58 : decode cX5_judge 58 = .ok (.iaload, 1) := by decide +kernel
theorem dX5_judge_59 : decode cX5_judge 59 = .ok (.if_icmp .ge 31, 3) := by decide +kernel
theorem dX5_judge_62 : decode cX5_judge 62 = .ok (.aload_n 0, 1) := by decide +kernel
theorem dX5_judge_63 : decode cX5_judge 63 = .ok (.getfield 34, 3) := by decide +kernel
theorem dX5_judge_66 : decode cX5_judge 66 = .ok (.bipush 40, 2) := by decide +kernel
theorem dX5_judge_68 : decode cX5_judge 68 = .ok (.iload_n 1, 1) := by decide +kernel
theorem dX5_judge_69 : decode cX5_judge 69 = .ok (.imul, 1) := by decide +kernel
theorem dX5_judge_70 : decode cX5_judge 70 = .ok (.iload 4, 2) := by decide +kernel
theorem dX5_judge_72 : decode cX5_judge 72 = .ok (.iadd, 1) := by decide +kernel
theorem dX5_judge_73 : decode cX5_judge 73 = .ok (.iaload, 1) := by decide +kernel
theorem dX5_judge_74 : decode cX5_judge 74 = .ok (.aload_n 0, 1) := by decide +kernel
theorem dX5_judge_75 : decode cX5_judge 75 = .ok (.getfield 22, 3) := by decide +kernel
theorem dX5_judge_78 : decode cX5_judge 78 = .ok (.iload 4, 2) := by decide +kernel
theorem dX5_judge_80 : decode cX5_judge 80 = .ok (.iaload, 1) := by decide +kernel
theorem dX5_judge_81 : decode cX5_judge 81 = .ok (.if_icmp .ne 9, 3) := by decide +kernel
theorem dX5_judge_84 : decode cX5_judge 84 = .ok (.iinc 4 1, 3) := by decide +kernel
theorem dX5_judge_87 : decode cX5_judge 87 = .ok (.goto (-48), 3) := by decide +kernel
theorem dX5_judge_90 : decode cX5_judge 90 = .ok (.iload 4, 2) := by decide +kernel
theorem dX5_judge_92 : decode cX5_judge 92 = .ok (.aload_n 0, 1) := by decide +kernel
theorem dX5_judge_93 : decode cX5_judge 93 = .ok (.getfield 31, 3) := by decide +kernel
theorem dX5_judge_96 : decode cX5_judge 96 = .ok (.iload_n 1, 1) := by decide +kernel
theorem dX5_judge_97 : decode cX5_judge 97 = .ok (.iaload, 1) := by decide +kernel
theorem dX5_judge_98 : decode cX5_judge 98 = .ok (.if_icmp .ne 19, 3) := by decide +kernel
theorem dX5_judge_101 : decode cX5_judge 101 = .ok (.iload 4, 2) := by decide +kernel
theorem dX5_judge_103 : decode cX5_judge 103 = .ok (.aload_n 0, 1) := by decide +kernel
theorem dX5_judge_104 : decode cX5_judge 104 = .ok (.getfield 7, 3) := by decide +kernel
theorem dX5_judge_107 : decode cX5_judge 107 = .ok (.bipush 17, 2) := by decide +kernel
theorem dX5_judge_109 : decode cX5_judge 109 = .ok (.iaload, 1) := by decide +kernel
theorem dX5_judge_110 : decode cX5_judge 110 = .ok (.if_icmp .ne 7, 3) := by decide +kernel
theorem dX5_judge_113 : decode cX5_judge 113 = .ok (.iconst 0, 1) := by decide +kernel
theorem dX5_judge_114 : decode cX5_judge 114 = .ok (.goto 7, 3) := by decide +kernel
theorem dX5_judge_117 : decode cX5_judge 117 = .ok (.iconst 1, 1) := by decide +kernel
theorem dX5_judge_118 : decode cX5_judge 118 = .ok (.iload 4, 2) := by decide +kernel
theorem dX5_judge_120 : decode cX5_judge 120 = .ok (.iadd, 1) := by decide +kernel
theorem dX5_judge_121 : decode cX5_judge 121 = .ok (.ireturn, 1) := by decide +kernel
theorem dX5_image_0 : decode cX5_image 0 = .ok (.iconst 0, 1) := by decide +kernel
theorem dX5_image_1 : decode cX5_image 1 = .ok (.istore_n 1, 1) := by decide +kernel
theorem dX5_image_2 : decode cX5_image 2 = .ok (.iload_n 1, 1) := by decide +kernel
theorem dX5_image_3 : decode cX5_image 3 = .ok (.sipush 245, 3) := by decide +kernel
theorem dX5_image_6 : decode cX5_image 6 = .ok (.if_icmp .ge 21, 3) := by decide +kernel
theorem dX5_image_9 : decode cX5_image 9 = .ok (.aload_n 0, 1) := by decide +kernel
theorem dX5_image_10 : decode cX5_image 10 = .ok (.getfield 13, 3) := by decide +kernel
theorem dX5_image_13 : decode cX5_image 13 = .ok (.iload_n 1, 1) := by decide +kernel
theorem dX5_image_14 : decode cX5_image 14 = .ok (.aload_n 0, 1) := by decide +kernel
theorem dX5_image_15 : decode cX5_image 15 = .ok (.getfield 7, 3) := by decide +kernel
theorem dX5_image_18 : decode cX5_image 18 = .ok (.iload_n 1, 1) := by decide +kernel
theorem dX5_image_19 : decode cX5_image 19 = .ok (.iaload, 1) := by decide +kernel
theorem dX5_image_20 : decode cX5_image 20 = .ok (.iastore, 1) := by decide +kernel
theorem dX5_image_21 : decode cX5_image 21 = .ok (.iinc 1 1, 3) := by decide +kernel
theorem dX5_image_24 : decode cX5_image 24 = .ok (.goto (-22), 3) := by decide +kernel
theorem dX5_image_27 : decode cX5_image 27 = .ok (.aload_n 0, 1) := by decide +kernel
theorem dX5_image_28 : decode cX5_image 28 = .ok (.iconst 1, 1) := by decide +kernel
theorem dX5_image_29 : decode cX5_image 29 = .ok (.putfield 252, 3) := by decide +kernel
theorem dX5_image_32 : decode cX5_image 32 = .ok (.iconst 1, 1) := by decide +kernel
theorem dX5_image_33 : decode cX5_image 33 = .ok (.ireturn, 1) := by decide +kernel
theorem dX5_undo_0 : decode cX5_undo 0 = .ok (.aload_n 0, 1) := by decide +kernel
theorem dX5_undo_1 : decode cX5_undo 1 = .ok (.getfield 252, 3) := by decide +kernel
theorem dX5_undo_4 : decode cX5_undo 4 = .ok (.ifCond .ne 10, 3) := by decide +kernel
theorem dX5_undo_7 : decode cX5_undo 7 = .ok (.aload_n 0, 1) := by decide +kernel
theorem dX5_undo_8 : decode cX5_undo 8 = .ok (.ldc 89, 2) := by decide +kernel
theorem dX5_undo_10 : decode cX5_undo 10 = .ok (.invokevirtual 59, 3) := by decide +kernel
theorem dX5_undo_13 : decode cX5_undo 13 = .ok (.ireturn, 1) := by decide +kernel
theorem dX5_undo_14 : decode cX5_undo 14 = .ok (.iconst 0, 1) := by decide +kernel
theorem dX5_undo_15 : decode cX5_undo 15 = .ok (.istore_n 1, 1) := by decide +kernel
theorem dX5_undo_16 : decode cX5_undo 16 = .ok (.iload_n 1, 1) := by decide +kernel
theorem dX5_undo_17 : decode cX5_undo 17 = .ok (.sipush 245, 3) := by decide +kernel
theorem dX5_undo_20 : decode cX5_undo 20 = .ok (.if_icmp .ge 21, 3) := by decide +kernel
theorem dX5_undo_23 : decode cX5_undo 23 = .ok (.aload_n 0, 1) := by decide +kernel
theorem dX5_undo_24 : decode cX5_undo 24 = .ok (.getfield 7, 3) := by decide +kernel
theorem dX5_undo_27 : decode cX5_undo 27 = .ok (.iload_n 1, 1) := by decide +kernel
theorem dX5_undo_28 : decode cX5_undo 28 = .ok (.aload_n 0, 1) := by decide +kernel
theorem dX5_undo_29 : decode cX5_undo 29 = .ok (.getfield 13, 3) := by decide +kernel
theorem dX5_undo_32 : decode cX5_undo 32 = .ok (.iload_n 1, 1) := by decide +kernel
theorem dX5_undo_33 : decode cX5_undo 33 = .ok (.iaload, 1) := by decide +kernel
theorem dX5_undo_34 : decode cX5_undo 34 = .ok (.iastore, 1) := by decide +kernel
theorem dX5_undo_35 : decode cX5_undo 35 = .ok (.iinc 1 1, 3) := by decide +kernel
theorem dX5_undo_38 : decode cX5_undo 38 = .ok (.goto (-22), 3) := by decide +kernel
theorem dX5_undo_41 : decode cX5_undo 41 = .ok (.aload_n 0, 1) := by decide +kernel
theorem dX5_undo_42 : decode cX5_undo 42 = .ok (.getfield 7, 3) := by decide +kernel
theorem dX5_undo_45 : decode cX5_undo 45 = .ok (.bipush 17, 2) := by decide +kernel
theorem dX5_undo_47 : decode cX5_undo 47 = .ok (.iaload, 1) := by decide +kernel
theorem dX5_undo_48 : decode cX5_undo 48 = .ok (.ireturn, 1) := by decide +kernel
theorem dX5_tear_0 : decode cX5_tear 0 = .ok (.aload_n 0, 1) := by decide +kernel
theorem dX5_tear_1 : decode cX5_tear 1 = .ok (.getfield 252, 3) := by decide +kernel
theorem dX5_tear_4 : decode cX5_tear 4 = .ok (.ifCond .eq 7, 3) := by decide +kernel
theorem dX5_tear_7 : decode cX5_tear 7 = .ok (.iconst 1, 1) := by decide +kernel
theorem dX5_tear_8 : decode cX5_tear 8 = .ok (.goto 4, 3) := by decide +kernel
theorem dX5_tear_11 : decode cX5_tear 11 = .ok (.iconst 0, 1) := by decide +kernel
theorem dX5_tear_12 : decode cX5_tear 12 = .ok (.istore_n 1, 1) := by decide +kernel
theorem dX5_tear_13 : decode cX5_tear 13 = .ok (.aload_n 0, 1) := by decide +kernel
theorem dX5_tear_14 : decode cX5_tear 14 = .ok (.iconst 0, 1) := by decide +kernel
theorem dX5_tear_15 : decode cX5_tear 15 = .ok (.putfield 252, 3) := by decide +kernel
theorem dX5_tear_18 : decode cX5_tear 18 = .ok (.iload_n 1, 1) := by decide +kernel
theorem dX5_tear_19 : decode cX5_tear 19 = .ok (.ireturn, 1) := by decide +kernel
theorem dX5_count_0 : decode cX5_count 0 = .ok (.iconst 0, 1) := by decide +kernel
theorem dX5_count_1 : decode cX5_count 1 = .ok (.istore_n 2, 1) := by decide +kernel
theorem dX5_count_2 : decode cX5_count 2 = .ok (.iload_n 1, 1) := by decide +kernel
theorem dX5_count_3 : decode cX5_count 3 = .ok (.tableswitch 111 0 5 #[37, 45, 53, 61, 66, 74], 37) := by decide +kernel
theorem dX5_count_40 : decode cX5_count 40 = .ok (.aload_n 0, 1) := by decide +kernel
theorem dX5_count_41 : decode cX5_count 41 = .ok (.getfield 7, 3) := by decide +kernel
theorem dX5_count_44 : decode cX5_count 44 = .ok (.bipush 17, 2) := by decide +kernel
theorem dX5_count_46 : decode cX5_count 46 = .ok (.iaload, 1) := by decide +kernel
theorem dX5_count_47 : decode cX5_count 47 = .ok (.ireturn, 1) := by decide +kernel
theorem dX5_count_48 : decode cX5_count 48 = .ok (.aload_n 0, 1) := by decide +kernel
theorem dX5_count_49 : decode cX5_count 49 = .ok (.getfield 7, 3) := by decide +kernel
theorem dX5_count_52 : decode cX5_count 52 = .ok (.bipush 18, 2) := by decide +kernel
theorem dX5_count_54 : decode cX5_count 54 = .ok (.iaload, 1) := by decide +kernel
theorem dX5_count_55 : decode cX5_count 55 = .ok (.ireturn, 1) := by decide +kernel
theorem dX5_count_56 : decode cX5_count 56 = .ok (.aload_n 0, 1) := by decide +kernel
theorem dX5_count_57 : decode cX5_count 57 = .ok (.invokevirtual 103, 3) := by decide +kernel
theorem dX5_count_60 : decode cX5_count 60 = .ok (.invokestatic 160, 3) := by decide +kernel
theorem dX5_count_63 : decode cX5_count 63 = .ok (.ireturn, 1) := by decide +kernel
theorem dX5_count_64 : decode cX5_count 64 = .ok (.aload_n 0, 1) := by decide +kernel
theorem dX5_count_65 : decode cX5_count 65 = .ok (.getfield 177, 3) := by decide +kernel
theorem dX5_count_68 : decode cX5_count 68 = .ok (.ireturn, 1) := by decide +kernel
theorem dX5_count_69 : decode cX5_count 69 = .ok (.aload_n 0, 1) := by decide +kernel
theorem dX5_count_70 : decode cX5_count 70 = .ok (.getfield 7, 3) := by decide +kernel
theorem dX5_count_73 : decode cX5_count 73 = .ok (.bipush 16, 2) := by decide +kernel
theorem dX5_count_75 : decode cX5_count 75 = .ok (.iaload, 1) := by decide +kernel
theorem dX5_count_76 : decode cX5_count 76 = .ok (.ireturn, 1) := by decide +kernel
theorem dX5_count_77 : decode cX5_count 77 = .ok (.iconst 0, 1) := by decide +kernel
theorem dX5_count_78 : decode cX5_count 78 = .ok (.istore_n 3, 1) := by decide +kernel
theorem dX5_count_79 : decode cX5_count 79 = .ok (.iload_n 3, 1) := by decide +kernel
theorem dX5_count_80 : decode cX5_count 80 = .ok (.bipush 10, 2) := by decide +kernel
theorem dX5_count_82 : decode cX5_count 82 = .ok (.if_icmp .ge 30, 3) := by decide +kernel
theorem dX5_count_85 : decode cX5_count 85 = .ok (.iload_n 2, 1) := by decide +kernel
theorem dX5_count_86 : decode cX5_count 86 = .ok (.aload_n 0, 1) := by decide +kernel
theorem dX5_count_87 : decode cX5_count 87 = .ok (.getfield 7, 3) := by decide +kernel
theorem dX5_count_90 : decode cX5_count 90 = .ok (.sipush 235, 3) := by decide +kernel
theorem dX5_count_93 : decode cX5_count 93 = .ok (.iload_n 3, 1) := by decide +kernel
theorem dX5_count_94 : decode cX5_count 94 = .ok (.iadd, 1) := by decide +kernel
theorem dX5_count_95 : decode cX5_count 95 = .ok (.iaload, 1) := by decide +kernel
theorem dX5_count_96 : decode cX5_count 96 = .ok (.ifCond .ge 7, 3) := by decide +kernel
theorem dX5_count_99 : decode cX5_count 99 = .ok (.iconst 0, 1) := by decide +kernel
theorem dX5_count_100 : decode cX5_count 100 = .ok (.goto 4, 3) := by decide +kernel
theorem dX5_count_103 : decode cX5_count 103 = .ok (.iconst 1, 1) := by decide +kernel
theorem dX5_count_104 : decode cX5_count 104 = .ok (.iadd, 1) := by decide +kernel
theorem dX5_count_105 : decode cX5_count 105 = .ok (.istore_n 2, 1) := by decide +kernel
theorem dX5_count_106 : decode cX5_count 106 = .ok (.iinc 3 1, 3) := by decide +kernel
theorem dX5_count_109 : decode cX5_count 109 = .ok (.goto (-30), 3) := by decide +kernel
theorem dX5_count_112 : decode cX5_count 112 = .ok (.iload_n 2, 1) := by decide +kernel
theorem dX5_count_113 : decode cX5_count 113 = .ok (.ireturn, 1) := by decide +kernel
theorem dX5_count_114 : decode cX5_count 114 = .ok (.aload_n 0, 1) := by decide +kernel
theorem dX5_count_115 : decode cX5_count 115 = .ok (.ldc 40, 2) := by decide +kernel
theorem dX5_count_117 : decode cX5_count 117 = .ok (.invokevirtual 59, 3) := by decide +kernel
theorem dX5_count_120 : decode cX5_count 120 = .ok (.ireturn, 1) := by decide +kernel
theorem dX5_status_0 : decode cX5_status 0 = .ok (.iload_n 1, 1) := by decide +kernel
theorem dX5_status_1 : decode cX5_status 1 = .ok (.i2l, 1) := by decide +kernel
theorem dX5_status_2 : decode cX5_status 2 = .ok (.ldc2_w 67, 3) := by decide +kernel
theorem dX5_status_5 : decode cX5_status 5 = .ok (.ldc2_w 107, 3) := by decide +kernel
theorem dX5_status_8 : decode cX5_status 8 = .ok (.invokestatic 43, 3) := by decide +kernel
theorem dX5_status_11 : decode cX5_status 11 = .ok (.ifCond .ne 10, 3) := by decide +kernel
theorem dX5_status_14 : decode cX5_status 14 = .ok (.aload_n 0, 1) := by decide +kernel
theorem dX5_status_15 : decode cX5_status 15 = .ok (.ldc 40, 2) := by decide +kernel
theorem dX5_status_17 : decode cX5_status 17 = .ok (.invokevirtual 59, 3) := by decide +kernel
theorem dX5_status_20 : decode cX5_status 20 = .ok (.ireturn, 1) := by decide +kernel
theorem dX5_status_21 : decode cX5_status 21 = .ok (.iconst 0, 1) := by decide +kernel
theorem dX5_status_22 : decode cX5_status 22 = .ok (.istore_n 2, 1) := by decide +kernel
theorem dX5_status_23 : decode cX5_status 23 = .ok (.iconst 0, 1) := by decide +kernel
theorem dX5_status_24 : decode cX5_status 24 = .ok (.istore_n 3, 1) := by decide +kernel
theorem dX5_status_25 : decode cX5_status 25 = .ok (.iload_n 3, 1) := by decide +kernel
theorem dX5_status_26 : decode cX5_status 26 = .ok (.bipush 7, 2) := by decide +kernel
theorem dX5_status_28 : decode cX5_status 28 = .ok (.if_icmp .ge 31, 3) := by decide +kernel
theorem dX5_status_31 : decode cX5_status 31 = .ok (.iload_n 2, 1) := by decide +kernel
theorem dX5_status_32 : decode cX5_status 32 = .ok (.iload_n 1, 1) := by decide +kernel
theorem dX5_status_33 : decode cX5_status 33 = .ok (.ifCond .lt 8, 3) := by decide +kernel
theorem dX5_status_36 : decode cX5_status 36 = .ok (.iload_n 3, 1) := by decide +kernel
theorem dX5_status_37 : decode cX5_status 37 = .ok (.iload_n 1, 1) := by decide +kernel
theorem dX5_status_38 : decode cX5_status 38 = .ok (.if_icmp .ne 12, 3) := by decide +kernel
theorem dX5_status_41 : decode cX5_status 41 = .ok (.aload_n 0, 1) := by decide +kernel
theorem dX5_status_42 : decode cX5_status 42 = .ok (.getfield 19, 3) := by decide +kernel
theorem dX5_status_45 : decode cX5_status 45 = .ok (.iload_n 3, 1) := by decide +kernel
theorem dX5_status_46 : decode cX5_status 46 = .ok (.iaload, 1) := by decide +kernel
theorem dX5_status_47 : decode cX5_status 47 = .ok (.goto 4, 3) := by decide +kernel
theorem dX5_status_50 : decode cX5_status 50 = .ok (.iconst 0, 1) := by decide +kernel
theorem dX5_status_51 : decode cX5_status 51 = .ok (.iadd, 1) := by decide +kernel
theorem dX5_status_52 : decode cX5_status 52 = .ok (.istore_n 2, 1) := by decide +kernel
theorem dX5_status_53 : decode cX5_status 53 = .ok (.iinc 3 1, 3) := by decide +kernel
theorem dX5_status_56 : decode cX5_status 56 = .ok (.goto (-31), 3) := by decide +kernel
theorem dX5_status_59 : decode cX5_status 59 = .ok (.iload_n 2, 1) := by decide +kernel
theorem dX5_status_60 : decode cX5_status 60 = .ok (.ireturn, 1) := by decide +kernel
theorem dJ6_bitCount_0f7a4_0 : decode cJ6_bitCount_0f7a4 0 = .ok (.iload_n 0, 1) := by decide +kernel
theorem dJ6_bitCount_0f7a4_1 : decode cJ6_bitCount_0f7a4 1 = .ok (.iload_n 0, 1) := by decide +kernel
theorem dJ6_bitCount_0f7a4_2 : decode cJ6_bitCount_0f7a4 2 = .ok (.iconst 1, 1) := by decide +kernel
theorem dJ6_bitCount_0f7a4_3 : decode cJ6_bitCount_0f7a4 3 = .ok (.iushr, 1) := by decide +kernel
theorem dJ6_bitCount_0f7a4_4 : decode cJ6_bitCount_0f7a4 4 = .ok (.ldc_w 265, 3) := by decide +kernel
theorem dJ6_bitCount_0f7a4_7 : decode cJ6_bitCount_0f7a4 7 = .ok (.iand, 1) := by decide +kernel
theorem dJ6_bitCount_0f7a4_8 : decode cJ6_bitCount_0f7a4 8 = .ok (.isub, 1) := by decide +kernel
theorem dJ6_bitCount_0f7a4_9 : decode cJ6_bitCount_0f7a4 9 = .ok (.istore_n 0, 1) := by decide +kernel
theorem dJ6_bitCount_0f7a4_10 : decode cJ6_bitCount_0f7a4 10 = .ok (.iload_n 0, 1) := by decide +kernel
theorem dJ6_bitCount_0f7a4_11 : decode cJ6_bitCount_0f7a4 11 = .ok (.ldc_w 266, 3) := by decide +kernel
theorem dJ6_bitCount_0f7a4_14 : decode cJ6_bitCount_0f7a4 14 = .ok (.iand, 1) := by decide +kernel
theorem dJ6_bitCount_0f7a4_15 : decode cJ6_bitCount_0f7a4 15 = .ok (.iload_n 0, 1) := by decide +kernel
theorem dJ6_bitCount_0f7a4_16 : decode cJ6_bitCount_0f7a4 16 = .ok (.iconst 2, 1) := by decide +kernel
theorem dJ6_bitCount_0f7a4_17 : decode cJ6_bitCount_0f7a4 17 = .ok (.iushr, 1) := by decide +kernel
theorem dJ6_bitCount_0f7a4_18 : decode cJ6_bitCount_0f7a4 18 = .ok (.ldc_w 266, 3) := by decide +kernel
theorem dJ6_bitCount_0f7a4_21 : decode cJ6_bitCount_0f7a4 21 = .ok (.iand, 1) := by decide +kernel
theorem dJ6_bitCount_0f7a4_22 : decode cJ6_bitCount_0f7a4 22 = .ok (.iadd, 1) := by decide +kernel
theorem dJ6_bitCount_0f7a4_23 : decode cJ6_bitCount_0f7a4 23 = .ok (.istore_n 0, 1) := by decide +kernel
theorem dJ6_bitCount_0f7a4_24 : decode cJ6_bitCount_0f7a4 24 = .ok (.iload_n 0, 1) := by decide +kernel
theorem dJ6_bitCount_0f7a4_25 : decode cJ6_bitCount_0f7a4 25 = .ok (.iload_n 0, 1) := by decide +kernel
theorem dJ6_bitCount_0f7a4_26 : decode cJ6_bitCount_0f7a4 26 = .ok (.iconst 4, 1) := by decide +kernel
theorem dJ6_bitCount_0f7a4_27 : decode cJ6_bitCount_0f7a4 27 = .ok (.iushr, 1) := by decide +kernel
theorem dJ6_bitCount_0f7a4_28 : decode cJ6_bitCount_0f7a4 28 = .ok (.iadd, 1) := by decide +kernel
theorem dJ6_bitCount_0f7a4_29 : decode cJ6_bitCount_0f7a4 29 = .ok (.ldc_w 267, 3) := by decide +kernel
theorem dJ6_bitCount_0f7a4_32 : decode cJ6_bitCount_0f7a4 32 = .ok (.iand, 1) := by decide +kernel
theorem dJ6_bitCount_0f7a4_33 : decode cJ6_bitCount_0f7a4 33 = .ok (.istore_n 0, 1) := by decide +kernel
theorem dJ6_bitCount_0f7a4_34 : decode cJ6_bitCount_0f7a4 34 = .ok (.iload_n 0, 1) := by decide +kernel
theorem dJ6_bitCount_0f7a4_35 : decode cJ6_bitCount_0f7a4 35 = .ok (.iload_n 0, 1) := by decide +kernel
theorem dJ6_bitCount_0f7a4_36 : decode cJ6_bitCount_0f7a4 36 = .ok (.bipush 8, 2) := by decide +kernel
theorem dJ6_bitCount_0f7a4_38 : decode cJ6_bitCount_0f7a4 38 = .ok (.iushr, 1) := by decide +kernel
theorem dJ6_bitCount_0f7a4_39 : decode cJ6_bitCount_0f7a4 39 = .ok (.iadd, 1) := by decide +kernel
theorem dJ6_bitCount_0f7a4_40 : decode cJ6_bitCount_0f7a4 40 = .ok (.istore_n 0, 1) := by decide +kernel
theorem dJ6_bitCount_0f7a4_41 : decode cJ6_bitCount_0f7a4 41 = .ok (.iload_n 0, 1) := by decide +kernel
theorem dJ6_bitCount_0f7a4_42 : decode cJ6_bitCount_0f7a4 42 = .ok (.iload_n 0, 1) := by decide +kernel
theorem dJ6_bitCount_0f7a4_43 : decode cJ6_bitCount_0f7a4 43 = .ok (.bipush 16, 2) := by decide +kernel
theorem dJ6_bitCount_0f7a4_45 : decode cJ6_bitCount_0f7a4 45 = .ok (.iushr, 1) := by decide +kernel
theorem dJ6_bitCount_0f7a4_46 : decode cJ6_bitCount_0f7a4 46 = .ok (.iadd, 1) := by decide +kernel
theorem dJ6_bitCount_0f7a4_47 : decode cJ6_bitCount_0f7a4 47 = .ok (.istore_n 0, 1) := by decide +kernel
theorem dJ6_bitCount_0f7a4_48 : decode cJ6_bitCount_0f7a4 48 = .ok (.iload_n 0, 1) := by decide +kernel
theorem dJ6_bitCount_0f7a4_49 : decode cJ6_bitCount_0f7a4 49 = .ok (.bipush 63, 2) := by decide +kernel
theorem dJ6_bitCount_0f7a4_51 : decode cJ6_bitCount_0f7a4 51 = .ok (.iand, 1) := by decide +kernel
theorem dJ6_bitCount_0f7a4_52 : decode cJ6_bitCount_0f7a4 52 = .ok (.ireturn, 1) := by decide +kernel
theorem dJ9_abs_0f7a4_0 : decode cJ9_abs_0f7a4 0 = .ok (.iload_n 0, 1) := by decide +kernel
theorem dJ9_abs_0f7a4_1 : decode cJ9_abs_0f7a4 1 = .ok (.ifCond .ge 8, 3) := by decide +kernel
theorem dJ9_abs_0f7a4_4 : decode cJ9_abs_0f7a4 4 = .ok (.iload_n 0, 1) := by decide +kernel
theorem dJ9_abs_0f7a4_5 : decode cJ9_abs_0f7a4 5 = .ok (.ineg, 1) := by decide +kernel
theorem dJ9_abs_0f7a4_6 : decode cJ9_abs_0f7a4 6 = .ok (.goto 4, 3) := by decide +kernel
theorem dJ9_abs_0f7a4_9 : decode cJ9_abs_0f7a4 9 = .ok (.iload_n 0, 1) := by decide +kernel
theorem dJ9_abs_0f7a4_10 : decode cJ9_abs_0f7a4 10 = .ok (.ireturn, 1) := by decide +kernel
theorem dJ9_max_7cf53_0 : decode cJ9_max_7cf53 0 = .ok (.iload_n 0, 1) := by decide +kernel
theorem dJ9_max_7cf53_1 : decode cJ9_max_7cf53 1 = .ok (.iload_n 1, 1) := by decide +kernel
theorem dJ9_max_7cf53_2 : decode cJ9_max_7cf53 2 = .ok (.if_icmp .lt 7, 3) := by decide +kernel
theorem dJ9_max_7cf53_5 : decode cJ9_max_7cf53 5 = .ok (.iload_n 0, 1) := by decide +kernel
theorem dJ9_max_7cf53_6 : decode cJ9_max_7cf53 6 = .ok (.goto 4, 3) := by decide +kernel
theorem dJ9_max_7cf53_9 : decode cJ9_max_7cf53 9 = .ok (.iload_n 1, 1) := by decide +kernel
theorem dJ9_max_7cf53_10 : decode cJ9_max_7cf53 10 = .ok (.ireturn, 1) := by decide +kernel
theorem dJ9_min_7cf53_0 : decode cJ9_min_7cf53 0 = .ok (.iload_n 0, 1) := by decide +kernel
theorem dJ9_min_7cf53_1 : decode cJ9_min_7cf53 1 = .ok (.iload_n 1, 1) := by decide +kernel
theorem dJ9_min_7cf53_2 : decode cJ9_min_7cf53 2 = .ok (.if_icmp .gt 7, 3) := by decide +kernel
theorem dJ9_min_7cf53_5 : decode cJ9_min_7cf53 5 = .ok (.iload_n 0, 1) := by decide +kernel
theorem dJ9_min_7cf53_6 : decode cJ9_min_7cf53 6 = .ok (.goto 4, 3) := by decide +kernel
theorem dJ9_min_7cf53_9 : decode cJ9_min_7cf53 9 = .ok (.iload_n 1, 1) := by decide +kernel
theorem dJ9_min_7cf53_10 : decode cJ9_min_7cf53 10 = .ok (.ireturn, 1) := by decide +kernel
theorem dJ0_length_8abf5_0 : decode cJ0_length_8abf5 0 = .ok (.aload_n 0, 1) := by decide +kernel
theorem dJ0_length_8abf5_1 : decode cJ0_length_8abf5 1 = .ok (.getfield 9, 3) := by decide +kernel
theorem dJ0_length_8abf5_4 : decode cJ0_length_8abf5 4 = .ok (.arraylength, 1) := by decide +kernel
theorem dJ0_length_8abf5_5 : decode cJ0_length_8abf5 5 = .ok (.aload_n 0, 1) := by decide +kernel
theorem dJ0_length_8abf5_6 : decode cJ0_length_8abf5 6 = .ok (.invokevirtual 335, 3) := by decide +kernel
theorem dJ0_length_8abf5_9 : decode cJ0_length_8abf5 9 = .ok (.ishr, 1) := by decide +kernel
theorem dJ0_length_8abf5_10 : decode cJ0_length_8abf5 10 = .ok (.ireturn, 1) := by decide +kernel
theorem dJ0_charAt_5068e_0 : decode cJ0_charAt_5068e 0 = .ok (.aload_n 0, 1) := by decide +kernel
theorem dJ0_charAt_5068e_1 : decode cJ0_charAt_5068e 1 = .ok (.invokevirtual 492, 3) := by decide +kernel
theorem dJ0_charAt_5068e_4 : decode cJ0_charAt_5068e 4 = .ok (.ifCond .eq 12, 3) := by decide +kernel
theorem dJ0_charAt_5068e_7 : decode cJ0_charAt_5068e 7 = .ok (.aload_n 0, 1) := by decide +kernel
theorem dJ0_charAt_5068e_8 : decode cJ0_charAt_5068e 8 = .ok (.getfield 9, 3) := by decide +kernel
theorem dJ0_charAt_5068e_11 : decode cJ0_charAt_5068e 11 = .ok (.iload_n 1, 1) := by decide +kernel
theorem dJ0_charAt_5068e_12 : decode cJ0_charAt_5068e 12 = .ok (.invokestatic 495, 3) := by decide +kernel
theorem dJ0_charAt_5068e_15 : decode cJ0_charAt_5068e 15 = .ok (.ireturn, 1) := by decide +kernel
theorem dJ0_charAt_5068e_16 : decode cJ0_charAt_5068e 16 = .ok (.aload_n 0, 1) := by decide +kernel
theorem dJ0_charAt_5068e_17 : decode cJ0_charAt_5068e 17 = .ok (.getfield 9, 3) := by decide +kernel
theorem dJ0_charAt_5068e_20 : decode cJ0_charAt_5068e 20 = .ok (.iload_n 1, 1) := by decide +kernel
theorem dJ0_charAt_5068e_21 : decode cJ0_charAt_5068e 21 = .ok (.invokestatic 498, 3) := by decide +kernel
theorem dJ0_charAt_5068e_24 : decode cJ0_charAt_5068e 24 = .ok (.ireturn, 1) := by decide +kernel
theorem dJ0_coder_7d493_0 : decode cJ0_coder_7d493 0 = .ok (.getstatic 38, 3) := by decide +kernel
theorem dJ0_coder_7d493_3 : decode cJ0_coder_7d493 3 = .ok (.ifCond .eq 10, 3) := by decide +kernel
theorem dJ0_coder_7d493_6 : decode cJ0_coder_7d493 6 = .ok (.aload_n 0, 1) := by decide +kernel
theorem dJ0_coder_7d493_7 : decode cJ0_coder_7d493 7 = .ok (.getfield 15, 3) := by decide +kernel
theorem dJ0_coder_7d493_10 : decode cJ0_coder_7d493 10 = .ok (.goto 4, 3) := by decide +kernel
theorem dJ0_coder_7d493_13 : decode cJ0_coder_7d493 13 = .ok (.iconst 1, 1) := by decide +kernel
theorem dJ0_coder_7d493_14 : decode cJ0_coder_7d493 14 = .ok (.ireturn, 1) := by decide +kernel
theorem dJ0_isLatin1_aae02_0 : decode cJ0_isLatin1_aae02 0 = .ok (.getstatic 38, 3) := by decide +kernel
theorem dJ0_isLatin1_aae02_3 : decode cJ0_isLatin1_aae02 3 = .ok (.ifCond .eq 14, 3) := by decide +kernel
theorem dJ0_isLatin1_aae02_6 : decode cJ0_isLatin1_aae02 6 = .ok (.aload_n 0, 1) := by decide +kernel
theorem dJ0_isLatin1_aae02_7 : decode cJ0_isLatin1_aae02 7 = .ok (.getfield 15, 3) := by decide +kernel
theorem dJ0_isLatin1_aae02_10 : decode cJ0_isLatin1_aae02 10 = .ok (.ifCond .ne 7, 3) := by decide +kernel
theorem dJ0_isLatin1_aae02_13 : decode cJ0_isLatin1_aae02 13 = .ok (.iconst 1, 1) := by decide +kernel
theorem dJ0_isLatin1_aae02_14 : decode cJ0_isLatin1_aae02 14 = .ok (.goto 4, 3) := by decide +kernel
theorem dJ0_isLatin1_aae02_17 : decode cJ0_isLatin1_aae02 17 = .ok (.iconst 0, 1) := by decide +kernel
theorem dJ0_isLatin1_aae02_18 : decode cJ0_isLatin1_aae02 18 = .ok (.ireturn, 1) := by decide +kernel
theorem dJ0_checkIndex_df160_0 : decode cJ0_checkIndex_df160 0 = .ok (.iload_n 0, 1) := by decide +kernel
theorem dJ0_checkIndex_df160_1 : decode cJ0_checkIndex_df160 1 = .ok (.iload_n 1, 1) := by decide +kernel
theorem dJ0_checkIndex_df160_2 : decode cJ0_checkIndex_df160 2 = .ok (.getstatic 1053, 3) := by decide +kernel
theorem dJ0_checkIndex_df160_5 : decode cJ0_checkIndex_df160 5 = .ok (.invokestatic 1059, 3) := by decide +kernel
theorem dJ0_checkIndex_df160_8 : decode cJ0_checkIndex_df160 8 = .ok (.pop, 1) := by decide +kernel
theorem dJ0_checkIndex_df160_9 : decode cJ0_checkIndex_df160 9 = .ok (.return_, 1) := by decide +kernel
theorem dJ1_charAt_3b067_0 : decode cJ1_charAt_3b067 0 = .ok (.iload_n 1, 1) := by decide +kernel
theorem dJ1_charAt_3b067_1 : decode cJ1_charAt_3b067 1 = .ok (.aload_n 0, 1) := by decide +kernel
theorem dJ1_charAt_3b067_2 : decode cJ1_charAt_3b067 2 = .ok (.arraylength, 1) := by decide +kernel
theorem dJ1_charAt_3b067_3 : decode cJ1_charAt_3b067 3 = .ok (.invokestatic 9, 3) := by decide +kernel
theorem dJ1_charAt_3b067_6 : decode cJ1_charAt_3b067 6 = .ok (.aload_n 0, 1) := by decide +kernel
theorem dJ1_charAt_3b067_7 : decode cJ1_charAt_3b067 7 = .ok (.iload_n 1, 1) := by decide +kernel
theorem dJ1_charAt_3b067_8 : decode cJ1_charAt_3b067 8 = .ok (.baload, 1) := by decide +kernel
theorem dJ1_charAt_3b067_9 : decode cJ1_charAt_3b067 9 = .ok (.sipush 255, 3) := by decide +kernel
theorem dJ1_charAt_3b067_12 : decode cJ1_charAt_3b067 12 = .ok (.iand, 1) := by decide +kernel
theorem dJ1_charAt_3b067_13 : decode cJ1_charAt_3b067 13 = .ok (.i2c, 1) := by decide +kernel
theorem dJ1_charAt_3b067_14 : decode cJ1_charAt_3b067 14 = .ok (.ireturn, 1) := by decide +kernel
theorem dJ2_getChar_3b067_0 : decode cJ2_getChar_3b067 0 = .ok (.getstatic 44, 3) := by decide +kernel
theorem dJ2_getChar_3b067_3 : decode cJ2_getChar_3b067 3 = .ok (.ifCond .ne 25, 3) := by decide +kernel
theorem dJ2_getChar_3b067_6 : decode cJ2_getChar_3b067 6 = .ok (.iload_n 1, 1) := by decide +kernel
theorem dJ2_getChar_3b067_7 : decode cJ2_getChar_3b067 7 = .ok (.ifCond .lt 11, 3) := by decide +kernel
theorem dJ2_getChar_3b067_10 : decode cJ2_getChar_3b067 10 = .ok (.iload_n 1, 1) := by decide +kernel
theorem dJ2_getChar_3b067_11 : decode cJ2_getChar_3b067 11 = .ok (.aload_n 0, 1) := by decide +kernel
theorem dJ2_getChar_3b067_12 : decode cJ2_getChar_3b067 12 = .ok (.invokestatic 48, 3) := by decide +kernel
theorem dJ2_getChar_3b067_15 : decode cJ2_getChar_3b067 15 = .ok (.if_icmp .lt 13, 3) := by decide +kernel
theorem dJ2_getChar_3b067_18 : decode cJ2_getChar_3b067 18 = .ok (.new 52, 3) := by decide +kernel
theorem dJ2_getChar_3b067_21 : decode cJ2_getChar_3b067 21 = .ok (.dup, 1) := by decide +kernel
theorem dJ2_getChar_3b067_22 : decode cJ2_getChar_3b067 22 = .ok (.ldc 54, 2) := by decide +kernel
theorem dJ2_getChar_3b067_24 : decode cJ2_getChar_3b067 24 = .ok (.invokespecial 56, 3) := by decide +kernel
theorem dJ2_getChar_3b067_27 : decode cJ2_getChar_3b067 27 = .ok (.athrow, 1) := by decide +kernel
theorem dJ2_getChar_3b067_28 : decode cJ2_getChar_3b067 28 = .ok (.iload_n 1, 1) := by decide +kernel
theorem dJ2_getChar_3b067_29 : decode cJ2_getChar_3b067 29 = .ok (.iconst 1, 1) := by decide +kernel
theorem dJ2_getChar_3b067_30 : decode cJ2_getChar_3b067 30 = .ok (.ishl, 1) := by decide +kernel
theorem dJ2_getChar_3b067_31 : decode cJ2_getChar_3b067 31 = .ok (.istore_n 1, 1) := by decide +kernel
theorem dJ2_getChar_3b067_32 : decode cJ2_getChar_3b067 32 = .ok (.aload_n 0, 1) := by decide +kernel
theorem dJ2_getChar_3b067_33 : decode cJ2_getChar_3b067 33 = .ok (.iload_n 1, 1) := by decide +kernel
theorem dJ2_getChar_3b067_34 : decode cJ2_getChar_3b067 34 = .ok (.iinc 1 1, 3) := by decide +kernel
theorem dJ2_getChar_3b067_37 : decode cJ2_getChar_3b067 37 = .ok (.baload, 1) := by decide +kernel
theorem dJ2_getChar_3b067_38 : decode cJ2_getChar_3b067 38 = .ok (.sipush 255, 3) := by decide +kernel
theorem dJ2_getChar_3b067_41 : decode cJ2_getChar_3b067 41 = .ok (.iand, 1) := by decide +kernel
theorem dJ2_getChar_3b067_42 : decode cJ2_getChar_3b067 42 = .ok (.getstatic 59, 3) := by decide +kernel
theorem dJ2_getChar_3b067_45 : decode cJ2_getChar_3b067 45 = .ok (.ishl, 1) := by decide +kernel
theorem dJ2_getChar_3b067_46 : decode cJ2_getChar_3b067 46 = .ok (.aload_n 0, 1) := by decide +kernel
theorem dJ2_getChar_3b067_47 : decode cJ2_getChar_3b067 47 = .ok (.iload_n 1, 1) := by decide +kernel
theorem dJ2_getChar_3b067_48 : decode cJ2_getChar_3b067 48 = .ok (.baload, 1) := by decide +kernel
theorem dJ2_getChar_3b067_49 : decode cJ2_getChar_3b067 49 = .ok (.sipush 255, 3) := by decide +kernel
theorem dJ2_getChar_3b067_52 : decode cJ2_getChar_3b067 52 = .ok (.iand, 1) := by decide +kernel
theorem dJ2_getChar_3b067_53 : decode cJ2_getChar_3b067 53 = .ok (.getstatic 63, 3) := by decide +kernel
theorem dJ2_getChar_3b067_56 : decode cJ2_getChar_3b067 56 = .ok (.ishl, 1) := by decide +kernel
theorem dJ2_getChar_3b067_57 : decode cJ2_getChar_3b067 57 = .ok (.ior, 1) := by decide +kernel
theorem dJ2_getChar_3b067_58 : decode cJ2_getChar_3b067 58 = .ok (.i2c, 1) := by decide +kernel
theorem dJ2_getChar_3b067_59 : decode cJ2_getChar_3b067 59 = .ok (.ireturn, 1) := by decide +kernel
theorem dJ2_length_9d52b_0 : decode cJ2_length_9d52b 0 = .ok (.aload_n 0, 1) := by decide +kernel
theorem dJ2_length_9d52b_1 : decode cJ2_length_9d52b 1 = .ok (.arraylength, 1) := by decide +kernel
theorem dJ2_length_9d52b_2 : decode cJ2_length_9d52b 2 = .ok (.iconst 1, 1) := by decide +kernel
theorem dJ2_length_9d52b_3 : decode cJ2_length_9d52b 3 = .ok (.ishr, 1) := by decide +kernel
theorem dJ2_length_9d52b_4 : decode cJ2_length_9d52b 4 = .ok (.ireturn, 1) := by decide +kernel
theorem dJ2_charAt_3b067_0 : decode cJ2_charAt_3b067 0 = .ok (.iload_n 1, 1) := by decide +kernel
theorem dJ2_charAt_3b067_1 : decode cJ2_charAt_3b067 1 = .ok (.aload_n 0, 1) := by decide +kernel
theorem dJ2_charAt_3b067_2 : decode cJ2_charAt_3b067 2 = .ok (.invokestatic 67, 3) := by decide +kernel
theorem dJ2_charAt_3b067_5 : decode cJ2_charAt_3b067 5 = .ok (.aload_n 0, 1) := by decide +kernel
theorem dJ2_charAt_3b067_6 : decode cJ2_charAt_3b067 6 = .ok (.iload_n 1, 1) := by decide +kernel
theorem dJ2_charAt_3b067_7 : decode cJ2_charAt_3b067 7 = .ok (.invokestatic 71, 3) := by decide +kernel
theorem dJ2_charAt_3b067_10 : decode cJ2_charAt_3b067 10 = .ok (.ireturn, 1) := by decide +kernel
theorem dJ2_checkIndex_2214a_0 : decode cJ2_checkIndex_2214a 0 = .ok (.iload_n 0, 1) := by decide +kernel
theorem dJ2_checkIndex_2214a_1 : decode cJ2_checkIndex_2214a 1 = .ok (.aload_n 1, 1) := by decide +kernel
theorem dJ2_checkIndex_2214a_2 : decode cJ2_checkIndex_2214a 2 = .ok (.invokestatic 48, 3) := by decide +kernel
theorem dJ2_checkIndex_2214a_5 : decode cJ2_checkIndex_2214a 5 = .ok (.invokestatic 414, 3) := by decide +kernel
theorem dJ2_checkIndex_2214a_8 : decode cJ2_checkIndex_2214a 8 = .ok (.return_, 1) := by decide +kernel
theorem dJ7_fill_53178_0 : decode cJ7_fill_53178 0 = .ok (.iconst 0, 1) := by decide +kernel
theorem dJ7_fill_53178_1 : decode cJ7_fill_53178 1 = .ok (.istore_n 2, 1) := by decide +kernel
theorem dJ7_fill_53178_2 : decode cJ7_fill_53178 2 = .ok (.aload_n 0, 1) := by decide +kernel
theorem dJ7_fill_53178_3 : decode cJ7_fill_53178 3 = .ok (.arraylength, 1) := by decide +kernel
theorem dJ7_fill_53178_4 : decode cJ7_fill_53178 4 = .ok (.istore_n 3, 1) := by decide +kernel
theorem dJ7_fill_53178_5 : decode cJ7_fill_53178 5 = .ok (.iload_n 2, 1) := by decide +kernel
theorem dJ7_fill_53178_6 : decode cJ7_fill_53178 6 = .ok (.iload_n 3, 1) := by decide +kernel
theorem dJ7_fill_53178_7 : decode cJ7_fill_53178 7 = .ok (.if_icmp .ge 13, 3) := by decide +kernel
theorem dJ7_fill_53178_10 : decode cJ7_fill_53178 10 = .ok (.aload_n 0, 1) := by decide +kernel
theorem dJ7_fill_53178_11 : decode cJ7_fill_53178 11 = .ok (.iload_n 2, 1) := by decide +kernel
theorem dJ7_fill_53178_12 : decode cJ7_fill_53178 12 = .ok (.iload_n 1, 1) := by decide +kernel
theorem dJ7_fill_53178_13 : decode cJ7_fill_53178 13 = .ok (.iastore, 1) := by decide +kernel
theorem dJ7_fill_53178_14 : decode cJ7_fill_53178 14 = .ok (.iinc 2 1, 3) := by decide +kernel
theorem dJ7_fill_53178_17 : decode cJ7_fill_53178 17 = .ok (.goto (-12), 3) := by decide +kernel
theorem dJ7_fill_53178_20 : decode cJ7_fill_53178 20 = .ok (.return_, 1) := by decide +kernel
theorem dJ3_checkIndex_8e157_0 : decode cJ3_checkIndex_8e157 0 = .ok (.iload_n 0, 1) := by decide +kernel
theorem dJ3_checkIndex_8e157_1 : decode cJ3_checkIndex_8e157 1 = .ok (.ifCond .lt 8, 3) := by decide +kernel
theorem dJ3_checkIndex_8e157_4 : decode cJ3_checkIndex_8e157 4 = .ok (.iload_n 0, 1) := by decide +kernel
theorem dJ3_checkIndex_8e157_5 : decode cJ3_checkIndex_8e157 5 = .ok (.iload_n 1, 1) := by decide +kernel
theorem dJ3_checkIndex_8e157_6 : decode cJ3_checkIndex_8e157 6 = .ok (.if_icmp .lt 10, 3) := by decide +kernel
theorem dJ3_checkIndex_8e157_9 : decode cJ3_checkIndex_8e157 9 = .ok (.aload_n 2, 1) := by decide +kernel
theorem dJ3_checkIndex_8e157_10 : decode cJ3_checkIndex_8e157 10 = .ok (.iload_n 0, 1) := by decide +kernel
theorem dJ3_checkIndex_8e157_11 : decode cJ3_checkIndex_8e157 11 = .ok (.iload_n 1, 1) := by decide +kernel
theorem dJ3_checkIndex_8e157_12 : decode cJ3_checkIndex_8e157 12 = .ok (.invokestatic 95, 3) := by decide +kernel
theorem dJ3_checkIndex_8e157_15 : decode cJ3_checkIndex_8e157 15 = .ok (.athrow, 1) := by decide +kernel
theorem dJ3_checkIndex_8e157_16 : decode cJ3_checkIndex_8e157 16 = .ok (.iload_n 0, 1) := by decide +kernel
theorem dJ3_checkIndex_8e157_17 : decode cJ3_checkIndex_8e157 17 = .ok (.ireturn, 1) := by decide +kernel
end
section
/-! THE SMALL MACHINE: a world of int arrays and objects whose shape never changes; zz_Go is 'from this small state the method comes to its end, with post'. -/
theorem zz_goodf {w : Cond} (h : w ∈ lw_tbl.filter goodWord) : w ∈ lw_tbl ∧ goodWord w = true := List.mem_filter.mp h
def zz_TB : List Cond := lw_tbl.filter goodWord
theorem zz_in {w : Cond} (i : Nat) (h : lw_tbl[i]? = some w) (hg : goodWord w = true) : w ∈ zz_TB := List.mem_filter.mpr ⟨List.mem_of_getElem? h, hg⟩
theorem zz_goodIn (ws : List Cond) (h : ∀ w ∈ ws, w ∈ zz_TB) : GoodIn zz_TB ws := fun w hw => ⟨h w hw, good_of_word (zz_goodf (h w hw)).2⟩
abbrev zz_SC : Type := Nat ⊕ (List Nat ⊕ (Nat × List (Option Nat)))
abbrev zz_H : Type := Nat → Nat → Int32
def zz_v (ad : Nat → Nat) (v : Value) : Value := match v with
  | .ref k => .ref (ad k)
  | w => w
def zz_f (ad : Nat → Nat) (g : Nat → Int32) (j : Nat) (o : Option Nat) : Value := match o with
  | some k => .ref (ad k)
  | none => .int (g j)
def zz_cell (ad : Nat → Nat) (cI cR : ClassId) (h : zz_H) (k : Nat) (c : zz_SC) : va_E := match c with
  | .inl n => .inl (cI, n, .inl (h k))
  | .inr (.inl l) => .inl (cR, l.length, .inr (.inr (.inr (.inr (fun i => (l[i]?).map ad)))))
  | .inr (.inr (ci, fs)) => .inr (ci, fs.mapIdx (zz_f ad (h k)))
def zz_ws (ad : Nat → Nat) (cI cR : ClassId) (sh : List zz_SC) (h : zz_H) : va_W := sh.mapIdx (fun k c => (ad k, zz_cell ad cI cR h k c))
/-- one cell's ints become others -/
def zz_st (h : zz_H) (k : Nat) (g : Nat → Int32) : zz_H := fun a => if a = k then g else h a
theorem zz_st_self (h : zz_H) (k : Nat) (g : Nat → Int32) : zz_st h k g k = g := if_pos rfl
theorem zz_st_ne (h : zz_H) {k a : Nat} (g : Nat → Int32) (n : a ≠ k) : zz_st h k g a = h a := if_neg n
theorem zz_v_cat (ad : Nat → Nat) (v : Value) : (zz_v ad v).category = v.category := by cases v <;> rfl
theorem zz_ws_at {ad : Nat → Nat} {cI cR : ClassId} {sh : List zz_SC} {h : zz_H} {k : Nat} {c : zz_SC} (hk : sh[k]? = some c) : (zz_ws ad cI cR sh h)[k]? = some (ad k, zz_cell ad cI cR h k c) := by
  simp [zz_ws, List.getElem?_mapIdx, hk]
theorem zz_cell_st {ad : Nat → Nat} {cI cR : ClassId} {h : zz_H} {k j : Nat} {g : Nat → Int32} (c : zz_SC) (hj : j ≠ k) : zz_cell ad cI cR (zz_st h k g) j c = zz_cell ad cI cR h j c := by
  have e : zz_st h k g j = h j := zz_st_ne h g hj
  rcases c with n | l | ⟨ci, fs⟩
  · show Sum.inl (cI, n, Sum.inl (zz_st h k g j)) = Sum.inl (cI, n, Sum.inl (h j))
    rw [e]
  · rfl
  · show Sum.inr (ci, fs.mapIdx (zz_f ad (zz_st h k g j))) = Sum.inr (ci, fs.mapIdx (zz_f ad (h j)))
    rw [e]
theorem zz_ws_set {ad : Nat → Nat} {cI cR : ClassId} {sh : List zz_SC} {h : zz_H} {k : Nat} {c : zz_SC} {g : Nat → Int32} {x : va_E} (hk : sh[k]? = some c) (hx : zz_cell ad cI cR (zz_st h k g) k c = x) : (zz_ws ad cI cR sh h).set k (ad k, x) = zz_ws ad cI cR sh (zz_st h k g) := by
  apply List.ext_getElem?
  intro j
  by_cases hj : k = j
  · subst hj
    have hl : k < (zz_ws ad cI cR sh h).length := (List.getElem?_eq_some_iff.mp (zz_ws_at (ad := ad) (cI := cI) (cR := cR) (h := h) hk)).1
    rw [List.getElem?_set_self hl, zz_ws_at hk, hx]
  · rw [List.getElem?_set_ne hj]
    simp only [zz_ws, List.getElem?_mapIdx]
    cases hs : sh[j]? with
    | none => rfl
    | some c' =>
      simp only [Option.map_some]
      rw [zz_cell_st c' (fun e => hj e.symm)]
theorem zz_ws_arr {ad : Nat → Nat} {cI cR : ClassId} {sh : List zz_SC} {h : zz_H} {k n : Nat} (g : Nat → Int32) (hk : sh[k]? = some (.inl n)) : (zz_ws ad cI cR sh h).set k (ad k, .inl (cI, n, .inl g)) = zz_ws ad cI cR sh (zz_st h k g) :=
  zz_ws_set hk (by show Sum.inl (cI, n, Sum.inl (zz_st h k g k)) = _; rw [zz_st_self])
theorem zz_mapIdx_set {ad : Nat → Nat} {f : Nat → Int32} {fs : List (Option Nat)} {j : Nat} {x : Int32} (hj : fs[j]? = some none) : fs.mapIdx (zz_f ad (upd f j x)) = (fs.mapIdx (zz_f ad f)).set j (.int x) := by
  apply List.ext_getElem?
  intro i
  by_cases hi : j = i
  · subst hi
    have hl : j < (fs.mapIdx (zz_f ad f)).length := by
      rw [List.length_mapIdx]
      exact (List.getElem?_eq_some_iff.mp hj).1
    rw [List.getElem?_set_self hl, List.getElem?_mapIdx, hj]
    simp [zz_f, upd]
  · rw [List.getElem?_set_ne hi, List.getElem?_mapIdx, List.getElem?_mapIdx]
    cases hs : fs[i]? with
    | none => rfl
    | some o =>
      simp only [Option.map_some]
      cases o with
      | none => simp [zz_f, upd, Ne.symm hi]
      | some q => rfl
theorem zz_ws_obj {ad : Nat → Nat} {cI cR : ClassId} {sh : List zz_SC} {h : zz_H} {k ci j : Nat} {fs : List (Option Nat)} (x : Int32) (hk : sh[k]? = some (.inr (.inr (ci, fs)))) (hj : fs[j]? = some none) : (zz_ws ad cI cR sh h).set k (ad k, .inr (ci, (fs.mapIdx (zz_f ad (h k))).set j (.int x))) = zz_ws ad cI cR sh (zz_st h k (upd (h k) j x)) :=
  zz_ws_set hk (by show Sum.inr (ci, fs.mapIdx (zz_f ad (zz_st h k (upd (h k) j x) k))) = _; rw [zz_st_self, zz_mapIdx_set hj])
/-- the locals: null stands for 'nothing is said' -/
def zz_pl (ad : Nat → Nat) : Nat → List Value → List (Nat × Value)
  | _, [] => []
  | i, v :: t => match v with
    | .null => zz_pl ad (i + 1) t
    | w => (i, zz_v ad w) :: zz_pl ad (i + 1) t
theorem zz_pl_mem {ad : Nat → Nat} : ∀ (L : List Value) (b i : Nat) (v : Value), L[i]? = some v → v ≠ .null → (b + i, zz_v ad v) ∈ zz_pl ad b L := by
  intro L
  induction L with
  | nil => intro b i v h; simp at h
  | cons w t ih =>
    intro b i v h hv
    cases i with
    | zero =>
      simp at h
      subst h
      cases w <;> first | exact absurd rfl hv | exact List.mem_cons_self
    | succ i =>
      have h1 := ih (b + 1) i v (by simpa using h) hv
      rw [show b + (i + 1) = b + 1 + i by omega]
      cases w <;> first | exact h1 | exact List.mem_cons_of_mem _ h1
theorem zz_pl_of {ad : Nat → Nat} : ∀ (L : List Value) (b : Nat) (q : Nat × Value), q ∈ zz_pl ad b L → ∃ (i : Nat) (v : Value), L[i]? = some v ∧ v ≠ .null ∧ q = (b + i, zz_v ad v) := by
  intro L
  induction L with
  | nil => intro b q h; cases h
  | cons w t ih =>
    intro b q h
    have key : q ∈ zz_pl ad (b + 1) t → ∃ (i : Nat) (v : Value), (w :: t)[i]? = some v ∧ v ≠ .null ∧ q = (b + i, zz_v ad v) := by
      intro h1
      obtain ⟨i, v, h2, h3, h4⟩ := ih (b + 1) q h1
      exact ⟨i + 1, v, by simpa using h2, h3, by rw [h4]; congr 1; omega⟩
    by_cases hw : w = .null
    · subst hw
      exact key h
    · have h2 : q ∈ (b, zz_v ad w) :: zz_pl ad (b + 1) t := by
        cases w <;> first | exact absurd rfl hw | exact h
      rcases List.mem_cons.mp h2 with h3 | h3
      · exact ⟨0, w, rfl, hw, h3⟩
      · exact key h3
theorem zz_lset {ad : Nat → Nat} {ls : Array Slot} {nL i : Nat} {L : List Value} {v : Value} (hc : L.all (fun w => w.category == 1) = true) (h : lv_has ls nL ((i, zz_v ad v) :: (zz_pl ad 0 L).filter (fun q => !(q.1 == i) && !(q.1 + 1 == i && q.2.category == 2)))) : lv_has ls nL (zz_pl ad 0 (L.set i v)) := by
  refine ⟨h.1, h.2.1, fun q hq => ?_⟩
  obtain ⟨j, w, h1, h2, h3⟩ := zz_pl_of _ _ _ hq
  subst h3
  rw [Nat.zero_add]
  by_cases hj : i = j
  · subst hj
    have hl : i < L.length := by
      have := (List.getElem?_eq_some_iff.mp h1).1
      simpa using this
    rw [List.getElem?_set_self hl] at h1
    cases h1
    exact h.2.2 _ List.mem_cons_self
  · rw [List.getElem?_set_ne hj] at h1
    have hm := zz_pl_mem (ad := ad) L 0 j w h1 h2
    rw [Nat.zero_add] at hm
    have hcw : w.category = 1 := by
      have := List.all_eq_true.mp hc w (List.mem_of_getElem? h1)
      simpa using this
    refine h.2.2 (j, zz_v ad w) (List.mem_cons_of_mem _ (List.mem_filter.mpr ⟨hm, ?_⟩))
    simp [Ne.symm hj, zz_v_cat, hcw]
theorem zz_lget {ad : Nat → Nat} {ls : Array Slot} {nL i : Nat} {L : List Value} {v : Value} (h : lv_has ls nL (zz_pl ad 0 L)) (hi : L[i]? = some v) (hv : v ≠ .null) : ls[i]? = some (.val (zz_v ad v)) := by
  have := h.2.2 _ (zz_pl_mem (ad := ad) L 0 i v hi hv)
  rw [Nat.zero_add] at this
  exact this
/-- iterated: a loop of at most n rounds -/
def zz_lp {S : Type} (b : (S → Prop) → S → Prop) : Nat → S → Prop
  | 0, _ => False
  | n + 1, s => b (zz_lp b n) s
theorem zz_lp_of {S : Type} {b : (S → Prop) → S → Prop} (I : S → Prop) (μ : S → Nat) (hs : ∀ (s : S) (K : S → Prop), I s → (∀ s', I s' → μ s' < μ s → K s') → b K s) (s : S) (h : I s) : ∃ n, zz_lp b n s := by
  have key : ∀ (n : Nat) (s : S), μ s < n → I s → zz_lp b n s := by
    intro n
    induction n with
    | zero => intro s h; omega
    | succ n ih => intro s h1 h2; exact hs s _ h2 (fun s' h3 h4 => ih s' (by omega) h3)
  exact ⟨μ s + 1, key _ s (Nat.lt_succ_self _) h⟩
end
section
/-! what a method knows of the tables, and of cells outside its world -/
def zz_nl : List (String × Nat × MethodName × String) := [(RX0, 55, yX4_spotOfPoint, RX4)]
def zz_Ne (U : State) : Prop := ∀ q ∈ zz_nl, va_Nw (.methodLinkNest q.1 q.2.1 q.2.2.1 q.2.2.2) U
theorem zz_Ne.same {u U : State} (hv : u.vm = U.vm) (h : zz_Ne u) : zz_Ne U := fun q hq => va_Nw.same rfl hv (h q hq)
theorem zz_Ne.warm {s U : State} (hW : s.WarmedH U.vm) (h : zz_Ne s) : zz_Ne U := fun q hq => va_Nw.warmM hW (h q hq)
/-- cells that nobody writes: MarkCurves.OVER is 2000, the text constant i is 1000 + i, its bytes 1100 + i -/
def zz_over : List Int32 := [-1, 0, 0, 2, 0, 1, 0]
def zz_len : List Nat := [8, 6, 5, 5, 2, 5, 5, 9, 4, 6, 6, 7]
def zz_tx : List String := ["question", "common", "pupil", "worth", "by", "curve", "added", "stretched", "bent", "shared", "linked", "dropped"]
def zz_byt : List (List Int32) := [[113, 117, 101, 115, 116, 105, 111, 110], [99, 111, 109, 109, 111, 110], [112, 117, 112, 105, 108], [119, 111, 114, 116, 104], [98, 121], [99, 117, 114, 118, 101], [97, 100, 100, 101, 100], [115, 116, 114, 101, 116, 99, 104, 101, 100], [98, 101, 110, 116], [115, 104, 97, 114, 101, 100], [108, 105, 110, 107, 101, 100], [100, 114, 111, 112, 112, 101, 100]]
def zz_ent : List Nat := [38, 47, 52, 69, 97, 103, 105, 107, 109, 111, 113, 115]
def zz_Out (ad : Nat → Nat) (A : Nat → Prop) (U : State) (H : Heap) : Prop :=
  va_Z RX4 "OVER" "[I" (.ref (ad 2000)) A U H ∧ va_T .int (ad 2000) 7 (fun j => .int (zz_over.getD j 0)) A U H ∧
  vk_S 12 zz_len zz_byt (fun i => ad (1000 + i)) (fun i => ad (1100 + i)) A U H ∧ (∀ i, i < 12 → vk_R RX3 (zz_ent.getD i 0) (zz_tx.getD i "") (ad (1000 + i)) U) ∧
  va_Z "java/lang/String" "COMPACT_STRINGS" "Z" (.int 1) A U H ∧ va_Zq "jdk/internal/util/Preconditions" "SIOOBE_FORMATTER" "Ljava/util/function/BiFunction;" A U H
theorem zz_Out.to {ad : Nat → Nat} {A B : Nat → Prop} {u U : State} {H H1 : Heap} (h : zz_Out ad A u H) (hvm : u.vm.Alike U.vm) (hR : ∀ (own : String) (k : Nat) (tx : String) (a : Nat), vk_R own k tx a u → vk_R own k tx a U) (hq : ∀ a : Nat, a < H.size → ¬ A a → H1[a]? = H[a]?) (hAB : ∀ q, B q → A q) : zz_Out ad B U H1 := by
  obtain ⟨h1, h2, h3, h4, h5, h6⟩ := h
  exact ⟨((h1.moved hvm).kept hq).narrow hAB, ((h2.moved hvm).kept hq).narrow hAB, ((h3.moved hvm).kept hq).narrow hAB, fun i hi => hR _ _ _ _ (h4 i hi), ((h5.moved hvm).kept hq).narrow hAB, ((h6.moved hvm).kept hq).narrow hAB⟩
abbrev zz_tys (cI cR : ClassId) : List (ClassId × FieldType) := [(cI, .int), (cR, .object "MarkCurves$Sheet")]
/-- where a method stands: the machine, its code, the tables, its room -/
def zz_Cx (d : Nat) (cc : ByteArray) (own : String) (nL : Nat) (ret : Option FieldType) (p : Program) (R : Room) (s : State) (m : MethodId) (args : Array Value) (meth : Method) (c : Code) (D : va_G) (cI cR : ClassId) (ad : Nat → Nat) (A : Nat → Prop) : Prop :=
  p.tables.exec = Jvm.exec ∧ c.code = cc ∧ meth.sig.returnType = ret ∧ c.maxLocals = nL ∧ s.vm.findClass own = some m.cls ∧ meth.locks = false ∧ (∀ w ∈ zz_TB, w.before args s = true) ∧ d ≤ R.frames ∧ 36 * d ≤ R.locals ∧ (∀ q, s.heap.size ≤ q → A q) ∧ va_K D vwCl (zz_tys cI cR) s ∧ zz_Ne s ∧ zz_Out ad A s s.heap
def zz_B (D : va_G) (cI cR : ClassId) (ad : Nat → Nat) (sh : List zz_SC) (A : Nat → Prop) (h : zz_H) (t : State) : Prop := va_P D vwCl (zz_ws ad cI cR sh h) t.heap ∧ va_D A (zz_ws ad cI cR sh h)
def zz_Q (ret : Option FieldType) (post : Int32 → zz_H → Prop) (B : zz_H → State → Prop) (A : Nat → Prop) : Array Value → State → Outcome → State → Prop := match ret with
  | none => va_Qv (fun h => post 0 h) B A
  | some _ => va_Qi post B A
def zz_Go (sh : List zz_SC) (d : Nat) (cc : ByteArray) (own : String) (nL : Nat) (ret : Option FieldType) (post : Int32 → zz_H → Prop) (pc : Nat) (st L : List Value) (h : zz_H) : Prop :=
  ∀ (p : Program) (l : Launch) (e : Env) (R : Room) (s : State) (m : MethodId) (args : Array Value) (below : List Frame) (meth : Method) (c : Code) (H : Heap) (locs : List Loc) (D : va_G) (cI cR : ClassId) (ad : Nat → Nat) (A : Nat → Prop) (ls : Array Slot),
    zz_Cx d cc own nL ret p R s m args meth c D cI cR ad A → va_P D vwCl (zz_ws ad cI cR sh h) H → va_D A (zz_ws ad cI cR sh h) → va_S A s.heap H locs → lv_has ls nL (zz_pl ad 0 L) →
    W p l e R s m args below meth c H locs 0 0 (MQ below (zz_Q ret post (zz_B D cI cR ad sh A) A) args s 0 0 A) (F0 m pc ls (st.map (zz_v ad)))
def zz_rm (d : Nat) : Room := { frames := d, cells := 0, slots := 0, locals := 36 * d }
abbrev zz_w (y : MethodName) (cc : ByteArray) (nL : Nat) (ret : Option FieldType) : List Cond := Cond.code y cc nL ret :: zz_TB
/-- a method's contract: from a world with the ints h, with these arguments, it returns, with post -/
def zz_Ct (sh : List zz_SC) (d : Nat) (y : MethodName) (cc : ByteArray) (nL : Nat) (ret : Option FieldType) (av : List Value) (h : zz_H) (post : Int32 → zz_H → Prop) : Prop :=
  ∀ (l : Launch) (D : va_G) (cI cR : ClassId) (ad : Nat → Nat) (sz : Nat),
    Met l y (zz_w y cc nL ret) (zz_rm d) (va_Pc (av.map (zz_v ad)) (fun U => U.heap.size = sz ∧ va_P D vwCl (zz_ws ad cI cR sh h) U.heap ∧ va_K D vwCl (zz_tys cI cR) U ∧ va_D (fun _ => True) (zz_ws ad cI cR sh h) ∧ zz_Ne U ∧ zz_Out ad (va_A (zz_ws ad cI cR sh h) sz) U U.heap))
      (zz_Q ret post (zz_B D cI cR ad sh (va_A (zz_ws ad cI cR sh h) sz)) (va_A (zz_ws ad cI cR sh h) sz)) 0 0 (va_A (zz_ws ad cI cR sh h) sz)
/-- a contract out of a walk -/
theorem zz_ct {sh : List zz_SC} {d : Nat} {y : MethodName} {cc : ByteArray} {nL : Nat} {ret : Option FieldType} {av L : List Value} {h : zz_H} {post : Int32 → zz_H → Prop} (hy : plainName y.cls = true) (hn : (lg_sl av).length ≤ nL) (hL : ∀ ad : Nat → Nat, ∀ q ∈ zz_pl ad 0 L, q ∈ lv_args 0 (av.map (zz_v ad))) (g : zz_Go sh d cc y.cls nL ret post 0 [] L h) : zz_Ct sh d y cc nL ret av h post := by
  intro l D cI cR ad sz
  refine Met.ofW (cc := cc) (maxL := nL) (ret := ret) hy rfl ?_
  intro p e s m args below meth c s₁ B hml hv
  obtain ⟨rfl, hsz, hP, hK, hD0, hN, hO⟩ := hv
  subst hsz
  have hts : ∀ w ∈ zz_w y cc nL ret, w.before ((av.map (zz_v ad)).toArray) s = true := atoms_spec (ws := zz_w y cc nL ret) B.pre
  have hown : s.vm.findClass y.cls = some m.cls := findClass_of_methodNamed B.named
  have hlen : (lg_sl (av.map (zz_v ad))).length = (lg_sl av).length := by
    clear hn hL g hP hK hD0 hN hO hts B
    induction av with
    | nil => rfl
    | cons v t ih =>
      simp only [lg_sl, List.map_cons, List.flatMap_cons, List.length_append, zz_v_cat] at ih ⊢
      rw [ih]
      split <;> rfl
  have hl := lv_entry (av.map (zz_v ad)) (n := nL) (by rw [hlen]; exact hn)
  rw [lg_entry_eq]
  generalize (lg_sl (av.map (zz_v ad)) ++ List.replicate (nL - (lg_sl (av.map (zz_v ad))).length) Slot.unset).toArray = ls at hl ⊢
  exact g p l e _ s m _ below meth c s.heap [] D cI cR ad _ ls ⟨B.exec, B.bytes, B.returns, hml, hown, B.notSynchronized, fun w hw => hts w (List.mem_cons_of_mem _ hw), Nat.le_refl _, Nat.le_refl _, fun q hq => Or.inr hq, hK, hN, hO⟩ hP hD0.self va_S.rf ⟨hl.1, hl.2.1, fun q hq => hl.2.2 q (hL ad q hq)⟩
end
section
def zz_sto (h : zz_H) (k : Nat) (g : Nat → Int32) (P : zz_H → Prop) : Prop := P (zz_st h k g)
def zz_min (x y : Int32) : Int32 := if y < x then y else x
def zz_max (x y : Int32) : Int32 := if x < y then y else x
def zz_abs (x : Int32) : Int32 := if 0 ≤ x then x else 0 - x
/-- an answer that is a truth value -/
def zz_z (v : Int32) : Prop := narrow .boolean (.int v) = .int v
theorem zz_vin {i : Int32} {n : Nat} (h : (decide (i < 0) || decide (n ≤ i.toNatClampNeg)) = false) : vp_in i n := by
  simp only [Bool.or_eq_false_iff, decide_eq_false_iff_not] at h
  exact fun q => q.elim h.1 h.2
def zz_le : List Value → List Value → Prop
  | [], _ => True
  | _ :: _, [] => False
  | v :: t, w :: t' => (v = .null ∨ v = w) ∧ zz_le t t'
theorem zz_le_mem (ad : Nat → Nat) : ∀ (L' L : List Value) (b : Nat), zz_le L' L → ∀ q ∈ zz_pl ad b L', q ∈ zz_pl ad b L := by
  intro L'
  induction L' with
  | nil => intro L b _ q hq; cases hq
  | cons v t ih =>
    intro L b hs q hq
    cases L with
    | nil => exact hs.elim
    | cons w t' =>
      obtain ⟨h1, h2⟩ := hs
      have up : q ∈ zz_pl ad (b + 1) t' → q ∈ zz_pl ad b (w :: t') := by
        intro h3
        cases w <;> first | exact h3 | exact List.mem_cons_of_mem _ h3
      rcases h1 with rfl | rfl
      · exact up (ih t' (b + 1) h2 q hq)
      · by_cases hv : v = .null
        · subst hv
          exact up (ih t' (b + 1) h2 q hq)
        · have h4 : q ∈ (b, zz_v ad v) :: zz_pl ad (b + 1) t := by
            cases v <;> first | exact absurd rfl hv | exact hq
          rcases List.mem_cons.mp h4 with rfl | h5
          · cases v <;> first | exact absurd rfl hv | exact List.mem_cons_self
          · exact up (ih t' (b + 1) h2 q h5)
def zz_yV (y : MethodName) (cc : ByteArray) (nL : Nat) (ret : Option FieldType) (C : String) (n : Nat) : Prop := Cond.code y cc nL ret ∈ zz_TB ∧ Cond.instanceMethod y ∈ zz_TB ∧ Cond.selects C y y ∈ zz_TB ∧ Cond.initialized C ∈ zz_TB ∧ nL ≤ 17 ∧ y.cls = C ∧ y.cls ≠ "java/lang/invoke/MethodHandle" ∧ y.cls ≠ "java/lang/invoke/VarHandle" ∧ (parseMethodDescriptor y.desc).map (fun d => d.parameters.length) = some n
def zz_yS (y : MethodName) (cc : ByteArray) (nL : Nat) (ret : Option FieldType) (n : Nat) : Prop := Cond.code y cc nL ret ∈ zz_TB ∧ Cond.static y ∈ zz_TB ∧ Cond.initialized y.cls ∈ zz_TB ∧ nL ≤ 17 ∧ y.cls ≠ "java/lang/invoke/MethodHandle" ∧ y.cls ≠ "java/lang/invoke/VarHandle" ∧ (parseMethodDescriptor y.desc).map (fun d => d.parameters.length) = some n
def zz_ushr (x y : Int32) : Int32 := (x.toUInt32 >>> (y.toUInt32 &&& Int32.toUInt32 31)).toInt32
def zz_rem (x y : Int32) : Int32 := x - x / y * y
def zz_cls (ci : Nat) (C : String) (T : u_T) (N : Nat) (ty : Nat → FieldType) : Prop := vwCl[ci]? = some (C, T, N) ∧ (∀ w ∈ u_ws C T N, w ∈ zz_TB) ∧ (∀ k, k < N → parseFieldDescriptor (T k).2.2.1 = some (ty k)) ∧ ∀ a, a < N → ∀ b, b < N → a ≠ b → (T a).2.1 ≠ (T b).2.1
theorem zz_catS (ad : Nat → Nat) (st : List Value) : ((st.map (zz_v ad)).map fun v => v.category).sum = (st.map fun v => v.category).sum := by
  rw [List.map_map]
  congr 1
  exact List.map_congr_left (fun v _ => zz_v_cat ad v)
theorem zz_loc {d d' nL : Nat} {R : Room} (h : d' + 1 ≤ d) (hn : nL ≤ 17) (hl : 36 * d ≤ R.locals) : 8 + (nL + 11) + (zz_rm d').locals ≤ R.locals := by
  show 8 + (nL + 11) + 36 * d' ≤ R.locals
  omega
theorem zz_memV {own C : String} {i nL : Nat} {y : MethodName} {cc : ByteArray} {ret : Option FieldType} (h0 : Cond.code y cc nL ret ∈ zz_TB) (h1 : Cond.methodLink own i y ∈ zz_TB) (h2 : Cond.instanceMethod y ∈ zz_TB) (h3 : Cond.selects C y y ∈ zz_TB) (h4 : Cond.initialized C ∈ zz_TB) : ∀ w ∈ wsV own i C y (zz_w y cc nL ret), w ∈ zz_TB := by
  intro w hw
  simp only [wsV, List.mem_append, List.mem_cons, List.not_mem_nil, or_false] at hw
  rcases hw with (rfl | rfl | rfl | rfl) | rfl | hw <;> assumption
theorem zz_memS {own : String} {i nL : Nat} {y : MethodName} {cc : ByteArray} {ret : Option FieldType} (h0 : Cond.code y cc nL ret ∈ zz_TB) (h1 : Cond.methodLink own i y ∈ zz_TB) (h2 : Cond.static y ∈ zz_TB) (h3 : Cond.initialized y.cls ∈ zz_TB) : ∀ w ∈ va_wsS own i y (zz_w y cc nL ret), w ∈ zz_TB := by
  intro w hw
  simp only [va_wsS, List.mem_append, List.mem_cons, List.not_mem_nil, or_false] at hw
  rcases hw with (rfl | rfl | rfl) | rfl | hw <;> assumption
theorem zz_memN {nL : Nat} {y : MethodName} {cc : ByteArray} {ret : Option FieldType} (h0 : Cond.code y cc nL ret ∈ zz_TB) : ∀ w ∈ zz_w y cc nL ret, w ∈ zz_TB := by
  intro w hw
  rcases List.mem_cons.mp hw with rfl | hw <;> assumption
section ZR
variable {sh : List zz_SC} {d : Nat} {cc : ByteArray} {own : String} {nL : Nat} {ret : Option FieldType} {post : Int32 → zz_H → Prop} {pc : Nat} {st L : List Value} {h : zz_H}
theorem zr_iconst {n : Int} {v : Int32} (hd : decode cc pc = .ok (.iconst n, 1)) (hv : Int32.ofInt n = v) (k : zz_Go sh d cc own nL ret post (pc + 1) (.int v :: st) L h) : zz_Go sh d cc own nL ret post pc st L h := by
  intro p l e R s m args below meth c H locs D cI cR ad A ls X hP hD hS hL
  obtain ⟨hx, hb, hr, hml, hown, hlk, hts, hfr, hlo, hA, hK, hN, hO⟩ := id X
  exact lv_iconst hx hb hd hv (k p l e R s m args below meth c H locs D cI cR ad A ls X hP hD hS hL)
theorem zr_bipush {n : Int} {v : Int32} (hd : decode cc pc = .ok (.bipush n, 2)) (hv : (Int8.ofInt n).toInt32 = v) (k : zz_Go sh d cc own nL ret post (pc + 2) (.int v :: st) L h) : zz_Go sh d cc own nL ret post pc st L h := by
  intro p l e R s m args below meth c H locs D cI cR ad A ls X hP hD hS hL
  obtain ⟨hx, hb, hr, hml, hown, hlk, hts, hfr, hlo, hA, hK, hN, hO⟩ := id X
  exact lv_bipush hx hb hd hv (k p l e R s m args below meth c H locs D cI cR ad A ls X hP hD hS hL)
theorem zr_sipush {n : Int} {v : Int32} (hd : decode cc pc = .ok (.sipush n, 3)) (hv : (Int16.ofInt n).toInt32 = v) (k : zz_Go sh d cc own nL ret post (pc + 3) (.int v :: st) L h) : zz_Go sh d cc own nL ret post pc st L h := by
  intro p l e R s m args below meth c H locs D cI cR ad A ls X hP hD hS hL
  obtain ⟨hx, hb, hr, hml, hown, hlk, hts, hfr, hlo, hA, hK, hN, hO⟩ := id X
  exact lv_sipush hx hb hd hv (k p l e R s m args below meth c H locs D cI cR ad A ls X hP hD hS hL)
theorem zr_lconst {n : Fin 2} {v : Int64} (hd : decode cc pc = .ok (.lconst n, 1)) (hv : Int64.ofNat (n : Nat) = v) (k : zz_Go sh d cc own nL ret post (pc + 1) (.long v :: st) L h) : zz_Go sh d cc own nL ret post pc st L h := by
  intro p l e R s m args below meth c H locs D cI cR ad A ls X hP hD hS hL
  obtain ⟨hx, hb, hr, hml, hown, hlk, hts, hfr, hlo, hA, hK, hN, hO⟩ := id X
  exact lv_lconst hx hb hd hv (k p l e R s m args below meth c H locs D cI cR ad A ls X hP hD hS hL)
theorem zr_ldc {i : Nat} {v : Int32} (hw : Cond.constant own i v ∈ zz_TB) (hd : decode cc pc = .ok (.ldc i, 2)) (k : zz_Go sh d cc own nL ret post (pc + 2) (.int v :: st) L h) : zz_Go sh d cc own nL ret post pc st L h := by
  intro p l e R s m args below meth c H locs D cI cR ad A ls X hP hD hS hL
  obtain ⟨hx, hb, hr, hml, hown, hlk, hts, hfr, hlo, hA, hK, hN, hO⟩ := id X
  exact lv_ldc hx hb hown (hts _ hw) hd (k p l e R s m args below meth c H locs D cI cR ad A ls X hP hD hS hL)
theorem zr_ldcw {i : Nat} {v : Int32} (hw : Cond.constant own i v ∈ zz_TB) (hd : decode cc pc = .ok (.ldc_w i, 3)) (k : zz_Go sh d cc own nL ret post (pc + 3) (.int v :: st) L h) : zz_Go sh d cc own nL ret post pc st L h := by
  intro p l e R s m args below meth c H locs D cI cR ad A ls X hP hD hS hL
  obtain ⟨hx, hb, hr, hml, hown, hlk, hts, hfr, hlo, hA, hK, hN, hO⟩ := id X
  exact lv_ldcw hx hb hown (hts _ hw) hd (k p l e R s m args below meth c H locs D cI cR ad A ls X hP hD hS hL)
theorem zr_ldc2 {i : Nat} {v : Int64} (hw : Cond.constantLong own i v ∈ zz_TB) (hd : decode cc pc = .ok (.ldc2_w i, 3)) (k : zz_Go sh d cc own nL ret post (pc + 3) (.long v :: st) L h) : zz_Go sh d cc own nL ret post pc st L h := by
  intro p l e R s m args below meth c H locs D cI cR ad A ls X hP hD hS hL
  obtain ⟨hx, hb, hr, hml, hown, hlk, hts, hfr, hlo, hA, hK, hN, hO⟩ := id X
  exact lv_ldc2 hx hb hown (hts _ hw) hd (k p l e R s m args below meth c H locs D cI cR ad A ls X hP hD hS hL)
theorem zr_iload_n {k : Fin 4} {i : Nat} {x : Int32} (hd : decode cc pc = .ok (.iload_n k, 1)) (hi : (k : Nat) = i) (hl : L[i]? = some (.int x)) (kk : zz_Go sh d cc own nL ret post (pc + 1) (.int x :: st) L h) : zz_Go sh d cc own nL ret post pc st L h := by
  intro p l e R s m args below meth c H locs D cI cR ad A ls X hP hD hS hL
  obtain ⟨hx, hb, hr, hml, hown, hlk, hts, hfr, hlo, hA, hK, hN, hO⟩ := id X
  exact lv_iload_n hx hb hd hi (zz_lget hL hl (fun q => by cases q)) (kk p l e R s m args below meth c H locs D cI cR ad A ls X hP hD hS hL)
theorem zr_iload {i : Nat} {x : Int32} (hd : decode cc pc = .ok (.iload i, 2)) (hl : L[i]? = some (.int x)) (kk : zz_Go sh d cc own nL ret post (pc + 2) (.int x :: st) L h) : zz_Go sh d cc own nL ret post pc st L h := by
  intro p l e R s m args below meth c H locs D cI cR ad A ls X hP hD hS hL
  obtain ⟨hx, hb, hr, hml, hown, hlk, hts, hfr, hlo, hA, hK, hN, hO⟩ := id X
  exact lv_iload hx hb hd (zz_lget hL hl (fun q => by cases q)) (kk p l e R s m args below meth c H locs D cI cR ad A ls X hP hD hS hL)
theorem zr_lload_n {k : Fin 4} {i : Nat} {x : Int64} (hd : decode cc pc = .ok (.lload_n k, 1)) (hi : (k : Nat) = i) (hl : L[i]? = some (.long x)) (kk : zz_Go sh d cc own nL ret post (pc + 1) (.long x :: st) L h) : zz_Go sh d cc own nL ret post pc st L h := by
  intro p l e R s m args below meth c H locs D cI cR ad A ls X hP hD hS hL
  obtain ⟨hx, hb, hr, hml, hown, hlk, hts, hfr, hlo, hA, hK, hN, hO⟩ := id X
  exact lv_lload_n hx hb hd hi (zz_lget hL hl (fun q => by cases q)) (kk p l e R s m args below meth c H locs D cI cR ad A ls X hP hD hS hL)
theorem zr_lload {i : Nat} {x : Int64} (hd : decode cc pc = .ok (.lload i, 2)) (hl : L[i]? = some (.long x)) (kk : zz_Go sh d cc own nL ret post (pc + 2) (.long x :: st) L h) : zz_Go sh d cc own nL ret post pc st L h := by
  intro p l e R s m args below meth c H locs D cI cR ad A ls X hP hD hS hL
  obtain ⟨hx, hb, hr, hml, hown, hlk, hts, hfr, hlo, hA, hK, hN, hO⟩ := id X
  exact lv_lload hx hb hd (zz_lget hL hl (fun q => by cases q)) (kk p l e R s m args below meth c H locs D cI cR ad A ls X hP hD hS hL)
theorem zr_aload_n {k : Fin 4} {i : Nat} {x : Nat} (hd : decode cc pc = .ok (.aload_n k, 1)) (hi : (k : Nat) = i) (hl : L[i]? = some (.ref x)) (kk : zz_Go sh d cc own nL ret post (pc + 1) (.ref x :: st) L h) : zz_Go sh d cc own nL ret post pc st L h := by
  intro p l e R s m args below meth c H locs D cI cR ad A ls X hP hD hS hL
  obtain ⟨hx, hb, hr, hml, hown, hlk, hts, hfr, hlo, hA, hK, hN, hO⟩ := id X
  exact lv_aload_n hx hb hd hi (zz_lget hL hl (fun q => by cases q)) (kk p l e R s m args below meth c H locs D cI cR ad A ls X hP hD hS hL)
theorem zr_aload {i : Nat} {x : Nat} (hd : decode cc pc = .ok (.aload i, 2)) (hl : L[i]? = some (.ref x)) (kk : zz_Go sh d cc own nL ret post (pc + 2) (.ref x :: st) L h) : zz_Go sh d cc own nL ret post pc st L h := by
  intro p l e R s m args below meth c H locs D cI cR ad A ls X hP hD hS hL
  obtain ⟨hx, hb, hr, hml, hown, hlk, hts, hfr, hlo, hA, hK, hN, hO⟩ := id X
  exact lv_aload hx hb hd (zz_lget hL hl (fun q => by cases q)) (kk p l e R s m args below meth c H locs D cI cR ad A ls X hP hD hS hL)
theorem zr_istore_n {k : Fin 4} {i : Nat} {x : Int32} (L' : List Value) (hd : decode cc pc = .ok (.istore_n k, 1)) (hi : (k : Nat) = i) (hn : i < nL) (hc : L.all (fun w => w.category == 1) = true) (he : L.set i (.int x) = L') (kk : zz_Go sh d cc own nL ret post (pc + 1) st L' h) : zz_Go sh d cc own nL ret post pc (.int x :: st) L h := by
  intro p l e R s m args below meth c H locs D cI cR ad A ls X hP hD hS hL
  obtain ⟨hx, hb, hr, hml, hown, hlk, hts, hfr, hlo, hA, hK, hN, hO⟩ := id X
  exact lv_istore_n hx hb hd hi hL hn rfl (fun ls' hL' => kk p l e R s m args below meth c H locs D cI cR ad A ls' X hP hD hS (he ▸ zz_lset (v := .int x) hc hL'))
theorem zr_istore {i : Nat} {x : Int32} (L' : List Value) (hd : decode cc pc = .ok (.istore i, 2)) (hn : i < nL) (hc : L.all (fun w => w.category == 1) = true) (he : L.set i (.int x) = L') (kk : zz_Go sh d cc own nL ret post (pc + 2) st L' h) : zz_Go sh d cc own nL ret post pc (.int x :: st) L h := by
  intro p l e R s m args below meth c H locs D cI cR ad A ls X hP hD hS hL
  obtain ⟨hx, hb, hr, hml, hown, hlk, hts, hfr, hlo, hA, hK, hN, hO⟩ := id X
  exact lv_istore hx hb hd hL hn rfl (fun ls' hL' => kk p l e R s m args below meth c H locs D cI cR ad A ls' X hP hD hS (he ▸ zz_lset (v := .int x) hc hL'))
theorem zr_astore_n {k : Fin 4} {i : Nat} {x : Nat} (L' : List Value) (hd : decode cc pc = .ok (.astore_n k, 1)) (hi : (k : Nat) = i) (hn : i < nL) (hc : L.all (fun w => w.category == 1) = true) (he : L.set i (.ref x) = L') (kk : zz_Go sh d cc own nL ret post (pc + 1) st L' h) : zz_Go sh d cc own nL ret post pc (.ref x :: st) L h := by
  intro p l e R s m args below meth c H locs D cI cR ad A ls X hP hD hS hL
  obtain ⟨hx, hb, hr, hml, hown, hlk, hts, hfr, hlo, hA, hK, hN, hO⟩ := id X
  exact lv_astore_n hx hb hd hi hL hn rfl (fun ls' hL' => kk p l e R s m args below meth c H locs D cI cR ad A ls' X hP hD hS (he ▸ zz_lset (v := .ref x) hc hL'))
theorem zr_astore {i : Nat} {x : Nat} (L' : List Value) (hd : decode cc pc = .ok (.astore i, 2)) (hn : i < nL) (hc : L.all (fun w => w.category == 1) = true) (he : L.set i (.ref x) = L') (kk : zz_Go sh d cc own nL ret post (pc + 2) st L' h) : zz_Go sh d cc own nL ret post pc (.ref x :: st) L h := by
  intro p l e R s m args below meth c H locs D cI cR ad A ls X hP hD hS hL
  obtain ⟨hx, hb, hr, hml, hown, hlk, hts, hfr, hlo, hA, hK, hN, hO⟩ := id X
  exact lv_astore hx hb hd hL hn rfl (fun ls' hL' => kk p l e R s m args below meth c H locs D cI cR ad A ls' X hP hD hS (he ▸ zz_lset (v := .ref x) hc hL'))
theorem zr_iinc {i : Nat} {n : Int} {x : Int32} (v : Int32) (L' : List Value) (hd : decode cc pc = .ok (.iinc i n, 3)) (hl : L[i]? = some (.int x)) (hv : x + Int32.ofInt n = v) (hn : i < nL) (hc : L.all (fun w => w.category == 1) = true) (he : L.set i (.int v) = L') (kk : zz_Go sh d cc own nL ret post (pc + 3) st L' h) : zz_Go sh d cc own nL ret post pc st L h := by
  intro p l e R s m args below meth c H locs D cI cR ad A ls X hP hD hS hL
  obtain ⟨hx, hb, hr, hml, hown, hlk, hts, hfr, hlo, hA, hK, hN, hO⟩ := id X
  have hm := zz_pl_mem (ad := ad) L 0 i (.int x) hl (fun q => by cases q)
  rw [Nat.zero_add] at hm
  obtain ⟨j, hj⟩ := List.getElem?_of_mem hm
  exact lv_iinc hx hb hd hL (k := j) hj hv hn rfl (fun ls' hL' => kk p l e R s m args below meth c H locs D cI cR ad A ls' X hP hD hS (he ▸ zz_lset (v := .int v) hc hL'))
theorem zr_iadd {x y : Int32} (hd : decode cc pc = .ok (.iadd, 1)) (k : zz_Go sh d cc own nL ret post (pc + 1) (.int (x + y) :: st) L h) : zz_Go sh d cc own nL ret post pc (.int y :: .int x :: st) L h := by
  intro p l e R s m args below meth c H locs D cI cR ad A ls X hP hD hS hL
  obtain ⟨hx, hb, hr, hml, hown, hlk, hts, hfr, hlo, hA, hK, hN, hO⟩ := id X
  exact lv_iadd hx hb hd (k p l e R s m args below meth c H locs D cI cR ad A ls X hP hD hS hL)
theorem zr_isub {x y : Int32} (hd : decode cc pc = .ok (.isub, 1)) (k : zz_Go sh d cc own nL ret post (pc + 1) (.int (x - y) :: st) L h) : zz_Go sh d cc own nL ret post pc (.int y :: .int x :: st) L h := by
  intro p l e R s m args below meth c H locs D cI cR ad A ls X hP hD hS hL
  obtain ⟨hx, hb, hr, hml, hown, hlk, hts, hfr, hlo, hA, hK, hN, hO⟩ := id X
  exact lv_isub hx hb hd (k p l e R s m args below meth c H locs D cI cR ad A ls X hP hD hS hL)
theorem zr_imul {x y : Int32} (hd : decode cc pc = .ok (.imul, 1)) (k : zz_Go sh d cc own nL ret post (pc + 1) (.int (x * y) :: st) L h) : zz_Go sh d cc own nL ret post pc (.int y :: .int x :: st) L h := by
  intro p l e R s m args below meth c H locs D cI cR ad A ls X hP hD hS hL
  obtain ⟨hx, hb, hr, hml, hown, hlk, hts, hfr, hlo, hA, hK, hN, hO⟩ := id X
  exact lv_imul hx hb hd (k p l e R s m args below meth c H locs D cI cR ad A ls X hP hD hS hL)
theorem zr_iand {x y : Int32} (hd : decode cc pc = .ok (.iand, 1)) (k : zz_Go sh d cc own nL ret post (pc + 1) (.int (x &&& y) :: st) L h) : zz_Go sh d cc own nL ret post pc (.int y :: .int x :: st) L h := by
  intro p l e R s m args below meth c H locs D cI cR ad A ls X hP hD hS hL
  obtain ⟨hx, hb, hr, hml, hown, hlk, hts, hfr, hlo, hA, hK, hN, hO⟩ := id X
  exact lv_iand hx hb hd (k p l e R s m args below meth c H locs D cI cR ad A ls X hP hD hS hL)
theorem zr_ior {x y : Int32} (hd : decode cc pc = .ok (.ior, 1)) (k : zz_Go sh d cc own nL ret post (pc + 1) (.int (x ||| y) :: st) L h) : zz_Go sh d cc own nL ret post pc (.int y :: .int x :: st) L h := by
  intro p l e R s m args below meth c H locs D cI cR ad A ls X hP hD hS hL
  obtain ⟨hx, hb, hr, hml, hown, hlk, hts, hfr, hlo, hA, hK, hN, hO⟩ := id X
  exact lv_ior hx hb hd (k p l e R s m args below meth c H locs D cI cR ad A ls X hP hD hS hL)
theorem zr_ixor {x y : Int32} (hd : decode cc pc = .ok (.ixor, 1)) (k : zz_Go sh d cc own nL ret post (pc + 1) (.int (x ^^^ y) :: st) L h) : zz_Go sh d cc own nL ret post pc (.int y :: .int x :: st) L h := by
  intro p l e R s m args below meth c H locs D cI cR ad A ls X hP hD hS hL
  obtain ⟨hx, hb, hr, hml, hown, hlk, hts, hfr, hlo, hA, hK, hN, hO⟩ := id X
  exact lv_ixor hx hb hd (k p l e R s m args below meth c H locs D cI cR ad A ls X hP hD hS hL)
theorem zr_ishl {x y : Int32} (hd : decode cc pc = .ok (.ishl, 1)) (k : zz_Go sh d cc own nL ret post (pc + 1) (.int (x <<< (y &&& 31)) :: st) L h) : zz_Go sh d cc own nL ret post pc (.int y :: .int x :: st) L h := by
  intro p l e R s m args below meth c H locs D cI cR ad A ls X hP hD hS hL
  obtain ⟨hx, hb, hr, hml, hown, hlk, hts, hfr, hlo, hA, hK, hN, hO⟩ := id X
  exact lv_ishl hx hb hd (k p l e R s m args below meth c H locs D cI cR ad A ls X hP hD hS hL)
theorem zr_ishr {x y : Int32} (hd : decode cc pc = .ok (.ishr, 1)) (k : zz_Go sh d cc own nL ret post (pc + 1) (.int (x >>> (y &&& 31)) :: st) L h) : zz_Go sh d cc own nL ret post pc (.int y :: .int x :: st) L h := by
  intro p l e R s m args below meth c H locs D cI cR ad A ls X hP hD hS hL
  obtain ⟨hx, hb, hr, hml, hown, hlk, hts, hfr, hlo, hA, hK, hN, hO⟩ := id X
  exact lv_ishr hx hb hd (k p l e R s m args below meth c H locs D cI cR ad A ls X hP hD hS hL)
theorem zr_iushr {x y : Int32} (hd : decode cc pc = .ok (.iushr, 1)) (k : zz_Go sh d cc own nL ret post (pc + 1) (.int (zz_ushr x y) :: st) L h) : zz_Go sh d cc own nL ret post pc (.int y :: .int x :: st) L h := by
  intro p l e R s m args below meth c H locs D cI cR ad A ls X hP hD hS hL
  obtain ⟨hx, hb, hr, hml, hown, hlk, hts, hfr, hlo, hA, hK, hN, hO⟩ := id X
  exact lv_iushr hx hb hd rfl (k p l e R s m args below meth c H locs D cI cR ad A ls X hP hD hS hL)
theorem zr_idiv {x y : Int32} (hd : decode cc pc = .ok (.idiv, 1)) (hy : ¬ y = 0) (k : zz_Go sh d cc own nL ret post (pc + 1) (.int (x / y) :: st) L h) : zz_Go sh d cc own nL ret post pc (.int y :: .int x :: st) L h := by
  intro p l e R s m args below meth c H locs D cI cR ad A ls X hP hD hS hL
  obtain ⟨hx, hb, hr, hml, hown, hlk, hts, hfr, hlo, hA, hK, hN, hO⟩ := id X
  exact lv_idiv hx hb hd hy (k p l e R s m args below meth c H locs D cI cR ad A ls X hP hD hS hL)
theorem zr_irem {x y : Int32} (hd : decode cc pc = .ok (.irem, 1)) (hy : ¬ y = 0) (k : zz_Go sh d cc own nL ret post (pc + 1) (.int (zz_rem x y) :: st) L h) : zz_Go sh d cc own nL ret post pc (.int y :: .int x :: st) L h := by
  intro p l e R s m args below meth c H locs D cI cR ad A ls X hP hD hS hL
  obtain ⟨hx, hb, hr, hml, hown, hlk, hts, hfr, hlo, hA, hK, hN, hO⟩ := id X
  exact lv_irem hx hb hd hy (k p l e R s m args below meth c H locs D cI cR ad A ls X hP hD hS hL)
theorem zr_ineg {x : Int32} (hd : decode cc pc = .ok (.ineg, 1)) (k : zz_Go sh d cc own nL ret post (pc + 1) (.int (-x) :: st) L h) : zz_Go sh d cc own nL ret post pc (.int x :: st) L h := by
  intro p l e R s m args below meth c H locs D cI cR ad A ls X hP hD hS hL
  obtain ⟨hx, hb, hr, hml, hown, hlk, hts, hfr, hlo, hA, hK, hN, hO⟩ := id X
  exact lv_ineg hx hb hd (k p l e R s m args below meth c H locs D cI cR ad A ls X hP hD hS hL)
theorem zr_i2l {x : Int32} (hd : decode cc pc = .ok (.i2l, 1)) (k : zz_Go sh d cc own nL ret post (pc + 1) (.long x.toInt64 :: st) L h) : zz_Go sh d cc own nL ret post pc (.int x :: st) L h := by
  intro p l e R s m args below meth c H locs D cI cR ad A ls X hP hD hS hL
  obtain ⟨hx, hb, hr, hml, hown, hlk, hts, hfr, hlo, hA, hK, hN, hO⟩ := id X
  exact lv_i2l hx hb hd rfl (k p l e R s m args below meth c H locs D cI cR ad A ls X hP hD hS hL)
theorem zr_i2b {x : Int32} (hd : decode cc pc = .ok (.i2b, 1)) (k : zz_Go sh d cc own nL ret post (pc + 1) (.int (x.toInt8.toInt32) :: st) L h) : zz_Go sh d cc own nL ret post pc (.int x :: st) L h := by
  intro p l e R s m args below meth c H locs D cI cR ad A ls X hP hD hS hL
  obtain ⟨hx, hb, hr, hml, hown, hlk, hts, hfr, hlo, hA, hK, hN, hO⟩ := id X
  exact lv_i2b hx hb hd rfl (k p l e R s m args below meth c H locs D cI cR ad A ls X hP hD hS hL)
theorem zr_i2s {x : Int32} (hd : decode cc pc = .ok (.i2s, 1)) (k : zz_Go sh d cc own nL ret post (pc + 1) (.int (x.toInt16.toInt32) :: st) L h) : zz_Go sh d cc own nL ret post pc (.int x :: st) L h := by
  intro p l e R s m args below meth c H locs D cI cR ad A ls X hP hD hS hL
  obtain ⟨hx, hb, hr, hml, hown, hlk, hts, hfr, hlo, hA, hK, hN, hO⟩ := id X
  exact lv_i2s hx hb hd rfl (k p l e R s m args below meth c H locs D cI cR ad A ls X hP hD hS hL)
theorem zr_i2c {x : Int32} (hd : decode cc pc = .ok (.i2c, 1)) (k : zz_Go sh d cc own nL ret post (pc + 1) (.int ((x.toUInt32 % 65536).toInt32) :: st) L h) : zz_Go sh d cc own nL ret post pc (.int x :: st) L h := by
  intro p l e R s m args below meth c H locs D cI cR ad A ls X hP hD hS hL
  obtain ⟨hx, hb, hr, hml, hown, hlk, hts, hfr, hlo, hA, hK, hN, hO⟩ := id X
  exact lv_i2c hx hb hd rfl (k p l e R s m args below meth c H locs D cI cR ad A ls X hP hD hS hL)
theorem zr_lcmp {x y : Int64} (hd : decode cc pc = .ok (.lcmp, 1)) (k : zz_Go sh d cc own nL ret post (pc + 1) (.int (lg_cmp x y) :: st) L h) : zz_Go sh d cc own nL ret post pc (.long y :: .long x :: st) L h := by
  intro p l e R s m args below meth c H locs D cI cR ad A ls X hP hD hS hL
  obtain ⟨hx, hb, hr, hml, hown, hlk, hts, hfr, hlo, hA, hK, hN, hO⟩ := id X
  exact W.lcmp hx hb hd (k p l e R s m args below meth c H locs D cI cR ad A ls X hP hD hS hL)
theorem zr_dup {v : Value} (hd : decode cc pc = .ok (.dup, 1)) (hv : v.category = 1) (k : zz_Go sh d cc own nL ret post (pc + 1) (v :: v :: st) L h) : zz_Go sh d cc own nL ret post pc (v :: st) L h := by
  intro p l e R s m args below meth c H locs D cI cR ad A ls X hP hD hS hL
  obtain ⟨hx, hb, hr, hml, hown, hlk, hts, hfr, hlo, hA, hK, hN, hO⟩ := id X
  exact lv_dup hx hb hd (by rw [zz_v_cat]; exact hv) (k p l e R s m args below meth c H locs D cI cR ad A ls X hP hD hS hL)
theorem zr_pop {v : Value} (hd : decode cc pc = .ok (.pop, 1)) (hv : v.category = 1) (k : zz_Go sh d cc own nL ret post (pc + 1) st L h) : zz_Go sh d cc own nL ret post pc (v :: st) L h := by
  intro p l e R s m args below meth c H locs D cI cR ad A ls X hP hD hS hL
  obtain ⟨hx, hb, hr, hml, hown, hlk, hts, hfr, hlo, hA, hK, hN, hO⟩ := id X
  exact lv_pop hx hb hd (by rw [zz_v_cat]; exact hv) (k p l e R s m args below meth c H locs D cI cR ad A ls X hP hD hS hL)
theorem zr_dup_x1 {v w : Value} (hd : decode cc pc = .ok (.dup_x1, 1)) (hv : v.category = 1) (hw : w.category = 1) (k : zz_Go sh d cc own nL ret post (pc + 1) (v :: w :: v :: st) L h) : zz_Go sh d cc own nL ret post pc (v :: w :: st) L h := by
  intro p l e R s m args below meth c H locs D cI cR ad A ls X hP hD hS hL
  obtain ⟨hx, hb, hr, hml, hown, hlk, hts, hfr, hlo, hA, hK, hN, hO⟩ := id X
  exact lv_dup_x1 hx hb hd (by rw [zz_v_cat]; exact hv) (by rw [zz_v_cat]; exact hw) (k p l e R s m args below meth c H locs D cI cR ad A ls X hP hD hS hL)
theorem zr_dup_x2 {v w u : Value} (hd : decode cc pc = .ok (.dup_x2, 1)) (hv : v.category = 1) (hw : w.category = 1) (hu : u.category = 1) (k : zz_Go sh d cc own nL ret post (pc + 1) (v :: w :: u :: v :: st) L h) : zz_Go sh d cc own nL ret post pc (v :: w :: u :: st) L h := by
  intro p l e R s m args below meth c H locs D cI cR ad A ls X hP hD hS hL
  obtain ⟨hx, hb, hr, hml, hown, hlk, hts, hfr, hlo, hA, hK, hN, hO⟩ := id X
  exact lv_dup_x2 hx hb hd (by rw [zz_v_cat]; exact hv) (by rw [zz_v_cat]; exact hw) (by rw [zz_v_cat]; exact hu) (k p l e R s m args below meth c H locs D cI cR ad A ls X hP hD hS hL)
theorem zr_dup2 {v w : Value} (hd : decode cc pc = .ok (.dup2, 1)) (hv : v.category = 1) (hw : w.category = 1) (k : zz_Go sh d cc own nL ret post (pc + 1) (v :: w :: v :: w :: st) L h) : zz_Go sh d cc own nL ret post pc (v :: w :: st) L h := by
  intro p l e R s m args below meth c H locs D cI cR ad A ls X hP hD hS hL
  obtain ⟨hx, hb, hr, hml, hown, hlk, hts, hfr, hlo, hA, hK, hN, hO⟩ := id X
  exact lv_dup2_11 hx hb hd (by rw [zz_v_cat]; exact hv) (by rw [zz_v_cat]; exact hw) (k p l e R s m args below meth c H locs D cI cR ad A ls X hP hD hS hL)
theorem zr_if_eq {x : Int32} {off : Int} (tgt : Nat) (hd : decode cc pc = .ok (.ifCond .eq off, 3)) (ht : (pc : Int) + off = (tgt : Int)) (kt : x = 0 → zz_Go sh d cc own nL ret post tgt st L h) (kf : ¬ x = 0 → zz_Go sh d cc own nL ret post (pc + 3) st L h) : zz_Go sh d cc own nL ret post pc (.int x :: st) L h := by
  intro p l e R s m args below meth c H locs D cI cR ad A ls X hP hD hS hL
  obtain ⟨hx, hb, hr, hml, hown, hlk, hts, hfr, hlo, hA, hK, hN, hO⟩ := id X
  exact lv_if_eq hx hb hd ht (fun q => kt q p l e R s m args below meth c H locs D cI cR ad A ls X hP hD hS hL) (fun q => kf q p l e R s m args below meth c H locs D cI cR ad A ls X hP hD hS hL)
theorem zr_icmp_eq {x y : Int32} {off : Int} (tgt : Nat) (hd : decode cc pc = .ok (.if_icmp .eq off, 3)) (ht : (pc : Int) + off = (tgt : Int)) (kt : x = y → zz_Go sh d cc own nL ret post tgt st L h) (kf : ¬ x = y → zz_Go sh d cc own nL ret post (pc + 3) st L h) : zz_Go sh d cc own nL ret post pc (.int y :: .int x :: st) L h := by
  intro p l e R s m args below meth c H locs D cI cR ad A ls X hP hD hS hL
  obtain ⟨hx, hb, hr, hml, hown, hlk, hts, hfr, hlo, hA, hK, hN, hO⟩ := id X
  exact lv_icmp_eq hx hb hd ht (fun q => kt q p l e R s m args below meth c H locs D cI cR ad A ls X hP hD hS hL) (fun q => kf q p l e R s m args below meth c H locs D cI cR ad A ls X hP hD hS hL)
theorem zr_if_ne {x : Int32} {off : Int} (tgt : Nat) (hd : decode cc pc = .ok (.ifCond .ne off, 3)) (ht : (pc : Int) + off = (tgt : Int)) (kt : ¬ x = 0 → zz_Go sh d cc own nL ret post tgt st L h) (kf : x = 0 → zz_Go sh d cc own nL ret post (pc + 3) st L h) : zz_Go sh d cc own nL ret post pc (.int x :: st) L h := by
  intro p l e R s m args below meth c H locs D cI cR ad A ls X hP hD hS hL
  obtain ⟨hx, hb, hr, hml, hown, hlk, hts, hfr, hlo, hA, hK, hN, hO⟩ := id X
  exact lv_if_ne hx hb hd ht (fun q => kt q p l e R s m args below meth c H locs D cI cR ad A ls X hP hD hS hL) (fun q => kf q p l e R s m args below meth c H locs D cI cR ad A ls X hP hD hS hL)
theorem zr_icmp_ne {x y : Int32} {off : Int} (tgt : Nat) (hd : decode cc pc = .ok (.if_icmp .ne off, 3)) (ht : (pc : Int) + off = (tgt : Int)) (kt : ¬ x = y → zz_Go sh d cc own nL ret post tgt st L h) (kf : x = y → zz_Go sh d cc own nL ret post (pc + 3) st L h) : zz_Go sh d cc own nL ret post pc (.int y :: .int x :: st) L h := by
  intro p l e R s m args below meth c H locs D cI cR ad A ls X hP hD hS hL
  obtain ⟨hx, hb, hr, hml, hown, hlk, hts, hfr, hlo, hA, hK, hN, hO⟩ := id X
  exact lv_icmp_ne hx hb hd ht (fun q => kt q p l e R s m args below meth c H locs D cI cR ad A ls X hP hD hS hL) (fun q => kf q p l e R s m args below meth c H locs D cI cR ad A ls X hP hD hS hL)
theorem zr_if_lt {x : Int32} {off : Int} (tgt : Nat) (hd : decode cc pc = .ok (.ifCond .lt off, 3)) (ht : (pc : Int) + off = (tgt : Int)) (kt : x < 0 → zz_Go sh d cc own nL ret post tgt st L h) (kf : ¬ x < 0 → zz_Go sh d cc own nL ret post (pc + 3) st L h) : zz_Go sh d cc own nL ret post pc (.int x :: st) L h := by
  intro p l e R s m args below meth c H locs D cI cR ad A ls X hP hD hS hL
  obtain ⟨hx, hb, hr, hml, hown, hlk, hts, hfr, hlo, hA, hK, hN, hO⟩ := id X
  exact lv_if_lt hx hb hd ht (fun q => kt q p l e R s m args below meth c H locs D cI cR ad A ls X hP hD hS hL) (fun q => kf q p l e R s m args below meth c H locs D cI cR ad A ls X hP hD hS hL)
theorem zr_icmp_lt {x y : Int32} {off : Int} (tgt : Nat) (hd : decode cc pc = .ok (.if_icmp .lt off, 3)) (ht : (pc : Int) + off = (tgt : Int)) (kt : x < y → zz_Go sh d cc own nL ret post tgt st L h) (kf : ¬ x < y → zz_Go sh d cc own nL ret post (pc + 3) st L h) : zz_Go sh d cc own nL ret post pc (.int y :: .int x :: st) L h := by
  intro p l e R s m args below meth c H locs D cI cR ad A ls X hP hD hS hL
  obtain ⟨hx, hb, hr, hml, hown, hlk, hts, hfr, hlo, hA, hK, hN, hO⟩ := id X
  exact lv_icmp_lt hx hb hd ht (fun q => kt q p l e R s m args below meth c H locs D cI cR ad A ls X hP hD hS hL) (fun q => kf q p l e R s m args below meth c H locs D cI cR ad A ls X hP hD hS hL)
theorem zr_if_ge {x : Int32} {off : Int} (tgt : Nat) (hd : decode cc pc = .ok (.ifCond .ge off, 3)) (ht : (pc : Int) + off = (tgt : Int)) (kt : 0 ≤ x → zz_Go sh d cc own nL ret post tgt st L h) (kf : ¬ 0 ≤ x → zz_Go sh d cc own nL ret post (pc + 3) st L h) : zz_Go sh d cc own nL ret post pc (.int x :: st) L h := by
  intro p l e R s m args below meth c H locs D cI cR ad A ls X hP hD hS hL
  obtain ⟨hx, hb, hr, hml, hown, hlk, hts, hfr, hlo, hA, hK, hN, hO⟩ := id X
  exact lv_if_ge hx hb hd ht (fun q => kt q p l e R s m args below meth c H locs D cI cR ad A ls X hP hD hS hL) (fun q => kf q p l e R s m args below meth c H locs D cI cR ad A ls X hP hD hS hL)
theorem zr_icmp_ge {x y : Int32} {off : Int} (tgt : Nat) (hd : decode cc pc = .ok (.if_icmp .ge off, 3)) (ht : (pc : Int) + off = (tgt : Int)) (kt : y ≤ x → zz_Go sh d cc own nL ret post tgt st L h) (kf : ¬ y ≤ x → zz_Go sh d cc own nL ret post (pc + 3) st L h) : zz_Go sh d cc own nL ret post pc (.int y :: .int x :: st) L h := by
  intro p l e R s m args below meth c H locs D cI cR ad A ls X hP hD hS hL
  obtain ⟨hx, hb, hr, hml, hown, hlk, hts, hfr, hlo, hA, hK, hN, hO⟩ := id X
  exact lv_icmp_ge hx hb hd ht (fun q => kt q p l e R s m args below meth c H locs D cI cR ad A ls X hP hD hS hL) (fun q => kf q p l e R s m args below meth c H locs D cI cR ad A ls X hP hD hS hL)
theorem zr_if_gt {x : Int32} {off : Int} (tgt : Nat) (hd : decode cc pc = .ok (.ifCond .gt off, 3)) (ht : (pc : Int) + off = (tgt : Int)) (kt : 0 < x → zz_Go sh d cc own nL ret post tgt st L h) (kf : ¬ 0 < x → zz_Go sh d cc own nL ret post (pc + 3) st L h) : zz_Go sh d cc own nL ret post pc (.int x :: st) L h := by
  intro p l e R s m args below meth c H locs D cI cR ad A ls X hP hD hS hL
  obtain ⟨hx, hb, hr, hml, hown, hlk, hts, hfr, hlo, hA, hK, hN, hO⟩ := id X
  exact lv_if_gt hx hb hd ht (fun q => kt q p l e R s m args below meth c H locs D cI cR ad A ls X hP hD hS hL) (fun q => kf q p l e R s m args below meth c H locs D cI cR ad A ls X hP hD hS hL)
theorem zr_icmp_gt {x y : Int32} {off : Int} (tgt : Nat) (hd : decode cc pc = .ok (.if_icmp .gt off, 3)) (ht : (pc : Int) + off = (tgt : Int)) (kt : y < x → zz_Go sh d cc own nL ret post tgt st L h) (kf : ¬ y < x → zz_Go sh d cc own nL ret post (pc + 3) st L h) : zz_Go sh d cc own nL ret post pc (.int y :: .int x :: st) L h := by
  intro p l e R s m args below meth c H locs D cI cR ad A ls X hP hD hS hL
  obtain ⟨hx, hb, hr, hml, hown, hlk, hts, hfr, hlo, hA, hK, hN, hO⟩ := id X
  exact lv_icmp_gt hx hb hd ht (fun q => kt q p l e R s m args below meth c H locs D cI cR ad A ls X hP hD hS hL) (fun q => kf q p l e R s m args below meth c H locs D cI cR ad A ls X hP hD hS hL)
theorem zr_if_le {x : Int32} {off : Int} (tgt : Nat) (hd : decode cc pc = .ok (.ifCond .le off, 3)) (ht : (pc : Int) + off = (tgt : Int)) (kt : x ≤ 0 → zz_Go sh d cc own nL ret post tgt st L h) (kf : ¬ x ≤ 0 → zz_Go sh d cc own nL ret post (pc + 3) st L h) : zz_Go sh d cc own nL ret post pc (.int x :: st) L h := by
  intro p l e R s m args below meth c H locs D cI cR ad A ls X hP hD hS hL
  obtain ⟨hx, hb, hr, hml, hown, hlk, hts, hfr, hlo, hA, hK, hN, hO⟩ := id X
  exact lv_if_le hx hb hd ht (fun q => kt q p l e R s m args below meth c H locs D cI cR ad A ls X hP hD hS hL) (fun q => kf q p l e R s m args below meth c H locs D cI cR ad A ls X hP hD hS hL)
theorem zr_icmp_le {x y : Int32} {off : Int} (tgt : Nat) (hd : decode cc pc = .ok (.if_icmp .le off, 3)) (ht : (pc : Int) + off = (tgt : Int)) (kt : x ≤ y → zz_Go sh d cc own nL ret post tgt st L h) (kf : ¬ x ≤ y → zz_Go sh d cc own nL ret post (pc + 3) st L h) : zz_Go sh d cc own nL ret post pc (.int y :: .int x :: st) L h := by
  intro p l e R s m args below meth c H locs D cI cR ad A ls X hP hD hS hL
  obtain ⟨hx, hb, hr, hml, hown, hlk, hts, hfr, hlo, hA, hK, hN, hO⟩ := id X
  exact lv_icmp_le hx hb hd ht (fun q => kt q p l e R s m args below meth c H locs D cI cR ad A ls X hP hD hS hL) (fun q => kf q p l e R s m args below meth c H locs D cI cR ad A ls X hP hD hS hL)
theorem zr_goto {off : Int} (tgt : Nat) (hd : decode cc pc = .ok (.goto off, 3)) (ht : (pc : Int) + off = (tgt : Int)) (k : zz_Go sh d cc own nL ret post tgt st L h) : zz_Go sh d cc own nL ret post pc st L h := by
  intro p l e R s m args below meth c H locs D cI cR ad A ls X hP hD hS hL
  obtain ⟨hx, hb, hr, hml, hown, hlk, hts, hfr, hlo, hA, hK, hN, hO⟩ := id X
  exact lv_goto hx hb hd ht (k p l e R s m args below meth c H locs D cI cR ad A ls X hP hD hS hL)
theorem zr_tabOut {dflt lo hi : Int} {offs : Array Int} {len : Nat} {x : Int32} (tgt : Nat) (hd : decode cc pc = .ok (.tableswitch dflt lo hi offs, len)) (hq : x.toInt < lo ∨ hi < x.toInt) (ht : (pc : Int) + dflt = (tgt : Int)) (k : zz_Go sh d cc own nL ret post tgt st L h) : zz_Go sh d cc own nL ret post pc (.int x :: st) L h := by
  intro p l e R s m args below meth c H locs D cI cR ad A ls X hP hD hS hL
  obtain ⟨hx, hb, hr, hml, hown, hlk, hts, hfr, hlo, hA, hK, hN, hO⟩ := id X
  exact lv_tableOut hx hb hd hq ht (k p l e R s m args below meth c H locs D cI cR ad A ls X hP hD hS hL)
theorem zr_tabIn {dflt lo hi off : Int} {offs : Array Int} {len : Nat} {x : Int32} (tgt : Nat) (hd : decode cc pc = .ok (.tableswitch dflt lo hi offs, len)) (h1 : ¬ x.toInt < lo) (h2 : ¬ hi < x.toInt) (ho : offs[(x.toInt - lo).toNat]? = some off) (ht : (pc : Int) + off = (tgt : Int)) (k : zz_Go sh d cc own nL ret post tgt st L h) : zz_Go sh d cc own nL ret post pc (.int x :: st) L h := by
  intro p l e R s m args below meth c H locs D cI cR ad A ls X hP hD hS hL
  obtain ⟨hx, hb, hr, hml, hown, hlk, hts, hfr, hlo, hA, hK, hN, hO⟩ := id X
  exact lv_tableIn hx hb hd h1 h2 ho ht (k p l e R s m args below meth c H locs D cI cR ad A ls X hP hD hS hL)
theorem zr_ret {ty : FieldType} {v : Int32} (hret : ret = some ty) (hn : narrow ty (.int v) = .int v) (hd : decode cc pc = .ok (.ireturn, 1)) (hp : post v h) : zz_Go sh d cc own nL ret post pc [.int v] L h := by
  intro p l e R s m args below meth c H locs D cI cR ad A ls X hP hD hS hL
  obtain ⟨hx, hb, hr, hml, hown, hlk, hts, hfr, hlo, hA, hK, hN, hO⟩ := id X
  subst hret
  exact W.zret (ty := ty) (v := v) hx hb hr hn (fun t ht hW => ⟨⟨v, h, rfl, hp, by rw [zz_B, ht]; exact ⟨hP, hD⟩⟩, hS.F ht⟩) hS.2.2 hd hlk
theorem zr_vret (hret : ret = none) (hd : decode cc pc = .ok (.return_, 1)) (hp : post 0 h) : zz_Go sh d cc own nL ret post pc [] L h := by
  intro p l e R s m args below meth c H locs D cI cR ad A ls X hP hD hS hL
  obtain ⟨hx, hb, hr, hml, hown, hlk, hts, hfr, hlo, hA, hK, hN, hO⟩ := id X
  subst hret
  exact W.vret hx hb hr (fun t ht hW => ⟨⟨h, rfl, hp, by rw [zz_B, ht]; exact ⟨hP, hD⟩⟩, hS.F ht⟩) hS.2.2 hd hlk
theorem zr_getI {ci N : Nat} {C : String} {T : u_T} {ty : Nat → FieldType} (hc : zz_cls ci C T N ty) {k : Nat} {fs : List (Option Nat)} (hsh : sh[k]? = some (.inr (.inr (ci, fs)))) (j : Nat) (hj : j < N) (hf : fs[j]? = some none) {i : Nat} (hw : Cond.fieldLink own i (T j).1 (T j).2.1 (T j).2.2.1 ∈ zz_TB) (hd : decode cc pc = .ok (.getfield i, 3)) (kk : zz_Go sh d cc own nL ret post (pc + 3) (.int (h k j) :: st) L h) : zz_Go sh d cc own nL ret post pc (.ref k :: st) L h := by
  intro p l e R s m args below meth c H locs D cI cR ad A ls X hP hD hS hL
  obtain ⟨hx, hb, hr, hml, hown, hlk, hts, hfr, hlo, hA, hK, hN, hO⟩ := id X
  exact va_get (D := D) (ci := ci) (v := .int (h k j)) (C := C) (T := T) (N := N) hx hb hts hc.2.1 hown hK hP k (zz_ws_at hsh) hc.1 j hj (hts _ hw) (fun _ h9 => h9) (by rw [List.getElem?_mapIdx, hf]; rfl) hd (kk p l e R s m args below meth c H locs D cI cR ad A ls X hP hD hS hL)
theorem zr_getR {ci N : Nat} {C : String} {T : u_T} {ty : Nat → FieldType} (hc : zz_cls ci C T N ty) {k : Nat} {fs : List (Option Nat)} (hsh : sh[k]? = some (.inr (.inr (ci, fs)))) (j : Nat) (hj : j < N) {k' : Nat} (hf : fs[j]? = some (some k')) {i : Nat} (hw : Cond.fieldLink own i (T j).1 (T j).2.1 (T j).2.2.1 ∈ zz_TB) (hd : decode cc pc = .ok (.getfield i, 3)) (kk : zz_Go sh d cc own nL ret post (pc + 3) (.ref k' :: st) L h) : zz_Go sh d cc own nL ret post pc (.ref k :: st) L h := by
  intro p l e R s m args below meth c H locs D cI cR ad A ls X hP hD hS hL
  obtain ⟨hx, hb, hr, hml, hown, hlk, hts, hfr, hlo, hA, hK, hN, hO⟩ := id X
  exact va_get (D := D) (ci := ci) (v := .ref (ad k')) (C := C) (T := T) (N := N) hx hb hts hc.2.1 hown hK hP k (zz_ws_at hsh) hc.1 j hj (hts _ hw) (fun _ h9 => h9) (by rw [List.getElem?_mapIdx, hf]; rfl) hd (kk p l e R s m args below meth c H locs D cI cR ad A ls X hP hD hS hL)
theorem zr_putI {ci N : Nat} {C : String} {T : u_T} {ty : Nat → FieldType} (hc : zz_cls ci C T N ty) {k : Nat} {fs : List (Option Nat)} (hsh : sh[k]? = some (.inr (.inr (ci, fs)))) (j : Nat) (hj : j < N) (hf : fs[j]? = some none) (hfin : (T j).2.2.2 = false) {t : FieldType} {x : Int32} (hty : ty j = t) (hn : narrow t (.int x) = .int x) (hfit : fits t (.int x) = true) {i : Nat} (hw : Cond.fieldLink own i (T j).1 (T j).2.1 (T j).2.2.1 ∈ zz_TB) (hd : decode cc pc = .ok (.putfield i, 3)) {P : zz_H → Prop} (hw0 : zz_sto h k (upd (h k) j x) P) (kk : ∀ h' : zz_H, P h' → zz_Go sh d cc own nL ret post (pc + 3) st L h') : zz_Go sh d cc own nL ret post pc (.int x :: .ref k :: st) L h := by
  intro p l e R s m args below meth c H locs D cI cR ad A ls X hP hD hS hL
  obtain ⟨hx, hb, hr, hml, hown, hlk, hts, hfr, hlo, hA, hK, hN, hO⟩ := id X
  refine va_put (D := D) (ci := ci) (v := .int x) (ty := t) (C := C) (T := T) (N := N) hx hb hts hc.2.1 ty hc.2.2.1 hc.2.2.2 hown hK hP hD hS k (zz_ws_at hsh) hc.1 j hj (hts _ hw) (fun _ h9 => h9) hfin (by rw [hc.2.2.1 j hj, hty]) hn hfit (by rw [List.length_mapIdx]; exact (List.getElem?_eq_some_iff.mp hf).1) hd (fun H1 locs1 hP1 hD1 hS1 => ?_)
  rw [zz_ws_obj x hsh hf] at hP1 hD1
  exact kk _ hw0 p l e R s m args below meth c H1 locs1 D cI cR ad A ls X hP1 hD1 hS1 hL
theorem zr_iald {k n : Nat} (hsh : sh[k]? = some (.inl n)) {i : Int32} (hi : vp_in i n) {j : Nat} (hj : i.toNatClampNeg = j) (hd : decode cc pc = .ok (.iaload, 1)) (kk : zz_Go sh d cc own nL ret post (pc + 1) (.int (h k j) :: st) L h) : zz_Go sh d cc own nL ret post pc (.int i :: .ref k :: st) L h := by
  intro p l e R s m args below meth c H locs D cI cR ad A ls X hP hD hS hL
  obtain ⟨hx, hb, hr, hml, hown, hlk, hts, hfr, hlo, hA, hK, hN, hO⟩ := id X
  subst hj
  exact va_iald hx hb hK hP k 0 (zz_ws_at hsh) rfl hi hd (kk p l e R s m args below meth c H locs D cI cR ad A ls X hP hD hS hL)
theorem zr_iast {k n : Nat} (hsh : sh[k]? = some (.inl n)) {i x : Int32} (hi : vp_in i n) {j : Nat} (hj : i.toNatClampNeg = j) (hd : decode cc pc = .ok (.iastore, 1)) {P : zz_H → Prop} (hw0 : zz_sto h k (upd (h k) j x) P) (kk : ∀ h' : zz_H, P h' → zz_Go sh d cc own nL ret post (pc + 1) st L h') : zz_Go sh d cc own nL ret post pc (.int x :: .int i :: .ref k :: st) L h := by
  intro p l e R s m args below meth c H locs D cI cR ad A ls X hP hD hS hL
  obtain ⟨hx, hb, hr, hml, hown, hlk, hts, hfr, hlo, hA, hK, hN, hO⟩ := id X
  subst hj
  refine va_iast hx hb hK hP hD hS k 0 (zz_ws_at hsh) rfl hi hd (fun H1 locs1 hP1 hD1 hS1 => ?_)
  rw [zz_ws_arr _ hsh] at hP1 hD1
  exact kk _ hw0 p l e R s m args below meth c H1 locs1 D cI cR ad A ls X hP1 hD1 hS1 hL
theorem zr_aald {k k' : Nat} {q : List Nat} (hsh : sh[k]? = some (.inr (.inl q))) {i : Int32} (hi : vp_in i q.length) (hq : q[i.toNatClampNeg]? = some k') (hd : decode cc pc = .ok (.aaload, 1)) (kk : zz_Go sh d cc own nL ret post (pc + 1) (.ref k' :: st) L h) : zz_Go sh d cc own nL ret post pc (.int i :: .ref k :: st) L h := by
  intro p l e R s m args below meth c H locs D cI cR ad A ls X hP hD hS hL
  obtain ⟨hx, hb, hr, hml, hown, hlk, hts, hfr, hlo, hA, hK, hN, hO⟩ := id X
  refine va_aldq hx hb hK hP k 1 (zz_ws_at hsh) rfl hi hd ?_
  rw [show va_rf ((q[i.toNatClampNeg]?).map ad) = .ref (ad k') by rw [hq]; rfl]
  exact kk p l e R s m args below meth c H locs D cI cR ad A ls X hP hD hS hL
theorem zr_alen {k n : Nat} (hsh : sh[k]? = some (.inl n)) (hd : decode cc pc = .ok (.arraylength, 1)) (kk : zz_Go sh d cc own nL ret post (pc + 1) (.int (nI n) :: st) L h) : zz_Go sh d cc own nL ret post pc (.ref k :: st) L h := by
  intro p l e R s m args below meth c H locs D cI cR ad A ls X hP hD hS hL
  obtain ⟨hx, hb, hr, hml, hown, hlk, hts, hfr, hlo, hA, hK, hN, hO⟩ := id X
  exact va_alen hx hb hK hP k 0 (zz_ws_at hsh) rfl rfl hd (kk p l e R s m args below meth c H locs D cI cR ad A ls X hP hD hS hL)
theorem zr_over {i : Nat} (hw : Cond.fieldLink own i RX4 "OVER" "[I" ∈ zz_TB) (hd : decode cc pc = .ok (.getstatic i, 3)) (kk : zz_Go sh d cc own nL ret post (pc + 3) (.ref 2000 :: st) L h) : zz_Go sh d cc own nL ret post pc st L h := by
  intro p l e R s m args below meth c H locs D cI cR ad A ls X hP hD hS hL
  obtain ⟨hx, hb, hr, hml, hown, hlk, hts, hfr, hlo, hA, hK, hN, hO⟩ := id X
  exact va_gets hx hb hO.1 hS hown (hts _ hw) (fun _ h9 => h9) hd (kk p l e R s m args below meth c H locs D cI cR ad A ls X hP hD hS hL)
theorem zr_ovld {i : Int32} (hi : vp_in i 7) (hd : decode cc pc = .ok (.iaload, 1)) (kk : zz_Go sh d cc own nL ret post (pc + 1) (.int (zz_over.getD i.toNatClampNeg 0) :: st) L h) : zz_Go sh d cc own nL ret post pc (.int i :: .ref 2000 :: st) L h := by
  intro p l e R s m args below meth c H locs D cI cR ad A ls X hP hD hS hL
  obtain ⟨hx, hb, hr, hml, hown, hlk, hts, hfr, hlo, hA, hK, hN, hO⟩ := id X
  exact va_ti hx hb hO.2.1 hS hi rfl hd (kk p l e R s m args below meth c H locs D cI cR ad A ls X hP hD hS hL)
theorem zr_ldcS (j : Nat) (hj : j < 12) {i : Nat} (hown' : own = RX3) (hi : zz_ent.getD j 0 = i) (hd : decode cc pc = .ok (.ldc i, 2)) (kk : zz_Go sh d cc own nL ret post (pc + 2) (.ref (1000 + j) :: st) L h) : zz_Go sh d cc own nL ret post pc st L h := by
  intro p l e R s m args below meth c H locs D cI cR ad A ls X hP hD hS hL
  obtain ⟨hx, hb, hr, hml, hown, hlk, hts, hfr, hlo, hA, hK, hN, hO⟩ := id X
  subst hown'
  subst hi
  exact va_ldcS hx hb hown (hO.2.2.2.1 j hj) hd (kk p l e R s m args below meth c H locs D cI cR ad A ls X hP hD hS hL)
theorem zr_max {x y : Int32} {i : Nat} (hl : Cond.methodLink own i Lib.Math.max.name ∈ zz_TB) (h1 : Cond.static Lib.Math.max.name ∈ zz_TB) (h2 : Cond.initialized "java/lang/Math" ∈ zz_TB) (h3 : Cond.code Lib.Math.max.name Lib.Math.max.code 2 (some .int) ∈ zz_TB) (hd1 : 1 ≤ d) (hst : (st.map fun v => v.category).sum ≤ 8) (hd : decode cc pc = .ok (.invokestatic i, 3)) (kk : zz_Go sh d cc own nL ret post (pc + 3) (.int (zz_max x y) :: st) L h) : zz_Go sh d cc own nL ret post pc (.int y :: .int x :: st) L h := by
  intro p l e R s m args below meth c H locs D cI cR ad A ls X hP hD hS hL
  obtain ⟨hx, hb, hr, hml, hown, hlk, hts, hfr, hlo, hA, hK, hN, hO⟩ := id X
  exact va_mmax hx hb (by rw [hml, hL.1]) hown (hts _ hl) (hts _ h1) (hts _ h2) (hts _ h3) (Nat.le_trans hd1 hfr) (by rw [zz_catS]; omega) (Nat.zero_le _) (Nat.zero_le _) hd (kk p l e R s m args below meth c H locs D cI cR ad A ls X hP hD hS hL)
theorem zr_min {x y : Int32} {i : Nat} (hl : Cond.methodLink own i Lib.Math.min.name ∈ zz_TB) (h1 : Cond.static Lib.Math.min.name ∈ zz_TB) (h2 : Cond.initialized "java/lang/Math" ∈ zz_TB) (h3 : Cond.code Lib.Math.min.name Lib.Math.min.code 2 (some .int) ∈ zz_TB) (hd1 : 1 ≤ d) (hst : (st.map fun v => v.category).sum ≤ 8) (hd : decode cc pc = .ok (.invokestatic i, 3)) (kk : zz_Go sh d cc own nL ret post (pc + 3) (.int (zz_min x y) :: st) L h) : zz_Go sh d cc own nL ret post pc (.int y :: .int x :: st) L h := by
  intro p l e R s m args below meth c H locs D cI cR ad A ls X hP hD hS hL
  obtain ⟨hx, hb, hr, hml, hown, hlk, hts, hfr, hlo, hA, hK, hN, hO⟩ := id X
  exact va_mmin hx hb (by rw [hml, hL.1]) hown (hts _ hl) (hts _ h1) (hts _ h2) (hts _ h3) (Nat.le_trans hd1 hfr) (by rw [zz_catS]; omega) (Nat.zero_le _) (Nat.zero_le _) hd (kk p l e R s m args below meth c H locs D cI cR ad A ls X hP hD hS hL)
theorem zr_abs {x : Int32} {i : Nat} (hl : Cond.methodLink own i Lib.Math.abs.name ∈ zz_TB) (h1 : Cond.static Lib.Math.abs.name ∈ zz_TB) (h2 : Cond.initialized "java/lang/Math" ∈ zz_TB) (h3 : Cond.code Lib.Math.abs.name Lib.Math.abs.code 1 (some .int) ∈ zz_TB) (hd1 : 1 ≤ d) (hst : (st.map fun v => v.category).sum ≤ 8) (hd : decode cc pc = .ok (.invokestatic i, 3)) (kk : zz_Go sh d cc own nL ret post (pc + 3) (.int (zz_abs x) :: st) L h) : zz_Go sh d cc own nL ret post pc (.int x :: st) L h := by
  intro p l e R s m args below meth c H locs D cI cR ad A ls X hP hD hS hL
  obtain ⟨hx, hb, hr, hml, hown, hlk, hts, hfr, hlo, hA, hK, hN, hO⟩ := id X
  exact va_mabs hx hb (by rw [hml, hL.1]) hown (hts _ hl) (hts _ h1) (hts _ h2) (hts _ h3) (Nat.le_trans hd1 hfr) (by rw [zz_catS]; omega) (Nat.zero_le _) (Nat.zero_le _) hd (kk p l e R s m args below meth c H locs D cI cR ad A ls X hP hD hS hL)
theorem zr_acopy {k k' n n' : Nat} (hk : sh[k]? = some (.inl n)) (hk' : sh[k']? = some (.inl n')) {sp dp m0 : Int32} (q1 : ¬ sp < 0) (q2 : ¬ dp < 0) (q3 : ¬ m0 < 0) (q4 : sp.toNatClampNeg + m0.toNatClampNeg ≤ n) (q5 : dp.toNatClampNeg + m0.toNatClampNeg ≤ n') {i : Nat} (hl : Cond.methodLink own i arraycopyName ∈ zz_TB) (h0 : Cond.native arraycopyName ∈ zz_TB) (h1 : Cond.static arraycopyName ∈ zz_TB) (h2 : Cond.initialized "java/lang/System" ∈ zz_TB) (hd1 : 1 ≤ d) (hst : (st.map fun v => v.category).sum ≤ 8) (hd : decode cc pc = .ok (.invokestatic i, 3)) {P : zz_H → Prop} (hw0 : zz_sto h k' (va_cpy (h k) (h k') sp.toNatClampNeg dp.toNatClampNeg m0.toNatClampNeg) P) (kk : ∀ h' : zz_H, P h' → zz_Go sh d cc own nL ret post (pc + 3) st L h') : zz_Go sh d cc own nL ret post pc (.int m0 :: .int dp :: .ref k' :: .int sp :: .ref k :: st) L h := by
  intro p l e R s m args below meth c H locs D cI cR ad A ls X hP hD hS hL
  obtain ⟨hx, hb, hr, hml, hown, hlk, hts, hfr, hlo, hA, hK, hN, hO⟩ := id X
  refine va_copyi hx hb (by rw [hml, hL.1]) hown (hts _ hl) (hts _ h0) (hts _ h1) (hts _ h2) hK hP hD hS k k' 0 0 (zz_ws_at hk) (zz_ws_at hk') rfl rfl rfl q1 q2 q3 q4 q5 (fun _ _ => rfl) (Nat.le_trans hd1 hfr) (by rw [zz_catS]; show _ + (5 + 2 + 11) ≤ _; omega) hd (fun H1 locs1 hP1 hD1 hS1 => ?_)
  rw [zz_ws_arr _ hk'] at hP1 hD1
  exact kk _ hw0 p l e R s m args below meth c H1 locs1 D cI cR ad A ls X hP1 hD1 hS1 hL
theorem zr_callVi {ty : FieldType} {d' nL' n : Nat} {y : MethodName} {cc' : ByteArray} {P : Int32 → zz_H → Prop} {ci N : Nat} {C : String} {T : u_T} {ty0 : Nat → FieldType} (hc : zz_cls ci C T N ty0) {k : Nat} {fs : List (Option Nat)} (hsh : sh[k]? = some (.inr (.inr (ci, fs)))) {As : List Value} (hct : zz_Ct sh d' y cc' nL' (some ty) (.ref k :: As) h P) (hy : zz_yV y cc' nL' (some ty) C n) {i : Nat} (hl : Cond.methodLink own i y ∈ zz_TB) (hd' : d' + 1 ≤ d) (hn : As.length = n) {st' : List Value} (hstk : st' = As.reverse ++ .ref k :: st) (hst : (st.map fun v => v.category).sum ≤ 8) (hd : decode cc pc = .ok (.invokevirtual i, 3)) (kk : ∀ (r : Int32) (h' : zz_H), P r h' → zz_Go sh d cc own nL ret post (pc + 3) (.int r :: st) L h') : zz_Go sh d cc own nL ret post pc st' L h := by
  intro p l e R s m args below meth c H locs D cI cR ad A ls X hP hD hS hL
  obtain ⟨hx, hb, hr, hml, hown, hlk, hts, hfr, hlo, hA, hK, hN, hO⟩ := id X
  have hF : ∀ q, va_A (zz_ws ad cI cR sh h) H.size q → A q := fun q hq => hq.elim (fun ⟨k9, e9, h9⟩ => hD.2 k9 (q, e9) h9) (fun h9 => hA q (Nat.le_trans hS.1 h9))
  refine va_calli (va_runV (As := As.map (zz_v ad)) (rest := st.map (zz_v ad)) ⟨hx, hb, hml, hown, hts⟩ (hct l D cI cR ad H.size) (cwV n hts (zz_goodIn _ (zz_memV hy.1 hl hy.2.1 hy.2.2.1 hy.2.2.2.1)) rfl rfl rfl hy.2.2.2.2.2 ⟨Nat.le_trans hd' hfr, zz_loc hd' hy.2.2.2.2.1 hlo⟩) ⟨fun a U g mk q => by obtain ⟨q0, q1, qP, qK, qD, qN, qO⟩ := q; exact ⟨q0, q1, qP, va_K.moved (u := U) (U := U.calling g mk a) (Vm.Alike.refl U.vm) qK, qD, qN.same rfl, qO.to (Vm.Alike.refl U.vm) (fun _ _ _ _ hz => hz.same rfl) (fun _ _ _ => rfl) (fun _ hz => hz)⟩, va_recv hK hP hc.1 (zz_ws_at hsh), fun U hU hW => ⟨rfl, by rw [hU], by rw [hU]; exact hP, va_K.moved hW.alike hK, hD.weaken (fun _ _ _ _ => trivial), hN.warm hW, hO.to hW.alike (fun _ _ _ _ hz => hz.warm hW) (fun a h1 h2 => by rw [hU]; exact hS.2.1 a h1 h2) hF⟩⟩ rfl (by rw [List.length_map]; exact hn) hL.1 (by rw [← List.map_reverse]; show (st'.map (zz_v ad)) = _; rw [hstk, List.map_append]; rfl) (lv_room (by rw [zz_catS]; exact hst)) hd ⟨Nat.zero_le _, Nat.zero_le _⟩) hS (fun q _ hq => hF q hq) hF (fun r u t H1 locs1 ht hvm hw hB hz hk hS1 => ?_)
  obtain ⟨hP1, hD1⟩ := hB
  rw [ht] at hP1
  exact kk r u hw p l e R s m args below meth c H1 locs1 D cI cR ad A ls X hP1 (hD1.weaken (fun _ q _ hq => hF q.1 hq)) hS1 hL
theorem zr_callVv {d' nL' n : Nat} {y : MethodName} {cc' : ByteArray} {P : Int32 → zz_H → Prop} {ci N : Nat} {C : String} {T : u_T} {ty0 : Nat → FieldType} (hc : zz_cls ci C T N ty0) {k : Nat} {fs : List (Option Nat)} (hsh : sh[k]? = some (.inr (.inr (ci, fs)))) {As : List Value} (hct : zz_Ct sh d' y cc' nL' none (.ref k :: As) h P) (hy : zz_yV y cc' nL' none C n) {i : Nat} (hl : Cond.methodLink own i y ∈ zz_TB) (hd' : d' + 1 ≤ d) (hn : As.length = n) {st' : List Value} (hstk : st' = As.reverse ++ .ref k :: st) (hst : (st.map fun v => v.category).sum ≤ 8) (hd : decode cc pc = .ok (.invokevirtual i, 3)) (kk : ∀ (h' : zz_H), P 0 h' → zz_Go sh d cc own nL ret post (pc + 3) st L h') : zz_Go sh d cc own nL ret post pc st' L h := by
  intro p l e R s m args below meth c H locs D cI cR ad A ls X hP hD hS hL
  obtain ⟨hx, hb, hr, hml, hown, hlk, hts, hfr, hlo, hA, hK, hN, hO⟩ := id X
  have hF : ∀ q, va_A (zz_ws ad cI cR sh h) H.size q → A q := fun q hq => hq.elim (fun ⟨k9, e9, h9⟩ => hD.2 k9 (q, e9) h9) (fun h9 => hA q (Nat.le_trans hS.1 h9))
  refine va_callv (va_runV (As := As.map (zz_v ad)) (rest := st.map (zz_v ad)) ⟨hx, hb, hml, hown, hts⟩ (hct l D cI cR ad H.size) (cwV n hts (zz_goodIn _ (zz_memV hy.1 hl hy.2.1 hy.2.2.1 hy.2.2.2.1)) rfl rfl rfl hy.2.2.2.2.2 ⟨Nat.le_trans hd' hfr, zz_loc hd' hy.2.2.2.2.1 hlo⟩) ⟨fun a U g mk q => by obtain ⟨q0, q1, qP, qK, qD, qN, qO⟩ := q; exact ⟨q0, q1, qP, va_K.moved (u := U) (U := U.calling g mk a) (Vm.Alike.refl U.vm) qK, qD, qN.same rfl, qO.to (Vm.Alike.refl U.vm) (fun _ _ _ _ hz => hz.same rfl) (fun _ _ _ => rfl) (fun _ hz => hz)⟩, va_recv hK hP hc.1 (zz_ws_at hsh), fun U hU hW => ⟨rfl, by rw [hU], by rw [hU]; exact hP, va_K.moved hW.alike hK, hD.weaken (fun _ _ _ _ => trivial), hN.warm hW, hO.to hW.alike (fun _ _ _ _ hz => hz.warm hW) (fun a h1 h2 => by rw [hU]; exact hS.2.1 a h1 h2) hF⟩⟩ rfl (by rw [List.length_map]; exact hn) hL.1 (by rw [← List.map_reverse]; show (st'.map (zz_v ad)) = _; rw [hstk, List.map_append]; rfl) (lv_room (by rw [zz_catS]; exact hst)) hd ⟨Nat.zero_le _, Nat.zero_le _⟩) hS (fun q _ hq => hF q hq) hF (fun u t H1 locs1 ht hvm hw hB hz hk hS1 => ?_)
  obtain ⟨hP1, hD1⟩ := hB
  rw [ht] at hP1
  exact kk u hw p l e R s m args below meth c H1 locs1 D cI cR ad A ls X hP1 (hD1.weaken (fun _ q _ hq => hF q.1 hq)) hS1 hL
theorem zr_callSi {ty : FieldType} {d' nL' n : Nat} {y : MethodName} {cc' : ByteArray} {P : Int32 → zz_H → Prop} {As : List Value} (hct : zz_Ct sh d' y cc' nL' (some ty) As h P) (hy : zz_yS y cc' nL' (some ty) n) {i : Nat} (hl : Cond.methodLink own i y ∈ zz_TB) (hd' : d' + 1 ≤ d) (hn : As.length = n) {st' : List Value} (hstk : st' = As.reverse ++ st) (hst : (st.map fun v => v.category).sum ≤ 8) (hd : decode cc pc = .ok (.invokestatic i, 3)) (kk : ∀ (r : Int32) (h' : zz_H), P r h' → zz_Go sh d cc own nL ret post (pc + 3) (.int r :: st) L h') : zz_Go sh d cc own nL ret post pc st' L h := by
  intro p l e R s m args below meth c H locs D cI cR ad A ls X hP hD hS hL
  obtain ⟨hx, hb, hr, hml, hown, hlk, hts, hfr, hlo, hA, hK, hN, hO⟩ := id X
  have hF : ∀ q, va_A (zz_ws ad cI cR sh h) H.size q → A q := fun q hq => hq.elim (fun ⟨k9, e9, h9⟩ => hD.2 k9 (q, e9) h9) (fun h9 => hA q (Nat.le_trans hS.1 h9))
  refine va_calli (va_runS (As := As.map (zz_v ad)) (rest := st.map (zz_v ad)) ⟨hx, hb, hml, hown, hts⟩ (hct l D cI cR ad H.size) (va_cwS n hts (zz_goodIn _ (zz_memS hy.1 hl hy.2.1 hy.2.2.1)) rfl rfl rfl hy.2.2.2.2 ⟨Nat.le_trans hd' hfr, zz_loc hd' hy.2.2.2.1 hlo⟩) ⟨fun a U g mk q => by obtain ⟨q0, q1, qP, qK, qD, qN, qO⟩ := q; exact ⟨q0, q1, qP, va_K.moved (u := U) (U := U.calling g mk a) (Vm.Alike.refl U.vm) qK, qD, qN.same rfl, qO.to (Vm.Alike.refl U.vm) (fun _ _ _ _ hz => hz.same rfl) (fun _ _ _ => rfl) (fun _ hz => hz)⟩, fun U hU hW => ⟨rfl, by rw [hU], by rw [hU]; exact hP, va_K.moved hW.alike hK, hD.weaken (fun _ _ _ _ => trivial), hN.warm hW, hO.to hW.alike (fun _ _ _ _ hz => hz.warm hW) (fun a h1 h2 => by rw [hU]; exact hS.2.1 a h1 h2) hF⟩⟩ rfl (by rw [List.length_map]; exact hn) hL.1 (by rw [← List.map_reverse]; show (st'.map (zz_v ad)) = _; rw [hstk, List.map_append]) (lv_room (by rw [zz_catS]; exact hst)) hd ⟨Nat.zero_le _, Nat.zero_le _⟩) hS (fun q _ hq => hF q hq) hF (fun r u t H1 locs1 ht hvm hw hB hz hk hS1 => ?_)
  obtain ⟨hP1, hD1⟩ := hB
  rw [ht] at hP1
  exact kk r u hw p l e R s m args below meth c H1 locs1 D cI cR ad A ls X hP1 (hD1.weaken (fun _ q _ hq => hF q.1 hq)) hS1 hL
theorem zr_callSv {d' nL' n : Nat} {y : MethodName} {cc' : ByteArray} {P : Int32 → zz_H → Prop} {As : List Value} (hct : zz_Ct sh d' y cc' nL' none As h P) (hy : zz_yS y cc' nL' none n) {i : Nat} (hl : Cond.methodLink own i y ∈ zz_TB) (hd' : d' + 1 ≤ d) (hn : As.length = n) {st' : List Value} (hstk : st' = As.reverse ++ st) (hst : (st.map fun v => v.category).sum ≤ 8) (hd : decode cc pc = .ok (.invokestatic i, 3)) (kk : ∀ (h' : zz_H), P 0 h' → zz_Go sh d cc own nL ret post (pc + 3) st L h') : zz_Go sh d cc own nL ret post pc st' L h := by
  intro p l e R s m args below meth c H locs D cI cR ad A ls X hP hD hS hL
  obtain ⟨hx, hb, hr, hml, hown, hlk, hts, hfr, hlo, hA, hK, hN, hO⟩ := id X
  have hF : ∀ q, va_A (zz_ws ad cI cR sh h) H.size q → A q := fun q hq => hq.elim (fun ⟨k9, e9, h9⟩ => hD.2 k9 (q, e9) h9) (fun h9 => hA q (Nat.le_trans hS.1 h9))
  refine va_callv (va_runS (As := As.map (zz_v ad)) (rest := st.map (zz_v ad)) ⟨hx, hb, hml, hown, hts⟩ (hct l D cI cR ad H.size) (va_cwS n hts (zz_goodIn _ (zz_memS hy.1 hl hy.2.1 hy.2.2.1)) rfl rfl rfl hy.2.2.2.2 ⟨Nat.le_trans hd' hfr, zz_loc hd' hy.2.2.2.1 hlo⟩) ⟨fun a U g mk q => by obtain ⟨q0, q1, qP, qK, qD, qN, qO⟩ := q; exact ⟨q0, q1, qP, va_K.moved (u := U) (U := U.calling g mk a) (Vm.Alike.refl U.vm) qK, qD, qN.same rfl, qO.to (Vm.Alike.refl U.vm) (fun _ _ _ _ hz => hz.same rfl) (fun _ _ _ => rfl) (fun _ hz => hz)⟩, fun U hU hW => ⟨rfl, by rw [hU], by rw [hU]; exact hP, va_K.moved hW.alike hK, hD.weaken (fun _ _ _ _ => trivial), hN.warm hW, hO.to hW.alike (fun _ _ _ _ hz => hz.warm hW) (fun a h1 h2 => by rw [hU]; exact hS.2.1 a h1 h2) hF⟩⟩ rfl (by rw [List.length_map]; exact hn) hL.1 (by rw [← List.map_reverse]; show (st'.map (zz_v ad)) = _; rw [hstk, List.map_append]) (lv_room (by rw [zz_catS]; exact hst)) hd ⟨Nat.zero_le _, Nat.zero_le _⟩) hS (fun q _ hq => hF q hq) hF (fun u t H1 locs1 ht hvm hw hB hz hk hS1 => ?_)
  obtain ⟨hP1, hD1⟩ := hB
  rw [ht] at hP1
  exact kk u hw p l e R s m args below meth c H1 locs1 D cI cR ad A ls X hP1 (hD1.weaken (fun _ q _ hq => hF q.1 hq)) hS1 hL
theorem zr_callNi {ty : FieldType} {d' nL' n : Nat} {y : MethodName} {cc' : ByteArray} {P : Int32 → zz_H → Prop} {As : List Value} (hct : zz_Ct sh d' y cc' nL' (some ty) As h P) (hy : zz_yS y cc' nL' (some ty) n) {i : Nat} {host : String} (hl : (own, i, y, host) ∈ zz_nl) (hd' : d' + 1 ≤ d) (hn : As.length = n) {st' : List Value} (hstk : st' = As.reverse ++ st) (hst : (st.map fun v => v.category).sum ≤ 8) (hd : decode cc pc = .ok (.invokestatic i, 3)) (kk : ∀ (r : Int32) (h' : zz_H), P r h' → zz_Go sh d cc own nL ret post (pc + 3) (.int r :: st) L h') : zz_Go sh d cc own nL ret post pc st' L h := by
  intro p l e R s m args below meth c H locs D cI cR ad A ls X hP hD hS hL
  obtain ⟨hx, hb, hr, hml, hown, hlk, hts, hfr, hlo, hA, hK, hN, hO⟩ := id X
  have hF : ∀ q, va_A (zz_ws ad cI cR sh h) H.size q → A q := fun q hq => hq.elim (fun ⟨k9, e9, h9⟩ => hD.2 k9 (q, e9) h9) (fun h9 => hA q (Nat.le_trans hS.1 h9))
  refine va_calli (va_runSN (As := As.map (zz_v ad)) (rest := st.map (zz_v ad)) (Ts := zz_TB) (host := host) ⟨hx, hb, hml, hown, hts⟩ (hct l D cI cR ad H.size) ⟨va_cnB n hts (zz_goodIn _ (zz_memN hy.1)) rfl rfl rfl (hN _ hl) (hts _ hy.2.2.1) hy.2.2.2.2 ⟨Nat.le_trans hd' hfr, zz_loc hd' hy.2.2.2.1 hlo⟩, hts _ hy.2.1, trivial⟩ ⟨fun a U g mk q => by obtain ⟨q0, q1, qP, qK, qD, qN, qO⟩ := q; exact ⟨q0, q1, qP, va_K.moved (u := U) (U := U.calling g mk a) (Vm.Alike.refl U.vm) qK, qD, qN.same rfl, qO.to (Vm.Alike.refl U.vm) (fun _ _ _ _ hz => hz.same rfl) (fun _ _ _ => rfl) (fun _ hz => hz)⟩, fun U hU hW => ⟨rfl, by rw [hU], by rw [hU]; exact hP, va_K.moved hW.alike hK, hD.weaken (fun _ _ _ _ => trivial), hN.warm hW, hO.to hW.alike (fun _ _ _ _ hz => hz.warm hW) (fun a h1 h2 => by rw [hU]; exact hS.2.1 a h1 h2) hF⟩⟩ rfl (by rw [List.length_map]; exact hn) hL.1 (by rw [← List.map_reverse]; show (st'.map (zz_v ad)) = _; rw [hstk, List.map_append]) (lv_room (by rw [zz_catS]; exact hst)) hd ⟨Nat.zero_le _, Nat.zero_le _⟩) hS (fun q _ hq => hF q hq) hF (fun r u t H1 locs1 ht hvm hw hB hz hk hS1 => ?_)
  obtain ⟨hP1, hD1⟩ := hB
  rw [ht] at hP1
  exact kk r u hw p l e R s m args below meth c H1 locs1 D cI cR ad A ls X hP1 (hD1.weaken (fun _ q _ hq => hF q.1 hq)) hS1 hL
theorem zr_callNv {d' nL' n : Nat} {y : MethodName} {cc' : ByteArray} {P : Int32 → zz_H → Prop} {As : List Value} (hct : zz_Ct sh d' y cc' nL' none As h P) (hy : zz_yS y cc' nL' none n) {i : Nat} {host : String} (hl : (own, i, y, host) ∈ zz_nl) (hd' : d' + 1 ≤ d) (hn : As.length = n) {st' : List Value} (hstk : st' = As.reverse ++ st) (hst : (st.map fun v => v.category).sum ≤ 8) (hd : decode cc pc = .ok (.invokestatic i, 3)) (kk : ∀ (h' : zz_H), P 0 h' → zz_Go sh d cc own nL ret post (pc + 3) st L h') : zz_Go sh d cc own nL ret post pc st' L h := by
  intro p l e R s m args below meth c H locs D cI cR ad A ls X hP hD hS hL
  obtain ⟨hx, hb, hr, hml, hown, hlk, hts, hfr, hlo, hA, hK, hN, hO⟩ := id X
  have hF : ∀ q, va_A (zz_ws ad cI cR sh h) H.size q → A q := fun q hq => hq.elim (fun ⟨k9, e9, h9⟩ => hD.2 k9 (q, e9) h9) (fun h9 => hA q (Nat.le_trans hS.1 h9))
  refine va_callv (va_runSN (As := As.map (zz_v ad)) (rest := st.map (zz_v ad)) (Ts := zz_TB) (host := host) ⟨hx, hb, hml, hown, hts⟩ (hct l D cI cR ad H.size) ⟨va_cnB n hts (zz_goodIn _ (zz_memN hy.1)) rfl rfl rfl (hN _ hl) (hts _ hy.2.2.1) hy.2.2.2.2 ⟨Nat.le_trans hd' hfr, zz_loc hd' hy.2.2.2.1 hlo⟩, hts _ hy.2.1, trivial⟩ ⟨fun a U g mk q => by obtain ⟨q0, q1, qP, qK, qD, qN, qO⟩ := q; exact ⟨q0, q1, qP, va_K.moved (u := U) (U := U.calling g mk a) (Vm.Alike.refl U.vm) qK, qD, qN.same rfl, qO.to (Vm.Alike.refl U.vm) (fun _ _ _ _ hz => hz.same rfl) (fun _ _ _ => rfl) (fun _ hz => hz)⟩, fun U hU hW => ⟨rfl, by rw [hU], by rw [hU]; exact hP, va_K.moved hW.alike hK, hD.weaken (fun _ _ _ _ => trivial), hN.warm hW, hO.to hW.alike (fun _ _ _ _ hz => hz.warm hW) (fun a h1 h2 => by rw [hU]; exact hS.2.1 a h1 h2) hF⟩⟩ rfl (by rw [List.length_map]; exact hn) hL.1 (by rw [← List.map_reverse]; show (st'.map (zz_v ad)) = _; rw [hstk, List.map_append]) (lv_room (by rw [zz_catS]; exact hst)) hd ⟨Nat.zero_le _, Nat.zero_le _⟩) hS (fun q _ hq => hF q hq) hF (fun u t H1 locs1 ht hvm hw hB hz hk hS1 => ?_)
  obtain ⟨hP1, hD1⟩ := hB
  rw [ht] at hP1
  exact kk u hw p l e R s m args below meth c H1 locs1 D cI cR ad A ls X hP1 (hD1.weaken (fun _ q _ hq => hF q.1 hq)) hS1 hL
theorem zr_sub (L' : List Value) (hs : zz_le L' L) (k : zz_Go sh d cc own nL ret post pc st L' h) : zz_Go sh d cc own nL ret post pc st L h := by
  intro p l e R s m args below meth c H locs D cI cR ad A ls X hP hD hS hL
  obtain ⟨hx, hb, hr, hml, hown, hlk, hts, hfr, hlo, hA, hK, hN, hO⟩ := id X
  exact k p l e R s m args below meth c H locs D cI cR ad A ls X hP hD hS ⟨hL.1, hL.2.1, fun q hq => hL.2.2 q (zz_le_mem ad L' L 0 hs q hq)⟩
end ZR
end
