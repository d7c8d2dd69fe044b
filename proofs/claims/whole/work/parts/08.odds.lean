theorem zbk_6 : (Int8.ofInt (6)).toInt32 = (6 : Int32) := by decide
theorem zbk_7 : (Int8.ofInt (7)).toInt32 = (7 : Int32) := by decide
theorem zbk_8 : (Int8.ofInt (8)).toInt32 = (8 : Int32) := by decide
theorem zbk_9 : (Int8.ofInt (9)).toInt32 = (9 : Int32) := by decide
theorem zbk_10 : (Int8.ofInt (10)).toInt32 = (10 : Int32) := by decide
theorem zbk_12 : (Int8.ofInt (12)).toInt32 = (12 : Int32) := by decide
theorem zbk_16 : (Int8.ofInt (16)).toInt32 = (16 : Int32) := by decide
theorem zbk_17 : (Int8.ofInt (17)).toInt32 = (17 : Int32) := by decide
theorem zbk_18 : (Int8.ofInt (18)).toInt32 = (18 : Int32) := by decide
theorem zbk_19 : (Int8.ofInt (19)).toInt32 = (19 : Int32) := by decide
theorem zbk_30 : (Int8.ofInt (30)).toInt32 = (30 : Int32) := by decide
theorem zbk_32 : (Int8.ofInt (32)).toInt32 = (32 : Int32) := by decide
theorem zbk_40 : (Int8.ofInt (40)).toInt32 = (40 : Int32) := by decide
theorem zbk_41 : (Int8.ofInt (41)).toInt32 = (41 : Int32) := by decide
theorem zbk_48 : (Int8.ofInt (48)).toInt32 = (48 : Int32) := by decide
theorem zbk_57 : (Int8.ofInt (57)).toInt32 = (57 : Int32) := by decide
theorem zbk_59 : (Int8.ofInt (59)).toInt32 = (59 : Int32) := by decide
theorem zbk_60 : (Int8.ofInt (60)).toInt32 = (60 : Int32) := by decide
theorem zbk_63 : (Int8.ofInt (63)).toInt32 = (63 : Int32) := by decide
theorem zbk_97 : (Int8.ofInt (97)).toInt32 = (97 : Int32) := by decide
theorem zbk_98 : (Int8.ofInt (98)).toInt32 = (98 : Int32) := by decide
theorem zbk_99 : (Int8.ofInt (99)).toInt32 = (99 : Int32) := by decide
theorem zbk_100 : (Int8.ofInt (100)).toInt32 = (100 : Int32) := by decide
theorem zbk_101 : (Int8.ofInt (101)).toInt32 = (101 : Int32) := by decide
theorem zbk_104 : (Int8.ofInt (104)).toInt32 = (104 : Int32) := by decide
theorem zbk_105 : (Int8.ofInt (105)).toInt32 = (105 : Int32) := by decide
theorem zbk_107 : (Int8.ofInt (107)).toInt32 = (107 : Int32) := by decide
theorem zbk_108 : (Int8.ofInt (108)).toInt32 = (108 : Int32) := by decide
theorem zbk_109 : (Int8.ofInt (109)).toInt32 = (109 : Int32) := by decide
theorem zbk_110 : (Int8.ofInt (110)).toInt32 = (110 : Int32) := by decide
theorem zbk_111 : (Int8.ofInt (111)).toInt32 = (111 : Int32) := by decide
theorem zbk_112 : (Int8.ofInt (112)).toInt32 = (112 : Int32) := by decide
theorem zbk_113 : (Int8.ofInt (113)).toInt32 = (113 : Int32) := by decide
theorem zbk_114 : (Int8.ofInt (114)).toInt32 = (114 : Int32) := by decide
theorem zbk_115 : (Int8.ofInt (115)).toInt32 = (115 : Int32) := by decide
theorem zbk_116 : (Int8.ofInt (116)).toInt32 = (116 : Int32) := by decide
theorem zbk_117 : (Int8.ofInt (117)).toInt32 = (117 : Int32) := by decide
theorem zbk_118 : (Int8.ofInt (118)).toInt32 = (118 : Int32) := by decide
theorem zbk_119 : (Int8.ofInt (119)).toInt32 = (119 : Int32) := by decide
theorem zbk_120 : (Int8.ofInt (120)).toInt32 = (120 : Int32) := by decide
theorem zbk_121 : (Int8.ofInt (121)).toInt32 = (121 : Int32) := by decide
theorem zbk_122 : (Int8.ofInt (122)).toInt32 = (122 : Int32) := by decide
theorem zhk_192 : (Int16.ofInt (192)).toInt32 = (192 : Int32) := by decide
theorem zhk_223 : (Int16.ofInt (223)).toInt32 = (223 : Int32) := by decide
theorem zhk_235 : (Int16.ofInt (235)).toInt32 = (235 : Int32) := by decide
theorem zhk_245 : (Int16.ofInt (245)).toInt32 = (245 : Int32) := by decide
theorem zhk_255 : (Int16.ofInt (255)).toInt32 = (255 : Int32) := by decide
theorem zhk_400 : (Int16.ofInt (400)).toInt32 = (400 : Int32) := by decide
theorem zhk_999 : (Int16.ofInt (999)).toInt32 = (999 : Int32) := by decide
theorem zhk_1000 : (Int16.ofInt (1000)).toInt32 = (1000 : Int32) := by decide
theorem zhk_12345 : (Int16.ofInt (12345)).toInt32 = (12345 : Int32) := by decide
theorem zok_m1 (x : Int32) : x + Int32.ofInt (-1) = x + (-1) := by rw [show Int32.ofInt (-1) = ((-1) : Int32) by decide]
theorem zok_1 (x : Int32) : x + Int32.ofInt (1) = x + 1 := by rw [show Int32.ofInt (1) = (1 : Int32) by decide]
theorem zqk_m1 : Int32.ofInt (-1) = ((-1) : Int32) := by decide
theorem zqk_0 : Int32.ofInt (0) = (0 : Int32) := by decide
theorem zqk_1 : Int32.ofInt (1) = (1 : Int32) := by decide
theorem zqk_2 : Int32.ofInt (2) = (2 : Int32) := by decide
theorem zqk_3 : Int32.ofInt (3) = (3 : Int32) := by decide
theorem zqk_4 : Int32.ofInt (4) = (4 : Int32) := by decide
theorem zqk_5 : Int32.ofInt (5) = (5 : Int32) := by decide
theorem zqk_6 : Int32.ofInt (6) = (6 : Int32) := by decide
theorem zz_C0 : zz_C[0]? = some (.inr (.inr (4, [some 1, some 9, some 17, some 25, some 29, some 31, some 32, some 33, some 34, none]))) := rfl
theorem zz_C1 : zz_C[1]? = some (.inr (.inr (0, zz_pfs 1))) := rfl
theorem zz_C2 : zz_C[2]? = some (.inl 8) := rfl
theorem zz_C3 : zz_C[3]? = some (.inl 8) := rfl
theorem zz_C4 : zz_C[4]? = some (.inl 12) := rfl
theorem zz_C5 : zz_C[5]? = some (.inl 192) := rfl
theorem zz_C6 : zz_C[6]? = some (.inl 6) := rfl
theorem zz_C7 : zz_C[7]? = some (.inl 6) := rfl
theorem zz_C8 : zz_C[8]? = some (.inl 10) := rfl
theorem zz_C9 : zz_C[9]? = some (.inr (.inr (0, zz_pfs 9))) := rfl
theorem zz_C10 : zz_C[10]? = some (.inl 8) := rfl
theorem zz_C11 : zz_C[11]? = some (.inl 8) := rfl
theorem zz_C12 : zz_C[12]? = some (.inl 12) := rfl
theorem zz_C13 : zz_C[13]? = some (.inl 192) := rfl
theorem zz_C14 : zz_C[14]? = some (.inl 6) := rfl
theorem zz_C15 : zz_C[15]? = some (.inl 6) := rfl
theorem zz_C16 : zz_C[16]? = some (.inl 10) := rfl
theorem zz_C17 : zz_C[17]? = some (.inr (.inr (0, zz_pfs 17))) := rfl
theorem zz_C18 : zz_C[18]? = some (.inl 8) := rfl
theorem zz_C19 : zz_C[19]? = some (.inl 8) := rfl
theorem zz_C20 : zz_C[20]? = some (.inl 12) := rfl
theorem zz_C21 : zz_C[21]? = some (.inl 192) := rfl
theorem zz_C22 : zz_C[22]? = some (.inl 6) := rfl
theorem zz_C23 : zz_C[23]? = some (.inl 6) := rfl
theorem zz_C24 : zz_C[24]? = some (.inl 10) := rfl
theorem zz_C25 : zz_C[25]? = some (.inr (.inr (1, [some 26, some 27, some 28, none, none, none, none, none]))) := rfl
theorem zz_C26 : zz_C[26]? = some (.inl 8) := rfl
theorem zz_C27 : zz_C[27]? = some (.inl 96) := rfl
theorem zz_C28 : zz_C[28]? = some (.inl 12) := rfl
theorem zz_C29 : zz_C[29]? = some (.inr (.inr (3, [some 30, none, none, none, none, none]))) := rfl
theorem zz_C30 : zz_C[30]? = some (.inl 120) := rfl
theorem zz_C31 : zz_C[31]? = some (.inr (.inl zz_shl)) := rfl
theorem zz_C32 : zz_C[32]? = some (.inl 12) := rfl
theorem zz_C33 : zz_C[33]? = some (.inl 12) := rfl
theorem zz_C34 : zz_C[34]? = some (.inl 7) := rfl
theorem zz_C35 : zz_C[35]? = some (.inr (.inr (2, zz_sfs 35))) := rfl
theorem zz_C36 : zz_C[36]? = some (.inl 40) := rfl
theorem zz_C37 : zz_C[37]? = some (.inr (.inr (2, zz_sfs 37))) := rfl
theorem zz_C38 : zz_C[38]? = some (.inl 40) := rfl
theorem zz_C39 : zz_C[39]? = some (.inr (.inr (2, zz_sfs 39))) := rfl
theorem zz_C40 : zz_C[40]? = some (.inl 40) := rfl
theorem zz_C41 : zz_C[41]? = some (.inr (.inr (2, zz_sfs 41))) := rfl
theorem zz_C42 : zz_C[42]? = some (.inl 40) := rfl
theorem zz_M0 : zz_M[0]? = some (.inr (.inr (5, [some 1, some 2, some 3, some 4, none, some 5, some 6, none, none, none, none, none, some 7, some 8, some 9, some 10]))) := rfl
theorem zz_M1 : zz_M[1]? = some (.inl 245) := rfl
theorem zz_M2 : zz_M[2]? = some (.inl 245) := rfl
theorem zz_M3 : zz_M[3]? = some (.inl 245) := rfl
theorem zz_M4 : zz_M[4]? = some (.inl 7) := rfl
theorem zz_M5 : zz_M[5]? = some (.inl 12) := rfl
theorem zz_M6 : zz_M[6]? = some (.inl 120) := rfl
theorem zz_M7 : zz_M[7]? = some (.inl 4) := rfl
theorem zz_M8 : zz_M[8]? = some (.inl 4) := rfl
theorem zz_M9 : zz_M[9]? = some (.inl 160) := rfl
theorem zz_M10 : zz_M[10]? = some (.inl 40) := rfl
theorem zz_tout {x : Int32} {lo hi : Int} (h : ∀ j : Int, lo ≤ j → j ≤ hi → ¬ x = Int32.ofInt j) : x.toInt < lo ∨ hi < x.toInt := by
  rcases Int.lt_or_le x.toInt lo with a | a
  · exact Or.inl a
  · rcases Int.lt_or_le hi x.toInt with b | b
    · exact Or.inr b
    · exact absurd (Int32.ofInt_toInt x).symm (h _ a b)
/-- a method that writes nothing -/
def zz_pu (h : zz_H) (P : Int32 → Prop) : Int32 → zz_H → Prop := fun r h' => h' = h ∧ P r
section ZP
variable {sh : List zz_SC} {d : Nat} {cc : ByteArray} {own : String} {nL : Nat} {ret : Option FieldType} {post : Int32 → zz_H → Prop} {pc : Nat} {st L : List Value} {h : zz_H}
theorem zr_pVi {ty : FieldType} {d' nL' n : Nat} {y : MethodName} {cc' : ByteArray} {P : Int32 → Prop} {ci N : Nat} {C : String} {T : u_T} {ty0 : Nat → FieldType} (hc : zz_cls ci C T N ty0) {k : Nat} {fs : List (Option Nat)} (hsh : sh[k]? = some (.inr (.inr (ci, fs)))) {As : List Value} (hct : zz_Ct sh d' y cc' nL' (some ty) (.ref k :: As) h (zz_pu h P)) (hy : zz_yV y cc' nL' (some ty) C n) {i : Nat} (hl : Cond.methodLink own i y ∈ zz_TB) (hd' : d' + 1 ≤ d) (hn : As.length = n) {st' : List Value} (hstk : st' = As.reverse ++ .ref k :: st) (hst : (st.map fun v => v.category).sum ≤ 8) (hd : decode cc pc = .ok (.invokevirtual i, 3)) (kk : ∀ r : Int32, P r → zz_Go sh d cc own nL ret post (pc + 3) (.int r :: st) L h) : zz_Go sh d cc own nL ret post pc st' L h :=
  zr_callVi hc hsh hct hy hl hd' hn hstk hst hd (fun r h' hq => by obtain ⟨rfl, hq⟩ := hq; exact kk r hq)
theorem zr_pVv {d' nL' n : Nat} {y : MethodName} {cc' : ByteArray} {P : Int32 → Prop} {ci N : Nat} {C : String} {T : u_T} {ty0 : Nat → FieldType} (hc : zz_cls ci C T N ty0) {k : Nat} {fs : List (Option Nat)} (hsh : sh[k]? = some (.inr (.inr (ci, fs)))) {As : List Value} (hct : zz_Ct sh d' y cc' nL' none (.ref k :: As) h (zz_pu h P)) (hy : zz_yV y cc' nL' none C n) {i : Nat} (hl : Cond.methodLink own i y ∈ zz_TB) (hd' : d' + 1 ≤ d) (hn : As.length = n) {st' : List Value} (hstk : st' = As.reverse ++ .ref k :: st) (hst : (st.map fun v => v.category).sum ≤ 8) (hd : decode cc pc = .ok (.invokevirtual i, 3)) (kk : P 0 → zz_Go sh d cc own nL ret post (pc + 3) st L h) : zz_Go sh d cc own nL ret post pc st' L h :=
  zr_callVv hc hsh hct hy hl hd' hn hstk hst hd (fun h' hq => by obtain ⟨rfl, hq⟩ := hq; exact kk hq)
theorem zr_pSi {ty : FieldType} {d' nL' n : Nat} {y : MethodName} {cc' : ByteArray} {P : Int32 → Prop} {As : List Value} (hct : zz_Ct sh d' y cc' nL' (some ty) As h (zz_pu h P)) (hy : zz_yS y cc' nL' (some ty) n) {i : Nat} (hl : Cond.methodLink own i y ∈ zz_TB) (hd' : d' + 1 ≤ d) (hn : As.length = n) {st' : List Value} (hstk : st' = As.reverse ++ st) (hst : (st.map fun v => v.category).sum ≤ 8) (hd : decode cc pc = .ok (.invokestatic i, 3)) (kk : ∀ r : Int32, P r → zz_Go sh d cc own nL ret post (pc + 3) (.int r :: st) L h) : zz_Go sh d cc own nL ret post pc st' L h :=
  zr_callSi hct hy hl hd' hn hstk hst hd (fun r h' hq => by obtain ⟨rfl, hq⟩ := hq; exact kk r hq)
theorem zr_pSv {d' nL' n : Nat} {y : MethodName} {cc' : ByteArray} {P : Int32 → Prop} {As : List Value} (hct : zz_Ct sh d' y cc' nL' none As h (zz_pu h P)) (hy : zz_yS y cc' nL' none n) {i : Nat} (hl : Cond.methodLink own i y ∈ zz_TB) (hd' : d' + 1 ≤ d) (hn : As.length = n) {st' : List Value} (hstk : st' = As.reverse ++ st) (hst : (st.map fun v => v.category).sum ≤ 8) (hd : decode cc pc = .ok (.invokestatic i, 3)) (kk : P 0 → zz_Go sh d cc own nL ret post (pc + 3) st L h) : zz_Go sh d cc own nL ret post pc st' L h :=
  zr_callSv hct hy hl hd' hn hstk hst hd (fun h' hq => by obtain ⟨rfl, hq⟩ := hq; exact kk hq)
theorem zr_pNi {ty : FieldType} {d' nL' n : Nat} {y : MethodName} {cc' : ByteArray} {P : Int32 → Prop} {As : List Value} (hct : zz_Ct sh d' y cc' nL' (some ty) As h (zz_pu h P)) (hy : zz_yS y cc' nL' (some ty) n) {i : Nat} {host : String} (hl : (own, i, y, host) ∈ zz_nl) (hd' : d' + 1 ≤ d) (hn : As.length = n) {st' : List Value} (hstk : st' = As.reverse ++ st) (hst : (st.map fun v => v.category).sum ≤ 8) (hd : decode cc pc = .ok (.invokestatic i, 3)) (kk : ∀ r : Int32, P r → zz_Go sh d cc own nL ret post (pc + 3) (.int r :: st) L h) : zz_Go sh d cc own nL ret post pc st' L h :=
  zr_callNi hct hy hl hd' hn hstk hst hd (fun r h' hq => by obtain ⟨rfl, hq⟩ := hq; exact kk r hq)
theorem zr_pNv {d' nL' n : Nat} {y : MethodName} {cc' : ByteArray} {P : Int32 → Prop} {As : List Value} (hct : zz_Ct sh d' y cc' nL' none As h (zz_pu h P)) (hy : zz_yS y cc' nL' none n) {i : Nat} {host : String} (hl : (own, i, y, host) ∈ zz_nl) (hd' : d' + 1 ≤ d) (hn : As.length = n) {st' : List Value} (hstk : st' = As.reverse ++ st) (hst : (st.map fun v => v.category).sum ≤ 8) (hd : decode cc pc = .ok (.invokestatic i, 3)) (kk : P 0 → zz_Go sh d cc own nL ret post (pc + 3) st L h) : zz_Go sh d cc own nL ret post pc st' L h :=
  zr_callNv hct hy hl hd' hn hstk hst hd (fun h' hq => by obtain ⟨rfl, hq⟩ := hq; exact kk hq)
end ZP
