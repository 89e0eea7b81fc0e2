/-! THE LAW's rows (laid by wip/whole/gen/gen_law.py). -/
section LR
/-- what the tables say of a method with a table of handlers -/
def z_mtH (M : z_M) (hh : List (Nat × Nat × Nat × Nat)) (n : Nat) : Prop := Cond.codeWith M.1 M.2.1 M.2.2.1 M.2.2.2 hh ∈ lw_tbl ∧ Cond.initialized M.1.cls ∈ lw_tbl ∧ (M.1.cls ≠ "java/lang/invoke/MethodHandle" ∧ M.1.cls ≠ "java/lang/invoke/VarHandle") ∧ (parseMethodDescriptor M.1.desc).map (fun d => d.parameters.length) = some n ∧ M.2.2.1 ≤ 60
theorem w2_212 : (Jvm.Cond.codeWith ({ cls := "StandingsHallLaw", name := "append", desc := "(LStandingsHall;IIIII[J)I" } : Jvm.MethodName) method_3_code (8 : Nat) (Option.some Jvm.ClassFile.FieldType.int) [((0 : Nat), (16 : Nat), (19 : Nat), (13 : Nat))]) ∈ lw_tbl := z_in2 (List.mem_of_getElem? (i := 212) rfl)
theorem w1_0 : (Jvm.Cond.initialized "StandingsHallLaw") ∈ lw_tbl := z_in1 (List.mem_of_getElem? (i := 0) rfl)
theorem w2_211 : (Jvm.Cond.static ({ cls := "StandingsHallLaw", name := "append", desc := "(LStandingsHall;IIIII[J)I" } : Jvm.MethodName)) ∈ lw_tbl := z_in2 (List.mem_of_getElem? (i := 211) rfl)
theorem w3_57 : (Jvm.Cond.codeWith ({ cls := "StandingsHallLaw", name := "setOrder", desc := "(LStandingsHall;[J)I" } : Jvm.MethodName) method_4_code (3 : Nat) (Option.some Jvm.ClassFile.FieldType.int) [((0 : Nat), (8 : Nat), (11 : Nat), (19 : Nat))]) ∈ lw_tbl := z_in3 (List.mem_of_getElem? (i := 57) rfl)
theorem w3_56 : (Jvm.Cond.static ({ cls := "StandingsHallLaw", name := "setOrder", desc := "(LStandingsHall;[J)I" } : Jvm.MethodName)) ∈ lw_tbl := z_in3 (List.mem_of_getElem? (i := 56) rfl)
theorem w4_218 : (Jvm.Cond.codeWith ({ cls := "StandingsHallLaw", name := "criterion", desc := "(LStandingsHall;II[J)I" } : Jvm.MethodName) method_5_code (5 : Nat) (Option.some Jvm.ClassFile.FieldType.int) [((0 : Nat), (10 : Nat), (13 : Nat), (25 : Nat)), ((0 : Nat), (10 : Nat), (17 : Nat), (19 : Nat))]) ∈ lw_tbl := z_in4 (List.mem_of_getElem? (i := 218) rfl)
theorem w4_217 : (Jvm.Cond.static ({ cls := "StandingsHallLaw", name := "criterion", desc := "(LStandingsHall;II[J)I" } : Jvm.MethodName)) ∈ lw_tbl := z_in4 (List.mem_of_getElem? (i := 217) rfl)
theorem w4_235 : (Jvm.Cond.codeWith ({ cls := "StandingsHallLaw", name := "come", desc := "(LStandingsHall;I[J)I" } : Jvm.MethodName) method_6_code (4 : Nat) (Option.some Jvm.ClassFile.FieldType.int) [((0 : Nat), (9 : Nat), (12 : Nat), (19 : Nat)), ((0 : Nat), (9 : Nat), (15 : Nat), (13 : Nat))]) ∈ lw_tbl := z_in4 (List.mem_of_getElem? (i := 235) rfl)
theorem w4_234 : (Jvm.Cond.static ({ cls := "StandingsHallLaw", name := "come", desc := "(LStandingsHall;I[J)I" } : Jvm.MethodName)) ∈ lw_tbl := z_in4 (List.mem_of_getElem? (i := 234) rfl)
theorem w5_22 : (Jvm.Cond.codeWith ({ cls := "StandingsHallLaw", name := "leave", desc := "(LStandingsHall;I[J)I" } : Jvm.MethodName) method_7_code (4 : Nat) (Option.some Jvm.ClassFile.FieldType.int) [((0 : Nat), (9 : Nat), (12 : Nat), (25 : Nat))]) ∈ lw_tbl := z_in5 (List.mem_of_getElem? (i := 22) rfl)
theorem w5_21 : (Jvm.Cond.static ({ cls := "StandingsHallLaw", name := "leave", desc := "(LStandingsHall;I[J)I" } : Jvm.MethodName)) ∈ lw_tbl := z_in5 (List.mem_of_getElem? (i := 21) rfl)
theorem w5_57 : (Jvm.Cond.codeWith ({ cls := "StandingsHallLaw", name := "score", desc := "(LStandingsHall;III[J)I" } : Jvm.MethodName) method_8_code (6 : Nat) (Option.some Jvm.ClassFile.FieldType.int) [((0 : Nat), (12 : Nat), (15 : Nat), (25 : Nat)), ((0 : Nat), (12 : Nat), (19 : Nat), (19 : Nat))]) ∈ lw_tbl := z_in5 (List.mem_of_getElem? (i := 57) rfl)
theorem w5_56 : (Jvm.Cond.static ({ cls := "StandingsHallLaw", name := "score", desc := "(LStandingsHall;III[J)I" } : Jvm.MethodName)) ∈ lw_tbl := z_in5 (List.mem_of_getElem? (i := 56) rfl)
theorem w5_84 : (Jvm.Cond.codeWith ({ cls := "StandingsHallLaw", name := "setScore", desc := "(LStandingsHall;III[J)I" } : Jvm.MethodName) method_9_code (6 : Nat) (Option.some Jvm.ClassFile.FieldType.int) [((0 : Nat), (12 : Nat), (15 : Nat), (25 : Nat)), ((0 : Nat), (12 : Nat), (19 : Nat), (19 : Nat))]) ∈ lw_tbl := z_in5 (List.mem_of_getElem? (i := 84) rfl)
theorem w5_83 : (Jvm.Cond.static ({ cls := "StandingsHallLaw", name := "setScore", desc := "(LStandingsHall;III[J)I" } : Jvm.MethodName)) ∈ lw_tbl := z_in5 (List.mem_of_getElem? (i := 83) rfl)
theorem w5_91 : (Jvm.Cond.codeWith ({ cls := "StandingsHallLaw", name := "scoreOf", desc := "(LStandingsHall;II[J)I" } : Jvm.MethodName) method_10_code (5 : Nat) (Option.some Jvm.ClassFile.FieldType.int) [((0 : Nat), (10 : Nat), (13 : Nat), (25 : Nat)), ((0 : Nat), (10 : Nat), (17 : Nat), (19 : Nat))]) ∈ lw_tbl := z_in5 (List.mem_of_getElem? (i := 91) rfl)
theorem w5_90 : (Jvm.Cond.static ({ cls := "StandingsHallLaw", name := "scoreOf", desc := "(LStandingsHall;II[J)I" } : Jvm.MethodName)) ∈ lw_tbl := z_in5 (List.mem_of_getElem? (i := 90) rfl)
theorem w5_98 : (Jvm.Cond.codeWith ({ cls := "StandingsHallLaw", name := "groupOf", desc := "(LStandingsHall;I[J)I" } : Jvm.MethodName) method_11_code (4 : Nat) (Option.some Jvm.ClassFile.FieldType.int) [((0 : Nat), (9 : Nat), (12 : Nat), (25 : Nat))]) ∈ lw_tbl := z_in5 (List.mem_of_getElem? (i := 98) rfl)
theorem w5_97 : (Jvm.Cond.static ({ cls := "StandingsHallLaw", name := "groupOf", desc := "(LStandingsHall;I[J)I" } : Jvm.MethodName)) ∈ lw_tbl := z_in5 (List.mem_of_getElem? (i := 97) rfl)
theorem w5_105 : (Jvm.Cond.codeWith ({ cls := "StandingsHallLaw", name := "at", desc := "(LStandingsHall;I[J)I" } : Jvm.MethodName) method_12_code (4 : Nat) (Option.some Jvm.ClassFile.FieldType.int) [((0 : Nat), (9 : Nat), (12 : Nat), (25 : Nat))]) ∈ lw_tbl := z_in5 (List.mem_of_getElem? (i := 105) rfl)
theorem w5_104 : (Jvm.Cond.static ({ cls := "StandingsHallLaw", name := "at", desc := "(LStandingsHall;I[J)I" } : Jvm.MethodName)) ∈ lw_tbl := z_in5 (List.mem_of_getElem? (i := 104) rfl)
theorem w5_113 : (Jvm.Cond.codeWith ({ cls := "StandingsHallLaw", name := "place", desc := "(LStandingsHall;I[J)I" } : Jvm.MethodName) method_13_code (4 : Nat) (Option.some Jvm.ClassFile.FieldType.int) [((0 : Nat), (9 : Nat), (12 : Nat), (25 : Nat))]) ∈ lw_tbl := z_in5 (List.mem_of_getElem? (i := 113) rfl)
theorem w5_112 : (Jvm.Cond.static ({ cls := "StandingsHallLaw", name := "place", desc := "(LStandingsHall;I[J)I" } : Jvm.MethodName)) ∈ lw_tbl := z_in5 (List.mem_of_getElem? (i := 112) rfl)
theorem w5_120 : (Jvm.Cond.codeWith ({ cls := "StandingsHallLaw", name := "rank", desc := "(LStandingsHall;II[J)I" } : Jvm.MethodName) method_14_code (5 : Nat) (Option.some Jvm.ClassFile.FieldType.int) [((0 : Nat), (10 : Nat), (13 : Nat), (25 : Nat)), ((0 : Nat), (10 : Nat), (17 : Nat), (19 : Nat))]) ∈ lw_tbl := z_in5 (List.mem_of_getElem? (i := 120) rfl)
theorem w5_119 : (Jvm.Cond.static ({ cls := "StandingsHallLaw", name := "rank", desc := "(LStandingsHall;II[J)I" } : Jvm.MethodName)) ∈ lw_tbl := z_in5 (List.mem_of_getElem? (i := 119) rfl)
theorem w5_133 : (Jvm.Cond.codeWith ({ cls := "StandingsHallLaw", name := "alike", desc := "(LStandingsHall;I[J)I" } : Jvm.MethodName) method_15_code (4 : Nat) (Option.some Jvm.ClassFile.FieldType.int) [((0 : Nat), (9 : Nat), (12 : Nat), (25 : Nat))]) ∈ lw_tbl := z_in5 (List.mem_of_getElem? (i := 133) rfl)
theorem w5_132 : (Jvm.Cond.static ({ cls := "StandingsHallLaw", name := "alike", desc := "(LStandingsHall;I[J)I" } : Jvm.MethodName)) ∈ lw_tbl := z_in5 (List.mem_of_getElem? (i := 132) rfl)
theorem w5_141 : (Jvm.Cond.codeWith ({ cls := "StandingsHallLaw", name := "wouldGain", desc := "(LStandingsHall;III[J)I" } : Jvm.MethodName) method_16_code (6 : Nat) (Option.some Jvm.ClassFile.FieldType.int) [((0 : Nat), (12 : Nat), (15 : Nat), (25 : Nat)), ((0 : Nat), (12 : Nat), (19 : Nat), (19 : Nat))]) ∈ lw_tbl := z_in5 (List.mem_of_getElem? (i := 141) rfl)
theorem w5_140 : (Jvm.Cond.static ({ cls := "StandingsHallLaw", name := "wouldGain", desc := "(LStandingsHall;III[J)I" } : Jvm.MethodName)) ∈ lw_tbl := z_in5 (List.mem_of_getElem? (i := 140) rfl)
theorem w5_148 : (Jvm.Cond.codeWith ({ cls := "StandingsHallLaw", name := "needed", desc := "(LStandingsHall;II[J)I" } : Jvm.MethodName) method_17_code (5 : Nat) (Option.some Jvm.ClassFile.FieldType.int) [((0 : Nat), (10 : Nat), (13 : Nat), (25 : Nat)), ((0 : Nat), (10 : Nat), (17 : Nat), (19 : Nat))]) ∈ lw_tbl := z_in5 (List.mem_of_getElem? (i := 148) rfl)
theorem w5_147 : (Jvm.Cond.static ({ cls := "StandingsHallLaw", name := "needed", desc := "(LStandingsHall;II[J)I" } : Jvm.MethodName)) ∈ lw_tbl := z_in5 (List.mem_of_getElem? (i := 147) rfl)
theorem w5_166 : (Jvm.Cond.codeWith ({ cls := "StandingsHallLaw", name := "next", desc := "(LStandingsHall;I[J)I" } : Jvm.MethodName) method_18_code (4 : Nat) (Option.some Jvm.ClassFile.FieldType.int) [((0 : Nat), (9 : Nat), (12 : Nat), (68 : Nat))]) ∈ lw_tbl := z_in5 (List.mem_of_getElem? (i := 166) rfl)
theorem w5_165 : (Jvm.Cond.static ({ cls := "StandingsHallLaw", name := "next", desc := "(LStandingsHall;I[J)I" } : Jvm.MethodName)) ∈ lw_tbl := z_in5 (List.mem_of_getElem? (i := 165) rfl)
theorem w5_190 : (Jvm.Cond.codeWith ({ cls := "StandingsHallLaw", name := "between", desc := "(LStandingsHall;II[J)I" } : Jvm.MethodName) method_19_code (5 : Nat) (Option.some Jvm.ClassFile.FieldType.int) [((0 : Nat), (10 : Nat), (13 : Nat), (19 : Nat))]) ∈ lw_tbl := z_in5 (List.mem_of_getElem? (i := 190) rfl)
theorem w5_189 : (Jvm.Cond.static ({ cls := "StandingsHallLaw", name := "between", desc := "(LStandingsHall;II[J)I" } : Jvm.MethodName)) ∈ lw_tbl := z_in5 (List.mem_of_getElem? (i := 189) rfl)
theorem w5_198 : (Jvm.Cond.codeWith ({ cls := "StandingsHallLaw", name := "median", desc := "(LStandingsHall;Z[J)I" } : Jvm.MethodName) method_20_code (4 : Nat) (Option.some Jvm.ClassFile.FieldType.int) [((0 : Nat), (9 : Nat), (12 : Nat), (68 : Nat))]) ∈ lw_tbl := z_in5 (List.mem_of_getElem? (i := 198) rfl)
theorem w5_197 : (Jvm.Cond.static ({ cls := "StandingsHallLaw", name := "median", desc := "(LStandingsHall;Z[J)I" } : Jvm.MethodName)) ∈ lw_tbl := z_in5 (List.mem_of_getElem? (i := 197) rfl)
theorem w5_210 : (Jvm.Cond.codeWith ({ cls := "StandingsHallLaw", name := "quantile", desc := "(LStandingsHall;II[J)I" } : Jvm.MethodName) method_21_code (5 : Nat) (Option.some Jvm.ClassFile.FieldType.int) [((0 : Nat), (10 : Nat), (13 : Nat), (19 : Nat)), ((0 : Nat), (10 : Nat), (17 : Nat), (68 : Nat))]) ∈ lw_tbl := z_in5 (List.mem_of_getElem? (i := 210) rfl)
theorem w5_209 : (Jvm.Cond.static ({ cls := "StandingsHallLaw", name := "quantile", desc := "(LStandingsHall;II[J)I" } : Jvm.MethodName)) ∈ lw_tbl := z_in5 (List.mem_of_getElem? (i := 209) rfl)
theorem w5_219 : (Jvm.Cond.codeWith ({ cls := "StandingsHallLaw", name := "enter", desc := "(LStandingsHall;I[J)I" } : Jvm.MethodName) method_22_code (4 : Nat) (Option.some Jvm.ClassFile.FieldType.int) [((0 : Nat), (9 : Nat), (12 : Nat), (25 : Nat)), ((0 : Nat), (9 : Nat), (15 : Nat), (13 : Nat))]) ∈ lw_tbl := z_in5 (List.mem_of_getElem? (i := 219) rfl)
theorem w5_218 : (Jvm.Cond.static ({ cls := "StandingsHallLaw", name := "enter", desc := "(LStandingsHall;I[J)I" } : Jvm.MethodName)) ∈ lw_tbl := z_in5 (List.mem_of_getElem? (i := 218) rfl)
theorem w5_233 : (Jvm.Cond.codeWith ({ cls := "StandingsHallLaw", name := "challenge", desc := "(LStandingsHall;IIZ[J)I" } : Jvm.MethodName) method_23_code (6 : Nat) (Option.some Jvm.ClassFile.FieldType.int) [((0 : Nat), (12 : Nat), (15 : Nat), (25 : Nat)), ((0 : Nat), (12 : Nat), (19 : Nat), (13 : Nat))]) ∈ lw_tbl := z_in5 (List.mem_of_getElem? (i := 233) rfl)
theorem w5_232 : (Jvm.Cond.static ({ cls := "StandingsHallLaw", name := "challenge", desc := "(LStandingsHall;IIZ[J)I" } : Jvm.MethodName)) ∈ lw_tbl := z_in5 (List.mem_of_getElem? (i := 232) rfl)
theorem w6_7 : (Jvm.Cond.codeWith ({ cls := "StandingsHallLaw", name := "mayChallenge", desc := "(LStandingsHall;I[J)I" } : Jvm.MethodName) method_24_code (4 : Nat) (Option.some Jvm.ClassFile.FieldType.int) [((0 : Nat), (9 : Nat), (12 : Nat), (25 : Nat))]) ∈ lw_tbl := z_in6 (List.mem_of_getElem? (i := 7) rfl)
theorem w6_6 : (Jvm.Cond.static ({ cls := "StandingsHallLaw", name := "mayChallenge", desc := "(LStandingsHall;I[J)I" } : Jvm.MethodName)) ∈ lw_tbl := z_in6 (List.mem_of_getElem? (i := 6) rfl)
theorem w6_14 : (Jvm.Cond.codeWith ({ cls := "StandingsHallLaw", name := "setReach", desc := "(LStandingsHall;I[J)I" } : Jvm.MethodName) method_25_code (4 : Nat) (Option.some Jvm.ClassFile.FieldType.int) [((0 : Nat), (9 : Nat), (12 : Nat), (19 : Nat))]) ∈ lw_tbl := z_in6 (List.mem_of_getElem? (i := 14) rfl)
theorem w6_13 : (Jvm.Cond.static ({ cls := "StandingsHallLaw", name := "setReach", desc := "(LStandingsHall;I[J)I" } : Jvm.MethodName)) ∈ lw_tbl := z_in6 (List.mem_of_getElem? (i := 13) rfl)
theorem w6_22 : (Jvm.Cond.codeWith ({ cls := "StandingsHallLaw", name := "setPatience", desc := "(LStandingsHall;I[J)I" } : Jvm.MethodName) method_26_code (4 : Nat) (Option.some Jvm.ClassFile.FieldType.int) [((0 : Nat), (9 : Nat), (12 : Nat), (19 : Nat))]) ∈ lw_tbl := z_in6 (List.mem_of_getElem? (i := 22) rfl)
theorem w6_21 : (Jvm.Cond.static ({ cls := "StandingsHallLaw", name := "setPatience", desc := "(LStandingsHall;I[J)I" } : Jvm.MethodName)) ∈ lw_tbl := z_in6 (List.mem_of_getElem? (i := 21) rfl)
theorem w6_30 : (Jvm.Cond.codeWith ({ cls := "StandingsHallLaw", name := "ladderAt", desc := "(LStandingsHall;I[J)I" } : Jvm.MethodName) method_27_code (4 : Nat) (Option.some Jvm.ClassFile.FieldType.int) [((0 : Nat), (9 : Nat), (12 : Nat), (25 : Nat))]) ∈ lw_tbl := z_in6 (List.mem_of_getElem? (i := 30) rfl)
theorem w6_29 : (Jvm.Cond.static ({ cls := "StandingsHallLaw", name := "ladderAt", desc := "(LStandingsHall;I[J)I" } : Jvm.MethodName)) ∈ lw_tbl := z_in6 (List.mem_of_getElem? (i := 29) rfl)
theorem w6_37 : (Jvm.Cond.codeWith ({ cls := "StandingsHallLaw", name := "ladderPlace", desc := "(LStandingsHall;I[J)I" } : Jvm.MethodName) method_28_code (4 : Nat) (Option.some Jvm.ClassFile.FieldType.int) [((0 : Nat), (9 : Nat), (12 : Nat), (25 : Nat))]) ∈ lw_tbl := z_in6 (List.mem_of_getElem? (i := 37) rfl)
theorem w6_36 : (Jvm.Cond.static ({ cls := "StandingsHallLaw", name := "ladderPlace", desc := "(LStandingsHall;I[J)I" } : Jvm.MethodName)) ∈ lw_tbl := z_in6 (List.mem_of_getElem? (i := 36) rfl)
theorem w6_44 : (Jvm.Cond.codeWith ({ cls := "StandingsHallLaw", name := "endRound", desc := "(LStandingsHall;[J)I" } : Jvm.MethodName) method_29_code (3 : Nat) (Option.some Jvm.ClassFile.FieldType.int) [((0 : Nat), (8 : Nat), (11 : Nat), (13 : Nat))]) ∈ lw_tbl := z_in6 (List.mem_of_getElem? (i := 44) rfl)
theorem w6_43 : (Jvm.Cond.static ({ cls := "StandingsHallLaw", name := "endRound", desc := "(LStandingsHall;[J)I" } : Jvm.MethodName)) ∈ lw_tbl := z_in6 (List.mem_of_getElem? (i := 43) rfl)
theorem w6_67 : (Jvm.Cond.codeWith ({ cls := "StandingsHallLaw", name := "gain", desc := "(LStandingsHall;I[J)I" } : Jvm.MethodName) method_30_code (4 : Nat) (Option.some Jvm.ClassFile.FieldType.int) [((0 : Nat), (9 : Nat), (12 : Nat), (25 : Nat))]) ∈ lw_tbl := z_in6 (List.mem_of_getElem? (i := 67) rfl)
theorem w6_66 : (Jvm.Cond.static ({ cls := "StandingsHallLaw", name := "gain", desc := "(LStandingsHall;I[J)I" } : Jvm.MethodName)) ∈ lw_tbl := z_in6 (List.mem_of_getElem? (i := 66) rfl)
theorem w6_74 : (Jvm.Cond.codeWith ({ cls := "StandingsHallLaw", name := "form", desc := "(LStandingsHall;III[J)I" } : Jvm.MethodName) method_31_code (6 : Nat) (Option.some Jvm.ClassFile.FieldType.int) [((0 : Nat), (12 : Nat), (15 : Nat), (25 : Nat)), ((0 : Nat), (12 : Nat), (19 : Nat), (19 : Nat))]) ∈ lw_tbl := z_in6 (List.mem_of_getElem? (i := 74) rfl)
theorem w6_73 : (Jvm.Cond.static ({ cls := "StandingsHallLaw", name := "form", desc := "(LStandingsHall;III[J)I" } : Jvm.MethodName)) ∈ lw_tbl := z_in6 (List.mem_of_getElem? (i := 73) rfl)
theorem w6_94 : (Jvm.Cond.codeWith ({ cls := "StandingsHallLaw", name := "inForm", desc := "(LStandingsHall;II[J)I" } : Jvm.MethodName) method_32_code (5 : Nat) (Option.some Jvm.ClassFile.FieldType.int) [((0 : Nat), (10 : Nat), (13 : Nat), (19 : Nat)), ((0 : Nat), (10 : Nat), (17 : Nat), (68 : Nat))]) ∈ lw_tbl := z_in6 (List.mem_of_getElem? (i := 94) rfl)
theorem w6_93 : (Jvm.Cond.static ({ cls := "StandingsHallLaw", name := "inForm", desc := "(LStandingsHall;II[J)I" } : Jvm.MethodName)) ∈ lw_tbl := z_in6 (List.mem_of_getElem? (i := 93) rfl)
theorem w6_101 : (Jvm.Cond.codeWith ({ cls := "StandingsHallLaw", name := "placeThen", desc := "(LStandingsHall;II[J)I" } : Jvm.MethodName) method_33_code (5 : Nat) (Option.some Jvm.ClassFile.FieldType.int) [((0 : Nat), (10 : Nat), (13 : Nat), (68 : Nat)), ((0 : Nat), (10 : Nat), (17 : Nat), (19 : Nat))]) ∈ lw_tbl := z_in6 (List.mem_of_getElem? (i := 101) rfl)
theorem w6_100 : (Jvm.Cond.static ({ cls := "StandingsHallLaw", name := "placeThen", desc := "(LStandingsHall;II[J)I" } : Jvm.MethodName)) ∈ lw_tbl := z_in6 (List.mem_of_getElem? (i := 100) rfl)
theorem w6_118 : (Jvm.Cond.codeWith ({ cls := "StandingsHallLaw", name := "climb", desc := "(LStandingsHall;I[J)I" } : Jvm.MethodName) method_34_code (4 : Nat) (Option.some Jvm.ClassFile.FieldType.int) [((0 : Nat), (9 : Nat), (12 : Nat), (68 : Nat))]) ∈ lw_tbl := z_in6 (List.mem_of_getElem? (i := 118) rfl)
theorem w6_117 : (Jvm.Cond.static ({ cls := "StandingsHallLaw", name := "climb", desc := "(LStandingsHall;I[J)I" } : Jvm.MethodName)) ∈ lw_tbl := z_in6 (List.mem_of_getElem? (i := 117) rfl)
theorem w6_125 : (Jvm.Cond.codeWith ({ cls := "StandingsHallLaw", name := "best", desc := "(LStandingsHall;I[J)I" } : Jvm.MethodName) method_35_code (4 : Nat) (Option.some Jvm.ClassFile.FieldType.int) [((0 : Nat), (9 : Nat), (12 : Nat), (19 : Nat))]) ∈ lw_tbl := z_in6 (List.mem_of_getElem? (i := 125) rfl)
theorem w6_124 : (Jvm.Cond.static ({ cls := "StandingsHallLaw", name := "best", desc := "(LStandingsHall;I[J)I" } : Jvm.MethodName)) ∈ lw_tbl := z_in6 (List.mem_of_getElem? (i := 124) rfl)
theorem w6_136 : (Jvm.Cond.codeWith ({ cls := "StandingsHallLaw", name := "members", desc := "(LStandingsHall;I[J)I" } : Jvm.MethodName) method_36_code (4 : Nat) (Option.some Jvm.ClassFile.FieldType.int) [((0 : Nat), (9 : Nat), (12 : Nat), (19 : Nat))]) ∈ lw_tbl := z_in6 (List.mem_of_getElem? (i := 136) rfl)
theorem w6_135 : (Jvm.Cond.static ({ cls := "StandingsHallLaw", name := "members", desc := "(LStandingsHall;I[J)I" } : Jvm.MethodName)) ∈ lw_tbl := z_in6 (List.mem_of_getElem? (i := 135) rfl)
theorem w6_147 : (Jvm.Cond.codeWith ({ cls := "StandingsHallLaw", name := "teamScore", desc := "(LStandingsHall;I[J)I" } : Jvm.MethodName) method_37_code (4 : Nat) (Option.some Jvm.ClassFile.FieldType.int) [((0 : Nat), (9 : Nat), (12 : Nat), (19 : Nat))]) ∈ lw_tbl := z_in6 (List.mem_of_getElem? (i := 147) rfl)
theorem w6_146 : (Jvm.Cond.static ({ cls := "StandingsHallLaw", name := "teamScore", desc := "(LStandingsHall;I[J)I" } : Jvm.MethodName)) ∈ lw_tbl := z_in6 (List.mem_of_getElem? (i := 146) rfl)
theorem w6_158 : (Jvm.Cond.codeWith ({ cls := "StandingsHallLaw", name := "groupAt", desc := "(LStandingsHall;I[J)I" } : Jvm.MethodName) method_38_code (4 : Nat) (Option.some Jvm.ClassFile.FieldType.int) [((0 : Nat), (9 : Nat), (12 : Nat), (25 : Nat))]) ∈ lw_tbl := z_in6 (List.mem_of_getElem? (i := 158) rfl)
theorem w6_157 : (Jvm.Cond.static ({ cls := "StandingsHallLaw", name := "groupAt", desc := "(LStandingsHall;I[J)I" } : Jvm.MethodName)) ∈ lw_tbl := z_in6 (List.mem_of_getElem? (i := 157) rfl)
theorem w6_173 : (Jvm.Cond.codeWith ({ cls := "StandingsHallLaw", name := "inversions", desc := "(LStandingsHall;II[J)I" } : Jvm.MethodName) method_39_code (5 : Nat) (Option.some Jvm.ClassFile.FieldType.int) [((0 : Nat), (10 : Nat), (13 : Nat), (68 : Nat))]) ∈ lw_tbl := z_in6 (List.mem_of_getElem? (i := 173) rfl)
theorem w6_172 : (Jvm.Cond.static ({ cls := "StandingsHallLaw", name := "inversions", desc := "(LStandingsHall;II[J)I" } : Jvm.MethodName)) ∈ lw_tbl := z_in6 (List.mem_of_getElem? (i := 172) rfl)
theorem w6_193 : (Jvm.Cond.codeWith ({ cls := "StandingsHallLaw", name := "swaps", desc := "(LStandingsHall;II[J)I" } : Jvm.MethodName) method_40_code (5 : Nat) (Option.some Jvm.ClassFile.FieldType.int) [((0 : Nat), (10 : Nat), (13 : Nat), (68 : Nat))]) ∈ lw_tbl := z_in6 (List.mem_of_getElem? (i := 193) rfl)
theorem w6_192 : (Jvm.Cond.static ({ cls := "StandingsHallLaw", name := "swaps", desc := "(LStandingsHall;II[J)I" } : Jvm.MethodName)) ∈ lw_tbl := z_in6 (List.mem_of_getElem? (i := 192) rfl)
theorem w6_204 : (Jvm.Cond.codeWith ({ cls := "StandingsHallLaw", name := "beats", desc := "(LStandingsHall;I[D)I" } : Jvm.MethodName) method_41_code (4 : Nat) (Option.some Jvm.ClassFile.FieldType.int) [((0 : Nat), (9 : Nat), (12 : Nat), (25 : Nat))]) ∈ lw_tbl := z_in6 (List.mem_of_getElem? (i := 204) rfl)
theorem w6_203 : (Jvm.Cond.static ({ cls := "StandingsHallLaw", name := "beats", desc := "(LStandingsHall;I[D)I" } : Jvm.MethodName)) ∈ lw_tbl := z_in6 (List.mem_of_getElem? (i := 203) rfl)
theorem w2_214 : (Jvm.Cond.methodLink "StandingsHallLaw" (7 : Nat) ({ cls := "StandingsHall", name := "append", desc := "(IIIII)I" } : Jvm.MethodName)) ∈ lw_tbl := z_in2 (List.mem_of_getElem? (i := 214) rfl)
theorem w3_59 : (Jvm.Cond.methodLink "StandingsHallLaw" (15 : Nat) ({ cls := "StandingsHall", name := "setOrder", desc := "()I" } : Jvm.MethodName)) ∈ lw_tbl := z_in3 (List.mem_of_getElem? (i := 59) rfl)
theorem w4_220 : (Jvm.Cond.methodLink "StandingsHallLaw" (21 : Nat) ({ cls := "StandingsHall", name := "criterion", desc := "(II)I" } : Jvm.MethodName)) ∈ lw_tbl := z_in4 (List.mem_of_getElem? (i := 220) rfl)
theorem w4_236 : (Jvm.Cond.methodLink "StandingsHallLaw" (27 : Nat) ({ cls := "StandingsHall", name := "come", desc := "(I)I" } : Jvm.MethodName)) ∈ lw_tbl := z_in4 (List.mem_of_getElem? (i := 236) rfl)
theorem w5_23 : (Jvm.Cond.methodLink "StandingsHallLaw" (31 : Nat) ({ cls := "StandingsHall", name := "leave", desc := "(I)I" } : Jvm.MethodName)) ∈ lw_tbl := z_in5 (List.mem_of_getElem? (i := 23) rfl)
theorem w5_58 : (Jvm.Cond.methodLink "StandingsHallLaw" (34 : Nat) ({ cls := "StandingsHall", name := "score", desc := "(III)I" } : Jvm.MethodName)) ∈ lw_tbl := z_in5 (List.mem_of_getElem? (i := 58) rfl)
theorem w5_85 : (Jvm.Cond.methodLink "StandingsHallLaw" (38 : Nat) ({ cls := "StandingsHall", name := "setScore", desc := "(III)I" } : Jvm.MethodName)) ∈ lw_tbl := z_in5 (List.mem_of_getElem? (i := 85) rfl)
theorem w5_92 : (Jvm.Cond.methodLink "StandingsHallLaw" (41 : Nat) ({ cls := "StandingsHall", name := "scoreOf", desc := "(II)I" } : Jvm.MethodName)) ∈ lw_tbl := z_in5 (List.mem_of_getElem? (i := 92) rfl)
theorem w5_99 : (Jvm.Cond.methodLink "StandingsHallLaw" (44 : Nat) ({ cls := "StandingsHall", name := "groupOf", desc := "(I)I" } : Jvm.MethodName)) ∈ lw_tbl := z_in5 (List.mem_of_getElem? (i := 99) rfl)
theorem w5_106 : (Jvm.Cond.methodLink "StandingsHallLaw" (47 : Nat) ({ cls := "StandingsHall", name := "at", desc := "(I)I" } : Jvm.MethodName)) ∈ lw_tbl := z_in5 (List.mem_of_getElem? (i := 106) rfl)
theorem w5_114 : (Jvm.Cond.methodLink "StandingsHallLaw" (50 : Nat) ({ cls := "StandingsHall", name := "place", desc := "(I)I" } : Jvm.MethodName)) ∈ lw_tbl := z_in5 (List.mem_of_getElem? (i := 114) rfl)
theorem w5_121 : (Jvm.Cond.methodLink "StandingsHallLaw" (53 : Nat) ({ cls := "StandingsHall", name := "rank", desc := "(II)I" } : Jvm.MethodName)) ∈ lw_tbl := z_in5 (List.mem_of_getElem? (i := 121) rfl)
theorem w5_134 : (Jvm.Cond.methodLink "StandingsHallLaw" (56 : Nat) ({ cls := "StandingsHall", name := "alike", desc := "(I)I" } : Jvm.MethodName)) ∈ lw_tbl := z_in5 (List.mem_of_getElem? (i := 134) rfl)
theorem w5_142 : (Jvm.Cond.methodLink "StandingsHallLaw" (59 : Nat) ({ cls := "StandingsHall", name := "wouldGain", desc := "(III)I" } : Jvm.MethodName)) ∈ lw_tbl := z_in5 (List.mem_of_getElem? (i := 142) rfl)
theorem w5_149 : (Jvm.Cond.methodLink "StandingsHallLaw" (62 : Nat) ({ cls := "StandingsHall", name := "needed", desc := "(II)I" } : Jvm.MethodName)) ∈ lw_tbl := z_in5 (List.mem_of_getElem? (i := 149) rfl)
theorem w5_168 : (Jvm.Cond.methodLink "StandingsHallLaw" (65 : Nat) ({ cls := "StandingsHall", name := "next", desc := "(I)I" } : Jvm.MethodName)) ∈ lw_tbl := z_in5 (List.mem_of_getElem? (i := 168) rfl)
theorem w5_191 : (Jvm.Cond.methodLink "StandingsHallLaw" (70 : Nat) ({ cls := "StandingsHall", name := "between", desc := "(II)I" } : Jvm.MethodName)) ∈ lw_tbl := z_in5 (List.mem_of_getElem? (i := 191) rfl)
theorem w5_199 : (Jvm.Cond.methodLink "StandingsHallLaw" (73 : Nat) ({ cls := "StandingsHall", name := "median", desc := "(Z)I" } : Jvm.MethodName)) ∈ lw_tbl := z_in5 (List.mem_of_getElem? (i := 199) rfl)
theorem w5_211 : (Jvm.Cond.methodLink "StandingsHallLaw" (77 : Nat) ({ cls := "StandingsHall", name := "quantile", desc := "(II)I" } : Jvm.MethodName)) ∈ lw_tbl := z_in5 (List.mem_of_getElem? (i := 211) rfl)
theorem w5_220 : (Jvm.Cond.methodLink "StandingsHallLaw" (80 : Nat) ({ cls := "StandingsHall", name := "enter", desc := "(I)I" } : Jvm.MethodName)) ∈ lw_tbl := z_in5 (List.mem_of_getElem? (i := 220) rfl)
theorem w5_234 : (Jvm.Cond.methodLink "StandingsHallLaw" (83 : Nat) ({ cls := "StandingsHall", name := "challenge", desc := "(IIZ)I" } : Jvm.MethodName)) ∈ lw_tbl := z_in5 (List.mem_of_getElem? (i := 234) rfl)
theorem w6_8 : (Jvm.Cond.methodLink "StandingsHallLaw" (87 : Nat) ({ cls := "StandingsHall", name := "mayChallenge", desc := "(I)I" } : Jvm.MethodName)) ∈ lw_tbl := z_in6 (List.mem_of_getElem? (i := 8) rfl)
theorem w6_15 : (Jvm.Cond.methodLink "StandingsHallLaw" (90 : Nat) ({ cls := "StandingsHall", name := "setReach", desc := "(I)I" } : Jvm.MethodName)) ∈ lw_tbl := z_in6 (List.mem_of_getElem? (i := 15) rfl)
theorem w6_23 : (Jvm.Cond.methodLink "StandingsHallLaw" (93 : Nat) ({ cls := "StandingsHall", name := "setPatience", desc := "(I)I" } : Jvm.MethodName)) ∈ lw_tbl := z_in6 (List.mem_of_getElem? (i := 23) rfl)
theorem w6_31 : (Jvm.Cond.methodLink "StandingsHallLaw" (96 : Nat) ({ cls := "StandingsHall", name := "ladderAt", desc := "(I)I" } : Jvm.MethodName)) ∈ lw_tbl := z_in6 (List.mem_of_getElem? (i := 31) rfl)
theorem w6_38 : (Jvm.Cond.methodLink "StandingsHallLaw" (99 : Nat) ({ cls := "StandingsHall", name := "ladderPlace", desc := "(I)I" } : Jvm.MethodName)) ∈ lw_tbl := z_in6 (List.mem_of_getElem? (i := 38) rfl)
theorem w6_45 : (Jvm.Cond.methodLink "StandingsHallLaw" (102 : Nat) ({ cls := "StandingsHall", name := "endRound", desc := "()I" } : Jvm.MethodName)) ∈ lw_tbl := z_in6 (List.mem_of_getElem? (i := 45) rfl)
theorem w6_68 : (Jvm.Cond.methodLink "StandingsHallLaw" (105 : Nat) ({ cls := "StandingsHall", name := "gain", desc := "(I)I" } : Jvm.MethodName)) ∈ lw_tbl := z_in6 (List.mem_of_getElem? (i := 68) rfl)
theorem w6_75 : (Jvm.Cond.methodLink "StandingsHallLaw" (108 : Nat) ({ cls := "StandingsHall", name := "form", desc := "(III)I" } : Jvm.MethodName)) ∈ lw_tbl := z_in6 (List.mem_of_getElem? (i := 75) rfl)
theorem w6_95 : (Jvm.Cond.methodLink "StandingsHallLaw" (111 : Nat) ({ cls := "StandingsHall", name := "inForm", desc := "(II)I" } : Jvm.MethodName)) ∈ lw_tbl := z_in6 (List.mem_of_getElem? (i := 95) rfl)
theorem w6_102 : (Jvm.Cond.methodLink "StandingsHallLaw" (114 : Nat) ({ cls := "StandingsHall", name := "placeThen", desc := "(II)I" } : Jvm.MethodName)) ∈ lw_tbl := z_in6 (List.mem_of_getElem? (i := 102) rfl)
theorem w6_119 : (Jvm.Cond.methodLink "StandingsHallLaw" (117 : Nat) ({ cls := "StandingsHall", name := "climb", desc := "(I)I" } : Jvm.MethodName)) ∈ lw_tbl := z_in6 (List.mem_of_getElem? (i := 119) rfl)
theorem w6_126 : (Jvm.Cond.methodLink "StandingsHallLaw" (120 : Nat) ({ cls := "StandingsHall", name := "best", desc := "(I)I" } : Jvm.MethodName)) ∈ lw_tbl := z_in6 (List.mem_of_getElem? (i := 126) rfl)
theorem w6_137 : (Jvm.Cond.methodLink "StandingsHallLaw" (123 : Nat) ({ cls := "StandingsHall", name := "members", desc := "(I)I" } : Jvm.MethodName)) ∈ lw_tbl := z_in6 (List.mem_of_getElem? (i := 137) rfl)
theorem w6_148 : (Jvm.Cond.methodLink "StandingsHallLaw" (126 : Nat) ({ cls := "StandingsHall", name := "teamScore", desc := "(I)I" } : Jvm.MethodName)) ∈ lw_tbl := z_in6 (List.mem_of_getElem? (i := 148) rfl)
theorem w6_159 : (Jvm.Cond.methodLink "StandingsHallLaw" (129 : Nat) ({ cls := "StandingsHall", name := "groupAt", desc := "(I)I" } : Jvm.MethodName)) ∈ lw_tbl := z_in6 (List.mem_of_getElem? (i := 159) rfl)
theorem w6_174 : (Jvm.Cond.methodLink "StandingsHallLaw" (132 : Nat) ({ cls := "StandingsHall", name := "inversions", desc := "(II)I" } : Jvm.MethodName)) ∈ lw_tbl := z_in6 (List.mem_of_getElem? (i := 174) rfl)
theorem w6_194 : (Jvm.Cond.methodLink "StandingsHallLaw" (135 : Nat) ({ cls := "StandingsHall", name := "swaps", desc := "(II)I" } : Jvm.MethodName)) ∈ lw_tbl := z_in6 (List.mem_of_getElem? (i := 194) rfl)
theorem w6_205 : (Jvm.Cond.methodLink "StandingsHallLaw" (138 : Nat) ({ cls := "StandingsHall", name := "beats", desc := "(I)F" } : Jvm.MethodName)) ∈ lw_tbl := z_in6 (List.mem_of_getElem? (i := 205) rfl)
theorem w1_33 : (Jvm.Cond.classLink "StandingsHallLaw" (8 : Nat) "StandingsHall") ∈ lw_tbl := z_in1 (List.mem_of_getElem? (i := 33) rfl)
theorem w1_34 : (Jvm.Cond.instantiable "StandingsHall" (13 : Nat)) ∈ lw_tbl := z_in1 (List.mem_of_getElem? (i := 34) rfl)
theorem w1_35 : (Jvm.Cond.methodLink "StandingsHallLaw" (142 : Nat) ({ cls := "StandingsHall", name := "<init>", desc := "()V" } : Jvm.MethodName)) ∈ lw_tbl := z_in1 (List.mem_of_getElem? (i := 35) rfl)
theorem w6_217 : (Jvm.Cond.classLink "StandingsHallLaw" (143 : Nat) "StandingsHallModel") ∈ lw_tbl := z_in6 (List.mem_of_getElem? (i := 217) rfl)
theorem w6_218 : (Jvm.Cond.instantiable "StandingsHallModel" (32 : Nat)) ∈ lw_tbl := z_in6 (List.mem_of_getElem? (i := 218) rfl)
theorem w6_219 : (Jvm.Cond.methodLink "StandingsHallLaw" (145 : Nat) ({ cls := "StandingsHallModel", name := "<init>", desc := "()V" } : Jvm.MethodName)) ∈ lw_tbl := z_in6 (List.mem_of_getElem? (i := 219) rfl)
theorem w2_210 : (Jvm.Cond.methodLink "StandingsHallLaw" (146 : Nat) ({ cls := "StandingsHallLaw", name := "append", desc := "(LStandingsHall;IIIII[J)I" } : Jvm.MethodName)) ∈ lw_tbl := z_in2 (List.mem_of_getElem? (i := 210) rfl)
theorem w7_81 : (Jvm.Cond.methodLink "StandingsHallLaw" (151 : Nat) ({ cls := "StandingsHallModel", name := "append", desc := "(IIIII)I" } : Jvm.MethodName)) ∈ lw_tbl := z_in7 (List.mem_of_getElem? (i := 81) rfl)
theorem w6_213 : (Jvm.Cond.methodLink "StandingsHallLaw" (152 : Nat) ({ cls := "StandingsHallModel", name := "thrown", desc := "()I" } : Jvm.MethodName)) ∈ lw_tbl := z_in6 (List.mem_of_getElem? (i := 213) rfl)
theorem w2_39 : (Jvm.Cond.methodLink "StandingsHallLaw" (155 : Nat) ({ cls := "StandingsHall", name := "clearTape", desc := "()I" } : Jvm.MethodName)) ∈ lw_tbl := z_in2 (List.mem_of_getElem? (i := 39) rfl)
theorem w7_96 : (Jvm.Cond.methodLink "StandingsHallLaw" (158 : Nat) ({ cls := "StandingsHallModel", name := "clearTape", desc := "()I" } : Jvm.MethodName)) ∈ lw_tbl := z_in7 (List.mem_of_getElem? (i := 96) rfl)
theorem w3_55 : (Jvm.Cond.methodLink "StandingsHallLaw" (159 : Nat) ({ cls := "StandingsHallLaw", name := "setOrder", desc := "(LStandingsHall;[J)I" } : Jvm.MethodName)) ∈ lw_tbl := z_in3 (List.mem_of_getElem? (i := 55) rfl)
theorem w7_100 : (Jvm.Cond.methodLink "StandingsHallLaw" (162 : Nat) ({ cls := "StandingsHallModel", name := "setOrder", desc := "()I" } : Jvm.MethodName)) ∈ lw_tbl := z_in7 (List.mem_of_getElem? (i := 100) rfl)
theorem w2_43 : (Jvm.Cond.methodLink "StandingsHallLaw" (163 : Nat) ({ cls := "StandingsHall", name := "errorPosition", desc := "()I" } : Jvm.MethodName)) ∈ lw_tbl := z_in2 (List.mem_of_getElem? (i := 43) rfl)
theorem w7_130 : (Jvm.Cond.methodLink "StandingsHallLaw" (166 : Nat) ({ cls := "StandingsHallModel", name := "errorPosition", desc := "()I" } : Jvm.MethodName)) ∈ lw_tbl := z_in7 (List.mem_of_getElem? (i := 130) rfl)
theorem w4_216 : (Jvm.Cond.methodLink "StandingsHallLaw" (167 : Nat) ({ cls := "StandingsHallLaw", name := "criterion", desc := "(LStandingsHall;II[J)I" } : Jvm.MethodName)) ∈ lw_tbl := z_in4 (List.mem_of_getElem? (i := 216) rfl)
theorem w7_134 : (Jvm.Cond.methodLink "StandingsHallLaw" (170 : Nat) ({ cls := "StandingsHallModel", name := "criterion", desc := "(II)I" } : Jvm.MethodName)) ∈ lw_tbl := z_in7 (List.mem_of_getElem? (i := 134) rfl)
theorem w4_233 : (Jvm.Cond.methodLink "StandingsHallLaw" (171 : Nat) ({ cls := "StandingsHallLaw", name := "come", desc := "(LStandingsHall;I[J)I" } : Jvm.MethodName)) ∈ lw_tbl := z_in4 (List.mem_of_getElem? (i := 233) rfl)
theorem w7_146 : (Jvm.Cond.methodLink "StandingsHallLaw" (174 : Nat) ({ cls := "StandingsHallModel", name := "come", desc := "(I)I" } : Jvm.MethodName)) ∈ lw_tbl := z_in7 (List.mem_of_getElem? (i := 146) rfl)
theorem w5_20 : (Jvm.Cond.methodLink "StandingsHallLaw" (175 : Nat) ({ cls := "StandingsHallLaw", name := "leave", desc := "(LStandingsHall;I[J)I" } : Jvm.MethodName)) ∈ lw_tbl := z_in5 (List.mem_of_getElem? (i := 20) rfl)
theorem w7_154 : (Jvm.Cond.methodLink "StandingsHallLaw" (177 : Nat) ({ cls := "StandingsHallModel", name := "leave", desc := "(I)I" } : Jvm.MethodName)) ∈ lw_tbl := z_in7 (List.mem_of_getElem? (i := 154) rfl)
theorem w5_55 : (Jvm.Cond.methodLink "StandingsHallLaw" (178 : Nat) ({ cls := "StandingsHallLaw", name := "score", desc := "(LStandingsHall;III[J)I" } : Jvm.MethodName)) ∈ lw_tbl := z_in5 (List.mem_of_getElem? (i := 55) rfl)
theorem w7_174 : (Jvm.Cond.methodLink "StandingsHallLaw" (181 : Nat) ({ cls := "StandingsHallModel", name := "score", desc := "(III)I" } : Jvm.MethodName)) ∈ lw_tbl := z_in7 (List.mem_of_getElem? (i := 174) rfl)
theorem w5_82 : (Jvm.Cond.methodLink "StandingsHallLaw" (182 : Nat) ({ cls := "StandingsHallLaw", name := "setScore", desc := "(LStandingsHall;III[J)I" } : Jvm.MethodName)) ∈ lw_tbl := z_in5 (List.mem_of_getElem? (i := 82) rfl)
theorem w7_191 : (Jvm.Cond.methodLink "StandingsHallLaw" (184 : Nat) ({ cls := "StandingsHallModel", name := "setScore", desc := "(III)I" } : Jvm.MethodName)) ∈ lw_tbl := z_in7 (List.mem_of_getElem? (i := 191) rfl)
theorem w5_89 : (Jvm.Cond.methodLink "StandingsHallLaw" (185 : Nat) ({ cls := "StandingsHallLaw", name := "scoreOf", desc := "(LStandingsHall;II[J)I" } : Jvm.MethodName)) ∈ lw_tbl := z_in5 (List.mem_of_getElem? (i := 89) rfl)
theorem w7_195 : (Jvm.Cond.methodLink "StandingsHallLaw" (187 : Nat) ({ cls := "StandingsHallModel", name := "scoreOf", desc := "(II)I" } : Jvm.MethodName)) ∈ lw_tbl := z_in7 (List.mem_of_getElem? (i := 195) rfl)
theorem w5_96 : (Jvm.Cond.methodLink "StandingsHallLaw" (188 : Nat) ({ cls := "StandingsHallLaw", name := "groupOf", desc := "(LStandingsHall;I[J)I" } : Jvm.MethodName)) ∈ lw_tbl := z_in5 (List.mem_of_getElem? (i := 96) rfl)
theorem w7_199 : (Jvm.Cond.methodLink "StandingsHallLaw" (190 : Nat) ({ cls := "StandingsHallModel", name := "groupOf", desc := "(I)I" } : Jvm.MethodName)) ∈ lw_tbl := z_in7 (List.mem_of_getElem? (i := 199) rfl)
theorem w2_47 : (Jvm.Cond.methodLink "StandingsHallLaw" (191 : Nat) ({ cls := "StandingsHall", name := "entrants", desc := "()I" } : Jvm.MethodName)) ∈ lw_tbl := z_in2 (List.mem_of_getElem? (i := 47) rfl)
theorem w7_203 : (Jvm.Cond.methodLink "StandingsHallLaw" (194 : Nat) ({ cls := "StandingsHallModel", name := "entrants", desc := "()I" } : Jvm.MethodName)) ∈ lw_tbl := z_in7 (List.mem_of_getElem? (i := 203) rfl)
theorem w5_103 : (Jvm.Cond.methodLink "StandingsHallLaw" (195 : Nat) ({ cls := "StandingsHallLaw", name := "at", desc := "(LStandingsHall;I[J)I" } : Jvm.MethodName)) ∈ lw_tbl := z_in5 (List.mem_of_getElem? (i := 103) rfl)
theorem w7_211 : (Jvm.Cond.methodLink "StandingsHallLaw" (197 : Nat) ({ cls := "StandingsHallModel", name := "at", desc := "(I)I" } : Jvm.MethodName)) ∈ lw_tbl := z_in7 (List.mem_of_getElem? (i := 211) rfl)
theorem w5_111 : (Jvm.Cond.methodLink "StandingsHallLaw" (198 : Nat) ({ cls := "StandingsHallLaw", name := "place", desc := "(LStandingsHall;I[J)I" } : Jvm.MethodName)) ∈ lw_tbl := z_in5 (List.mem_of_getElem? (i := 111) rfl)
theorem w7_219 : (Jvm.Cond.methodLink "StandingsHallLaw" (200 : Nat) ({ cls := "StandingsHallModel", name := "place", desc := "(I)I" } : Jvm.MethodName)) ∈ lw_tbl := z_in7 (List.mem_of_getElem? (i := 219) rfl)
theorem w5_118 : (Jvm.Cond.methodLink "StandingsHallLaw" (201 : Nat) ({ cls := "StandingsHallLaw", name := "rank", desc := "(LStandingsHall;II[J)I" } : Jvm.MethodName)) ∈ lw_tbl := z_in5 (List.mem_of_getElem? (i := 118) rfl)
theorem w7_223 : (Jvm.Cond.methodLink "StandingsHallLaw" (203 : Nat) ({ cls := "StandingsHallModel", name := "rank", desc := "(II)I" } : Jvm.MethodName)) ∈ lw_tbl := z_in7 (List.mem_of_getElem? (i := 223) rfl)
theorem w5_131 : (Jvm.Cond.methodLink "StandingsHallLaw" (204 : Nat) ({ cls := "StandingsHallLaw", name := "alike", desc := "(LStandingsHall;I[J)I" } : Jvm.MethodName)) ∈ lw_tbl := z_in5 (List.mem_of_getElem? (i := 131) rfl)
theorem w8_3 : (Jvm.Cond.methodLink "StandingsHallLaw" (206 : Nat) ({ cls := "StandingsHallModel", name := "alike", desc := "(I)I" } : Jvm.MethodName)) ∈ lw_tbl := z_in8 (List.mem_of_getElem? (i := 3) rfl)
theorem w2_55 : (Jvm.Cond.methodLink "StandingsHallLaw" (207 : Nat) ({ cls := "StandingsHall", name := "results", desc := "()I" } : Jvm.MethodName)) ∈ lw_tbl := z_in2 (List.mem_of_getElem? (i := 55) rfl)
theorem w8_7 : (Jvm.Cond.methodLink "StandingsHallLaw" (210 : Nat) ({ cls := "StandingsHallModel", name := "results", desc := "()I" } : Jvm.MethodName)) ∈ lw_tbl := z_in8 (List.mem_of_getElem? (i := 7) rfl)
theorem w2_91 : (Jvm.Cond.methodLink "StandingsHallLaw" (211 : Nat) ({ cls := "StandingsHall", name := "rankSum", desc := "()I" } : Jvm.MethodName)) ∈ lw_tbl := z_in2 (List.mem_of_getElem? (i := 91) rfl)
theorem w8_11 : (Jvm.Cond.methodLink "StandingsHallLaw" (214 : Nat) ({ cls := "StandingsHallModel", name := "rankSum", desc := "()I" } : Jvm.MethodName)) ∈ lw_tbl := z_in8 (List.mem_of_getElem? (i := 11) rfl)
theorem w5_139 : (Jvm.Cond.methodLink "StandingsHallLaw" (215 : Nat) ({ cls := "StandingsHallLaw", name := "wouldGain", desc := "(LStandingsHall;III[J)I" } : Jvm.MethodName)) ∈ lw_tbl := z_in5 (List.mem_of_getElem? (i := 139) rfl)
theorem w8_15 : (Jvm.Cond.methodLink "StandingsHallLaw" (217 : Nat) ({ cls := "StandingsHallModel", name := "wouldGain", desc := "(III)I" } : Jvm.MethodName)) ∈ lw_tbl := z_in8 (List.mem_of_getElem? (i := 15) rfl)
theorem w5_146 : (Jvm.Cond.methodLink "StandingsHallLaw" (218 : Nat) ({ cls := "StandingsHallLaw", name := "needed", desc := "(LStandingsHall;II[J)I" } : Jvm.MethodName)) ∈ lw_tbl := z_in5 (List.mem_of_getElem? (i := 146) rfl)
theorem w8_19 : (Jvm.Cond.methodLink "StandingsHallLaw" (220 : Nat) ({ cls := "StandingsHallModel", name := "needed", desc := "(II)I" } : Jvm.MethodName)) ∈ lw_tbl := z_in8 (List.mem_of_getElem? (i := 19) rfl)
theorem w2_109 : (Jvm.Cond.methodLink "StandingsHallLaw" (221 : Nat) ({ cls := "StandingsHall", name := "above", desc := "(I)I" } : Jvm.MethodName)) ∈ lw_tbl := z_in2 (List.mem_of_getElem? (i := 109) rfl)
theorem w8_24 : (Jvm.Cond.methodLink "StandingsHallLaw" (224 : Nat) ({ cls := "StandingsHallModel", name := "above", desc := "(I)I" } : Jvm.MethodName)) ∈ lw_tbl := z_in8 (List.mem_of_getElem? (i := 24) rfl)
theorem w2_124 : (Jvm.Cond.methodLink "StandingsHallLaw" (225 : Nat) ({ cls := "StandingsHall", name := "with", desc := "(I)I" } : Jvm.MethodName)) ∈ lw_tbl := z_in2 (List.mem_of_getElem? (i := 124) rfl)
theorem w8_32 : (Jvm.Cond.methodLink "StandingsHallLaw" (228 : Nat) ({ cls := "StandingsHallModel", name := "with", desc := "(I)I" } : Jvm.MethodName)) ∈ lw_tbl := z_in8 (List.mem_of_getElem? (i := 32) rfl)
theorem w2_132 : (Jvm.Cond.methodLink "StandingsHallLaw" (229 : Nat) ({ cls := "StandingsHall", name := "withAt", desc := "(II)I" } : Jvm.MethodName)) ∈ lw_tbl := z_in2 (List.mem_of_getElem? (i := 132) rfl)
theorem w8_36 : (Jvm.Cond.methodLink "StandingsHallLaw" (232 : Nat) ({ cls := "StandingsHallModel", name := "withAt", desc := "(II)I" } : Jvm.MethodName)) ∈ lw_tbl := z_in8 (List.mem_of_getElem? (i := 36) rfl)
theorem w5_164 : (Jvm.Cond.methodLink "StandingsHallLaw" (233 : Nat) ({ cls := "StandingsHallLaw", name := "next", desc := "(LStandingsHall;I[J)I" } : Jvm.MethodName)) ∈ lw_tbl := z_in5 (List.mem_of_getElem? (i := 164) rfl)
theorem w8_40 : (Jvm.Cond.methodLink "StandingsHallLaw" (235 : Nat) ({ cls := "StandingsHallModel", name := "next", desc := "(I)I" } : Jvm.MethodName)) ∈ lw_tbl := z_in8 (List.mem_of_getElem? (i := 40) rfl)
theorem w5_188 : (Jvm.Cond.methodLink "StandingsHallLaw" (236 : Nat) ({ cls := "StandingsHallLaw", name := "between", desc := "(LStandingsHall;II[J)I" } : Jvm.MethodName)) ∈ lw_tbl := z_in5 (List.mem_of_getElem? (i := 188) rfl)
theorem w8_44 : (Jvm.Cond.methodLink "StandingsHallLaw" (238 : Nat) ({ cls := "StandingsHallModel", name := "between", desc := "(II)I" } : Jvm.MethodName)) ∈ lw_tbl := z_in8 (List.mem_of_getElem? (i := 44) rfl)
theorem w5_196 : (Jvm.Cond.methodLink "StandingsHallLaw" (239 : Nat) ({ cls := "StandingsHallLaw", name := "median", desc := "(LStandingsHall;Z[J)I" } : Jvm.MethodName)) ∈ lw_tbl := z_in5 (List.mem_of_getElem? (i := 196) rfl)
theorem w8_48 : (Jvm.Cond.methodLink "StandingsHallLaw" (242 : Nat) ({ cls := "StandingsHallModel", name := "median", desc := "(Z)I" } : Jvm.MethodName)) ∈ lw_tbl := z_in8 (List.mem_of_getElem? (i := 48) rfl)
theorem w5_208 : (Jvm.Cond.methodLink "StandingsHallLaw" (243 : Nat) ({ cls := "StandingsHallLaw", name := "quantile", desc := "(LStandingsHall;II[J)I" } : Jvm.MethodName)) ∈ lw_tbl := z_in5 (List.mem_of_getElem? (i := 208) rfl)
theorem w8_56 : (Jvm.Cond.methodLink "StandingsHallLaw" (245 : Nat) ({ cls := "StandingsHallModel", name := "quantile", desc := "(II)I" } : Jvm.MethodName)) ∈ lw_tbl := z_in8 (List.mem_of_getElem? (i := 56) rfl)
theorem w5_217 : (Jvm.Cond.methodLink "StandingsHallLaw" (246 : Nat) ({ cls := "StandingsHallLaw", name := "enter", desc := "(LStandingsHall;I[J)I" } : Jvm.MethodName)) ∈ lw_tbl := z_in5 (List.mem_of_getElem? (i := 217) rfl)
theorem w8_60 : (Jvm.Cond.methodLink "StandingsHallLaw" (248 : Nat) ({ cls := "StandingsHallModel", name := "enter", desc := "(I)I" } : Jvm.MethodName)) ∈ lw_tbl := z_in8 (List.mem_of_getElem? (i := 60) rfl)
theorem w5_231 : (Jvm.Cond.methodLink "StandingsHallLaw" (249 : Nat) ({ cls := "StandingsHallLaw", name := "challenge", desc := "(LStandingsHall;IIZ[J)I" } : Jvm.MethodName)) ∈ lw_tbl := z_in5 (List.mem_of_getElem? (i := 231) rfl)
theorem w8_64 : (Jvm.Cond.methodLink "StandingsHallLaw" (252 : Nat) ({ cls := "StandingsHallModel", name := "challenge", desc := "(IIZ)I" } : Jvm.MethodName)) ∈ lw_tbl := z_in8 (List.mem_of_getElem? (i := 64) rfl)
theorem w6_5 : (Jvm.Cond.methodLink "StandingsHallLaw" (253 : Nat) ({ cls := "StandingsHallLaw", name := "mayChallenge", desc := "(LStandingsHall;I[J)I" } : Jvm.MethodName)) ∈ lw_tbl := z_in6 (List.mem_of_getElem? (i := 5) rfl)
theorem w8_68 : (Jvm.Cond.methodLink "StandingsHallLaw" (255 : Nat) ({ cls := "StandingsHallModel", name := "mayChallenge", desc := "(I)I" } : Jvm.MethodName)) ∈ lw_tbl := z_in8 (List.mem_of_getElem? (i := 68) rfl)
theorem w6_12 : (Jvm.Cond.methodLink "StandingsHallLaw" (256 : Nat) ({ cls := "StandingsHallLaw", name := "setReach", desc := "(LStandingsHall;I[J)I" } : Jvm.MethodName)) ∈ lw_tbl := z_in6 (List.mem_of_getElem? (i := 12) rfl)
theorem w8_72 : (Jvm.Cond.methodLink "StandingsHallLaw" (258 : Nat) ({ cls := "StandingsHallModel", name := "setReach", desc := "(I)I" } : Jvm.MethodName)) ∈ lw_tbl := z_in8 (List.mem_of_getElem? (i := 72) rfl)
theorem w6_20 : (Jvm.Cond.methodLink "StandingsHallLaw" (259 : Nat) ({ cls := "StandingsHallLaw", name := "setPatience", desc := "(LStandingsHall;I[J)I" } : Jvm.MethodName)) ∈ lw_tbl := z_in6 (List.mem_of_getElem? (i := 20) rfl)
theorem w8_76 : (Jvm.Cond.methodLink "StandingsHallLaw" (261 : Nat) ({ cls := "StandingsHallModel", name := "setPatience", desc := "(I)I" } : Jvm.MethodName)) ∈ lw_tbl := z_in8 (List.mem_of_getElem? (i := 76) rfl)
theorem w6_28 : (Jvm.Cond.methodLink "StandingsHallLaw" (262 : Nat) ({ cls := "StandingsHallLaw", name := "ladderAt", desc := "(LStandingsHall;I[J)I" } : Jvm.MethodName)) ∈ lw_tbl := z_in6 (List.mem_of_getElem? (i := 28) rfl)
theorem w8_80 : (Jvm.Cond.methodLink "StandingsHallLaw" (264 : Nat) ({ cls := "StandingsHallModel", name := "ladderAt", desc := "(I)I" } : Jvm.MethodName)) ∈ lw_tbl := z_in8 (List.mem_of_getElem? (i := 80) rfl)
theorem w6_35 : (Jvm.Cond.methodLink "StandingsHallLaw" (265 : Nat) ({ cls := "StandingsHallLaw", name := "ladderPlace", desc := "(LStandingsHall;I[J)I" } : Jvm.MethodName)) ∈ lw_tbl := z_in6 (List.mem_of_getElem? (i := 35) rfl)
theorem w8_84 : (Jvm.Cond.methodLink "StandingsHallLaw" (267 : Nat) ({ cls := "StandingsHallModel", name := "ladderPlace", desc := "(I)I" } : Jvm.MethodName)) ∈ lw_tbl := z_in8 (List.mem_of_getElem? (i := 84) rfl)
theorem w6_42 : (Jvm.Cond.methodLink "StandingsHallLaw" (268 : Nat) ({ cls := "StandingsHallLaw", name := "endRound", desc := "(LStandingsHall;[J)I" } : Jvm.MethodName)) ∈ lw_tbl := z_in6 (List.mem_of_getElem? (i := 42) rfl)
theorem w8_88 : (Jvm.Cond.methodLink "StandingsHallLaw" (270 : Nat) ({ cls := "StandingsHallModel", name := "endRound", desc := "()I" } : Jvm.MethodName)) ∈ lw_tbl := z_in8 (List.mem_of_getElem? (i := 88) rfl)
theorem w2_136 : (Jvm.Cond.methodLink "StandingsHallLaw" (271 : Nat) ({ cls := "StandingsHall", name := "round", desc := "()I" } : Jvm.MethodName)) ∈ lw_tbl := z_in2 (List.mem_of_getElem? (i := 136) rfl)
theorem w8_100 : (Jvm.Cond.methodLink "StandingsHallLaw" (274 : Nat) ({ cls := "StandingsHallModel", name := "round", desc := "()I" } : Jvm.MethodName)) ∈ lw_tbl := z_in8 (List.mem_of_getElem? (i := 100) rfl)
theorem w6_65 : (Jvm.Cond.methodLink "StandingsHallLaw" (275 : Nat) ({ cls := "StandingsHallLaw", name := "gain", desc := "(LStandingsHall;I[J)I" } : Jvm.MethodName)) ∈ lw_tbl := z_in6 (List.mem_of_getElem? (i := 65) rfl)
theorem w8_104 : (Jvm.Cond.methodLink "StandingsHallLaw" (277 : Nat) ({ cls := "StandingsHallModel", name := "gain", desc := "(I)I" } : Jvm.MethodName)) ∈ lw_tbl := z_in8 (List.mem_of_getElem? (i := 104) rfl)
theorem w6_72 : (Jvm.Cond.methodLink "StandingsHallLaw" (278 : Nat) ({ cls := "StandingsHallLaw", name := "form", desc := "(LStandingsHall;III[J)I" } : Jvm.MethodName)) ∈ lw_tbl := z_in6 (List.mem_of_getElem? (i := 72) rfl)
theorem w8_108 : (Jvm.Cond.methodLink "StandingsHallLaw" (280 : Nat) ({ cls := "StandingsHallModel", name := "form", desc := "(III)I" } : Jvm.MethodName)) ∈ lw_tbl := z_in8 (List.mem_of_getElem? (i := 108) rfl)
theorem w6_92 : (Jvm.Cond.methodLink "StandingsHallLaw" (281 : Nat) ({ cls := "StandingsHallLaw", name := "inForm", desc := "(LStandingsHall;II[J)I" } : Jvm.MethodName)) ∈ lw_tbl := z_in6 (List.mem_of_getElem? (i := 92) rfl)
theorem w8_119 : (Jvm.Cond.methodLink "StandingsHallLaw" (283 : Nat) ({ cls := "StandingsHallModel", name := "inForm", desc := "(II)I" } : Jvm.MethodName)) ∈ lw_tbl := z_in8 (List.mem_of_getElem? (i := 119) rfl)
theorem w6_99 : (Jvm.Cond.methodLink "StandingsHallLaw" (284 : Nat) ({ cls := "StandingsHallLaw", name := "placeThen", desc := "(LStandingsHall;II[J)I" } : Jvm.MethodName)) ∈ lw_tbl := z_in6 (List.mem_of_getElem? (i := 99) rfl)
theorem w8_123 : (Jvm.Cond.methodLink "StandingsHallLaw" (286 : Nat) ({ cls := "StandingsHallModel", name := "placeThen", desc := "(II)I" } : Jvm.MethodName)) ∈ lw_tbl := z_in8 (List.mem_of_getElem? (i := 123) rfl)
theorem w6_116 : (Jvm.Cond.methodLink "StandingsHallLaw" (287 : Nat) ({ cls := "StandingsHallLaw", name := "climb", desc := "(LStandingsHall;I[J)I" } : Jvm.MethodName)) ∈ lw_tbl := z_in6 (List.mem_of_getElem? (i := 116) rfl)
theorem w8_135 : (Jvm.Cond.methodLink "StandingsHallLaw" (289 : Nat) ({ cls := "StandingsHallModel", name := "climb", desc := "(I)I" } : Jvm.MethodName)) ∈ lw_tbl := z_in8 (List.mem_of_getElem? (i := 135) rfl)
theorem w6_123 : (Jvm.Cond.methodLink "StandingsHallLaw" (290 : Nat) ({ cls := "StandingsHallLaw", name := "best", desc := "(LStandingsHall;I[J)I" } : Jvm.MethodName)) ∈ lw_tbl := z_in6 (List.mem_of_getElem? (i := 123) rfl)
theorem w8_139 : (Jvm.Cond.methodLink "StandingsHallLaw" (292 : Nat) ({ cls := "StandingsHallModel", name := "best", desc := "(I)I" } : Jvm.MethodName)) ∈ lw_tbl := z_in8 (List.mem_of_getElem? (i := 139) rfl)
theorem w6_134 : (Jvm.Cond.methodLink "StandingsHallLaw" (293 : Nat) ({ cls := "StandingsHallLaw", name := "members", desc := "(LStandingsHall;I[J)I" } : Jvm.MethodName)) ∈ lw_tbl := z_in6 (List.mem_of_getElem? (i := 134) rfl)
theorem w8_151 : (Jvm.Cond.methodLink "StandingsHallLaw" (295 : Nat) ({ cls := "StandingsHallModel", name := "members", desc := "(I)I" } : Jvm.MethodName)) ∈ lw_tbl := z_in8 (List.mem_of_getElem? (i := 151) rfl)
theorem w6_145 : (Jvm.Cond.methodLink "StandingsHallLaw" (296 : Nat) ({ cls := "StandingsHallLaw", name := "teamScore", desc := "(LStandingsHall;I[J)I" } : Jvm.MethodName)) ∈ lw_tbl := z_in6 (List.mem_of_getElem? (i := 145) rfl)
theorem w8_155 : (Jvm.Cond.methodLink "StandingsHallLaw" (298 : Nat) ({ cls := "StandingsHallModel", name := "teamScore", desc := "(I)I" } : Jvm.MethodName)) ∈ lw_tbl := z_in8 (List.mem_of_getElem? (i := 155) rfl)
theorem w6_156 : (Jvm.Cond.methodLink "StandingsHallLaw" (299 : Nat) ({ cls := "StandingsHallLaw", name := "groupAt", desc := "(LStandingsHall;I[J)I" } : Jvm.MethodName)) ∈ lw_tbl := z_in6 (List.mem_of_getElem? (i := 156) rfl)
theorem w8_163 : (Jvm.Cond.methodLink "StandingsHallLaw" (301 : Nat) ({ cls := "StandingsHallModel", name := "groupAt", desc := "(I)I" } : Jvm.MethodName)) ∈ lw_tbl := z_in8 (List.mem_of_getElem? (i := 163) rfl)
theorem w6_171 : (Jvm.Cond.methodLink "StandingsHallLaw" (302 : Nat) ({ cls := "StandingsHallLaw", name := "inversions", desc := "(LStandingsHall;II[J)I" } : Jvm.MethodName)) ∈ lw_tbl := z_in6 (List.mem_of_getElem? (i := 171) rfl)
theorem w8_171 : (Jvm.Cond.methodLink "StandingsHallLaw" (304 : Nat) ({ cls := "StandingsHallModel", name := "inversions", desc := "(II)I" } : Jvm.MethodName)) ∈ lw_tbl := z_in8 (List.mem_of_getElem? (i := 171) rfl)
theorem w6_191 : (Jvm.Cond.methodLink "StandingsHallLaw" (305 : Nat) ({ cls := "StandingsHallLaw", name := "swaps", desc := "(LStandingsHall;II[J)I" } : Jvm.MethodName)) ∈ lw_tbl := z_in6 (List.mem_of_getElem? (i := 191) rfl)
theorem w8_183 : (Jvm.Cond.methodLink "StandingsHallLaw" (307 : Nat) ({ cls := "StandingsHallModel", name := "swaps", desc := "(II)I" } : Jvm.MethodName)) ∈ lw_tbl := z_in8 (List.mem_of_getElem? (i := 183) rfl)
theorem w2_140 : (Jvm.Cond.methodLink "StandingsHallLaw" (308 : Nat) ({ cls := "StandingsHall", name := "meanPoints", desc := "()D" } : Jvm.MethodName)) ∈ lw_tbl := z_in2 (List.mem_of_getElem? (i := 140) rfl)
theorem w8_187 : (Jvm.Cond.methodLink "StandingsHallLaw" (312 : Nat) ({ cls := "StandingsHallModel", name := "meanPoints", desc := "()D" } : Jvm.MethodName)) ∈ lw_tbl := z_in8 (List.mem_of_getElem? (i := 187) rfl)
theorem w6_202 : (Jvm.Cond.methodLink "StandingsHallLaw" (313 : Nat) ({ cls := "StandingsHallLaw", name := "beats", desc := "(LStandingsHall;I[D)I" } : Jvm.MethodName)) ∈ lw_tbl := z_in6 (List.mem_of_getElem? (i := 202) rfl)
theorem w8_191 : (Jvm.Cond.methodLink "StandingsHallLaw" (316 : Nat) ({ cls := "StandingsHallModel", name := "beats", desc := "(I)F" } : Jvm.MethodName)) ∈ lw_tbl := z_in8 (List.mem_of_getElem? (i := 191) rfl)
theorem w2_145 : (Jvm.Cond.methodLink "StandingsHallLaw" (317 : Nat) ({ cls := "StandingsHall", name := "errors", desc := "()I" } : Jvm.MethodName)) ∈ lw_tbl := z_in2 (List.mem_of_getElem? (i := 145) rfl)
theorem w8_195 : (Jvm.Cond.methodLink "StandingsHallLaw" (320 : Nat) ({ cls := "StandingsHallModel", name := "errors", desc := "()I" } : Jvm.MethodName)) ∈ lw_tbl := z_in8 (List.mem_of_getElem? (i := 195) rfl)
theorem w2_213 : (Jvm.Cond.classLink "StandingsHallLaw" (13 : Nat) "java/lang/IllegalStateException") ∈ lw_tbl := z_in2 (List.mem_of_getElem? (i := 213) rfl)
theorem w3_58 : (Jvm.Cond.classLink "StandingsHallLaw" (19 : Nat) "java/lang/IllegalArgumentException") ∈ lw_tbl := z_in3 (List.mem_of_getElem? (i := 58) rfl)
theorem w4_219 : (Jvm.Cond.classLink "StandingsHallLaw" (25 : Nat) "java/lang/IndexOutOfBoundsException") ∈ lw_tbl := z_in4 (List.mem_of_getElem? (i := 219) rfl)
theorem w5_167 : (Jvm.Cond.classLink "StandingsHallLaw" (68 : Nat) "java/util/NoSuchElementException") ∈ lw_tbl := z_in5 (List.mem_of_getElem? (i := 167) rfl)
theorem w3_112 : (Jvm.Cond.castable "java/lang/IllegalArgumentException" "java/lang/IllegalArgumentException") ∈ lw_tbl := z_in3 (List.mem_of_getElem? (i := 112) rfl)
theorem w2_224 : (Jvm.Cond.castable "java/lang/IllegalStateException" "java/lang/IllegalStateException") ∈ lw_tbl := z_in2 (List.mem_of_getElem? (i := 224) rfl)
theorem w3_148 : (Jvm.Cond.castable "java/lang/IndexOutOfBoundsException" "java/lang/IndexOutOfBoundsException") ∈ lw_tbl := z_in3 (List.mem_of_getElem? (i := 148) rfl)
theorem w5_174 : (Jvm.Cond.castable "java/util/NoSuchElementException" "java/util/NoSuchElementException") ∈ lw_tbl := z_in5 (List.mem_of_getElem? (i := 174) rfl)
theorem w8_199 : (Jvm.Cond.arrayClass Jvm.ClassFile.FieldType.long) ∈ lw_tbl := z_in8 (List.mem_of_getElem? (i := 199) rfl)
theorem w8_200 : (Jvm.Cond.arrayClass Jvm.ClassFile.FieldType.double) ∈ lw_tbl := z_in8 (List.mem_of_getElem? (i := 200) rfl)
def mL_append : z_M := (yL_append, cL_append, 8, some .int)
def hL_append : List (Nat × Nat × Nat × Nat) := [(0, 16, 19, 13)]
theorem tL_append : z_mtH mL_append hL_append 7 := ⟨w2_212, w1_0, ⟨by decide, by decide⟩, by decide +kernel, by decide⟩
theorem pL_append : plainName mL_append.1.cls = true := by decide +kernel
theorem sL_append : Cond.static mL_append.1 ∈ lw_tbl := w2_211
def mL_setOrder : z_M := (yL_setOrder, cL_setOrder, 3, some .int)
def hL_setOrder : List (Nat × Nat × Nat × Nat) := [(0, 8, 11, 19)]
theorem tL_setOrder : z_mtH mL_setOrder hL_setOrder 2 := ⟨w3_57, w1_0, ⟨by decide, by decide⟩, by decide +kernel, by decide⟩
theorem pL_setOrder : plainName mL_setOrder.1.cls = true := by decide +kernel
theorem sL_setOrder : Cond.static mL_setOrder.1 ∈ lw_tbl := w3_56
def mL_criterion : z_M := (yL_criterion, cL_criterion, 5, some .int)
def hL_criterion : List (Nat × Nat × Nat × Nat) := [(0, 10, 13, 25), (0, 10, 17, 19)]
theorem tL_criterion : z_mtH mL_criterion hL_criterion 4 := ⟨w4_218, w1_0, ⟨by decide, by decide⟩, by decide +kernel, by decide⟩
theorem pL_criterion : plainName mL_criterion.1.cls = true := by decide +kernel
theorem sL_criterion : Cond.static mL_criterion.1 ∈ lw_tbl := w4_217
def mL_come : z_M := (yL_come, cL_come, 4, some .int)
def hL_come : List (Nat × Nat × Nat × Nat) := [(0, 9, 12, 19), (0, 9, 15, 13)]
theorem tL_come : z_mtH mL_come hL_come 3 := ⟨w4_235, w1_0, ⟨by decide, by decide⟩, by decide +kernel, by decide⟩
theorem pL_come : plainName mL_come.1.cls = true := by decide +kernel
theorem sL_come : Cond.static mL_come.1 ∈ lw_tbl := w4_234
def mL_leave : z_M := (yL_leave, cL_leave, 4, some .int)
def hL_leave : List (Nat × Nat × Nat × Nat) := [(0, 9, 12, 25)]
theorem tL_leave : z_mtH mL_leave hL_leave 3 := ⟨w5_22, w1_0, ⟨by decide, by decide⟩, by decide +kernel, by decide⟩
theorem pL_leave : plainName mL_leave.1.cls = true := by decide +kernel
theorem sL_leave : Cond.static mL_leave.1 ∈ lw_tbl := w5_21
def mL_score : z_M := (yL_score, cL_score, 6, some .int)
def hL_score : List (Nat × Nat × Nat × Nat) := [(0, 12, 15, 25), (0, 12, 19, 19)]
theorem tL_score : z_mtH mL_score hL_score 5 := ⟨w5_57, w1_0, ⟨by decide, by decide⟩, by decide +kernel, by decide⟩
theorem pL_score : plainName mL_score.1.cls = true := by decide +kernel
theorem sL_score : Cond.static mL_score.1 ∈ lw_tbl := w5_56
def mL_setScore : z_M := (yL_setScore, cL_setScore, 6, some .int)
def hL_setScore : List (Nat × Nat × Nat × Nat) := [(0, 12, 15, 25), (0, 12, 19, 19)]
theorem tL_setScore : z_mtH mL_setScore hL_setScore 5 := ⟨w5_84, w1_0, ⟨by decide, by decide⟩, by decide +kernel, by decide⟩
theorem pL_setScore : plainName mL_setScore.1.cls = true := by decide +kernel
theorem sL_setScore : Cond.static mL_setScore.1 ∈ lw_tbl := w5_83
def mL_scoreOf : z_M := (yL_scoreOf, cL_scoreOf, 5, some .int)
def hL_scoreOf : List (Nat × Nat × Nat × Nat) := [(0, 10, 13, 25), (0, 10, 17, 19)]
theorem tL_scoreOf : z_mtH mL_scoreOf hL_scoreOf 4 := ⟨w5_91, w1_0, ⟨by decide, by decide⟩, by decide +kernel, by decide⟩
theorem pL_scoreOf : plainName mL_scoreOf.1.cls = true := by decide +kernel
theorem sL_scoreOf : Cond.static mL_scoreOf.1 ∈ lw_tbl := w5_90
def mL_groupOf : z_M := (yL_groupOf, cL_groupOf, 4, some .int)
def hL_groupOf : List (Nat × Nat × Nat × Nat) := [(0, 9, 12, 25)]
theorem tL_groupOf : z_mtH mL_groupOf hL_groupOf 3 := ⟨w5_98, w1_0, ⟨by decide, by decide⟩, by decide +kernel, by decide⟩
theorem pL_groupOf : plainName mL_groupOf.1.cls = true := by decide +kernel
theorem sL_groupOf : Cond.static mL_groupOf.1 ∈ lw_tbl := w5_97
def mL_at : z_M := (yL_at, cL_at, 4, some .int)
def hL_at : List (Nat × Nat × Nat × Nat) := [(0, 9, 12, 25)]
theorem tL_at : z_mtH mL_at hL_at 3 := ⟨w5_105, w1_0, ⟨by decide, by decide⟩, by decide +kernel, by decide⟩
theorem pL_at : plainName mL_at.1.cls = true := by decide +kernel
theorem sL_at : Cond.static mL_at.1 ∈ lw_tbl := w5_104
def mL_place : z_M := (yL_place, cL_place, 4, some .int)
def hL_place : List (Nat × Nat × Nat × Nat) := [(0, 9, 12, 25)]
theorem tL_place : z_mtH mL_place hL_place 3 := ⟨w5_113, w1_0, ⟨by decide, by decide⟩, by decide +kernel, by decide⟩
theorem pL_place : plainName mL_place.1.cls = true := by decide +kernel
theorem sL_place : Cond.static mL_place.1 ∈ lw_tbl := w5_112
def mL_rank : z_M := (yL_rank, cL_rank, 5, some .int)
def hL_rank : List (Nat × Nat × Nat × Nat) := [(0, 10, 13, 25), (0, 10, 17, 19)]
theorem tL_rank : z_mtH mL_rank hL_rank 4 := ⟨w5_120, w1_0, ⟨by decide, by decide⟩, by decide +kernel, by decide⟩
theorem pL_rank : plainName mL_rank.1.cls = true := by decide +kernel
theorem sL_rank : Cond.static mL_rank.1 ∈ lw_tbl := w5_119
def mL_alike : z_M := (yL_alike, cL_alike, 4, some .int)
def hL_alike : List (Nat × Nat × Nat × Nat) := [(0, 9, 12, 25)]
theorem tL_alike : z_mtH mL_alike hL_alike 3 := ⟨w5_133, w1_0, ⟨by decide, by decide⟩, by decide +kernel, by decide⟩
theorem pL_alike : plainName mL_alike.1.cls = true := by decide +kernel
theorem sL_alike : Cond.static mL_alike.1 ∈ lw_tbl := w5_132
def mL_wouldGain : z_M := (yL_wouldGain, cL_wouldGain, 6, some .int)
def hL_wouldGain : List (Nat × Nat × Nat × Nat) := [(0, 12, 15, 25), (0, 12, 19, 19)]
theorem tL_wouldGain : z_mtH mL_wouldGain hL_wouldGain 5 := ⟨w5_141, w1_0, ⟨by decide, by decide⟩, by decide +kernel, by decide⟩
theorem pL_wouldGain : plainName mL_wouldGain.1.cls = true := by decide +kernel
theorem sL_wouldGain : Cond.static mL_wouldGain.1 ∈ lw_tbl := w5_140
def mL_needed : z_M := (yL_needed, cL_needed, 5, some .int)
def hL_needed : List (Nat × Nat × Nat × Nat) := [(0, 10, 13, 25), (0, 10, 17, 19)]
theorem tL_needed : z_mtH mL_needed hL_needed 4 := ⟨w5_148, w1_0, ⟨by decide, by decide⟩, by decide +kernel, by decide⟩
theorem pL_needed : plainName mL_needed.1.cls = true := by decide +kernel
theorem sL_needed : Cond.static mL_needed.1 ∈ lw_tbl := w5_147
def mL_next : z_M := (yL_next, cL_next, 4, some .int)
def hL_next : List (Nat × Nat × Nat × Nat) := [(0, 9, 12, 68)]
theorem tL_next : z_mtH mL_next hL_next 3 := ⟨w5_166, w1_0, ⟨by decide, by decide⟩, by decide +kernel, by decide⟩
theorem pL_next : plainName mL_next.1.cls = true := by decide +kernel
theorem sL_next : Cond.static mL_next.1 ∈ lw_tbl := w5_165
def mL_between : z_M := (yL_between, cL_between, 5, some .int)
def hL_between : List (Nat × Nat × Nat × Nat) := [(0, 10, 13, 19)]
theorem tL_between : z_mtH mL_between hL_between 4 := ⟨w5_190, w1_0, ⟨by decide, by decide⟩, by decide +kernel, by decide⟩
theorem pL_between : plainName mL_between.1.cls = true := by decide +kernel
theorem sL_between : Cond.static mL_between.1 ∈ lw_tbl := w5_189
def mL_median : z_M := (yL_median, cL_median, 4, some .int)
def hL_median : List (Nat × Nat × Nat × Nat) := [(0, 9, 12, 68)]
theorem tL_median : z_mtH mL_median hL_median 3 := ⟨w5_198, w1_0, ⟨by decide, by decide⟩, by decide +kernel, by decide⟩
theorem pL_median : plainName mL_median.1.cls = true := by decide +kernel
theorem sL_median : Cond.static mL_median.1 ∈ lw_tbl := w5_197
def mL_quantile : z_M := (yL_quantile, cL_quantile, 5, some .int)
def hL_quantile : List (Nat × Nat × Nat × Nat) := [(0, 10, 13, 19), (0, 10, 17, 68)]
theorem tL_quantile : z_mtH mL_quantile hL_quantile 4 := ⟨w5_210, w1_0, ⟨by decide, by decide⟩, by decide +kernel, by decide⟩
theorem pL_quantile : plainName mL_quantile.1.cls = true := by decide +kernel
theorem sL_quantile : Cond.static mL_quantile.1 ∈ lw_tbl := w5_209
def mL_enter : z_M := (yL_enter, cL_enter, 4, some .int)
def hL_enter : List (Nat × Nat × Nat × Nat) := [(0, 9, 12, 25), (0, 9, 15, 13)]
theorem tL_enter : z_mtH mL_enter hL_enter 3 := ⟨w5_219, w1_0, ⟨by decide, by decide⟩, by decide +kernel, by decide⟩
theorem pL_enter : plainName mL_enter.1.cls = true := by decide +kernel
theorem sL_enter : Cond.static mL_enter.1 ∈ lw_tbl := w5_218
def mL_challenge : z_M := (yL_challenge, cL_challenge, 6, some .int)
def hL_challenge : List (Nat × Nat × Nat × Nat) := [(0, 12, 15, 25), (0, 12, 19, 13)]
theorem tL_challenge : z_mtH mL_challenge hL_challenge 5 := ⟨w5_233, w1_0, ⟨by decide, by decide⟩, by decide +kernel, by decide⟩
theorem pL_challenge : plainName mL_challenge.1.cls = true := by decide +kernel
theorem sL_challenge : Cond.static mL_challenge.1 ∈ lw_tbl := w5_232
def mL_mayChallenge : z_M := (yL_mayChallenge, cL_mayChallenge, 4, some .int)
def hL_mayChallenge : List (Nat × Nat × Nat × Nat) := [(0, 9, 12, 25)]
theorem tL_mayChallenge : z_mtH mL_mayChallenge hL_mayChallenge 3 := ⟨w6_7, w1_0, ⟨by decide, by decide⟩, by decide +kernel, by decide⟩
theorem pL_mayChallenge : plainName mL_mayChallenge.1.cls = true := by decide +kernel
theorem sL_mayChallenge : Cond.static mL_mayChallenge.1 ∈ lw_tbl := w6_6
def mL_setReach : z_M := (yL_setReach, cL_setReach, 4, some .int)
def hL_setReach : List (Nat × Nat × Nat × Nat) := [(0, 9, 12, 19)]
theorem tL_setReach : z_mtH mL_setReach hL_setReach 3 := ⟨w6_14, w1_0, ⟨by decide, by decide⟩, by decide +kernel, by decide⟩
theorem pL_setReach : plainName mL_setReach.1.cls = true := by decide +kernel
theorem sL_setReach : Cond.static mL_setReach.1 ∈ lw_tbl := w6_13
def mL_setPatience : z_M := (yL_setPatience, cL_setPatience, 4, some .int)
def hL_setPatience : List (Nat × Nat × Nat × Nat) := [(0, 9, 12, 19)]
theorem tL_setPatience : z_mtH mL_setPatience hL_setPatience 3 := ⟨w6_22, w1_0, ⟨by decide, by decide⟩, by decide +kernel, by decide⟩
theorem pL_setPatience : plainName mL_setPatience.1.cls = true := by decide +kernel
theorem sL_setPatience : Cond.static mL_setPatience.1 ∈ lw_tbl := w6_21
def mL_ladderAt : z_M := (yL_ladderAt, cL_ladderAt, 4, some .int)
def hL_ladderAt : List (Nat × Nat × Nat × Nat) := [(0, 9, 12, 25)]
theorem tL_ladderAt : z_mtH mL_ladderAt hL_ladderAt 3 := ⟨w6_30, w1_0, ⟨by decide, by decide⟩, by decide +kernel, by decide⟩
theorem pL_ladderAt : plainName mL_ladderAt.1.cls = true := by decide +kernel
theorem sL_ladderAt : Cond.static mL_ladderAt.1 ∈ lw_tbl := w6_29
def mL_ladderPlace : z_M := (yL_ladderPlace, cL_ladderPlace, 4, some .int)
def hL_ladderPlace : List (Nat × Nat × Nat × Nat) := [(0, 9, 12, 25)]
theorem tL_ladderPlace : z_mtH mL_ladderPlace hL_ladderPlace 3 := ⟨w6_37, w1_0, ⟨by decide, by decide⟩, by decide +kernel, by decide⟩
theorem pL_ladderPlace : plainName mL_ladderPlace.1.cls = true := by decide +kernel
theorem sL_ladderPlace : Cond.static mL_ladderPlace.1 ∈ lw_tbl := w6_36
def mL_endRound : z_M := (yL_endRound, cL_endRound, 3, some .int)
def hL_endRound : List (Nat × Nat × Nat × Nat) := [(0, 8, 11, 13)]
theorem tL_endRound : z_mtH mL_endRound hL_endRound 2 := ⟨w6_44, w1_0, ⟨by decide, by decide⟩, by decide +kernel, by decide⟩
theorem pL_endRound : plainName mL_endRound.1.cls = true := by decide +kernel
theorem sL_endRound : Cond.static mL_endRound.1 ∈ lw_tbl := w6_43
def mL_gain : z_M := (yL_gain, cL_gain, 4, some .int)
def hL_gain : List (Nat × Nat × Nat × Nat) := [(0, 9, 12, 25)]
theorem tL_gain : z_mtH mL_gain hL_gain 3 := ⟨w6_67, w1_0, ⟨by decide, by decide⟩, by decide +kernel, by decide⟩
theorem pL_gain : plainName mL_gain.1.cls = true := by decide +kernel
theorem sL_gain : Cond.static mL_gain.1 ∈ lw_tbl := w6_66
def mL_form : z_M := (yL_form, cL_form, 6, some .int)
def hL_form : List (Nat × Nat × Nat × Nat) := [(0, 12, 15, 25), (0, 12, 19, 19)]
theorem tL_form : z_mtH mL_form hL_form 5 := ⟨w6_74, w1_0, ⟨by decide, by decide⟩, by decide +kernel, by decide⟩
theorem pL_form : plainName mL_form.1.cls = true := by decide +kernel
theorem sL_form : Cond.static mL_form.1 ∈ lw_tbl := w6_73
def mL_inForm : z_M := (yL_inForm, cL_inForm, 5, some .int)
def hL_inForm : List (Nat × Nat × Nat × Nat) := [(0, 10, 13, 19), (0, 10, 17, 68)]
theorem tL_inForm : z_mtH mL_inForm hL_inForm 4 := ⟨w6_94, w1_0, ⟨by decide, by decide⟩, by decide +kernel, by decide⟩
theorem pL_inForm : plainName mL_inForm.1.cls = true := by decide +kernel
theorem sL_inForm : Cond.static mL_inForm.1 ∈ lw_tbl := w6_93
def mL_placeThen : z_M := (yL_placeThen, cL_placeThen, 5, some .int)
def hL_placeThen : List (Nat × Nat × Nat × Nat) := [(0, 10, 13, 68), (0, 10, 17, 19)]
theorem tL_placeThen : z_mtH mL_placeThen hL_placeThen 4 := ⟨w6_101, w1_0, ⟨by decide, by decide⟩, by decide +kernel, by decide⟩
theorem pL_placeThen : plainName mL_placeThen.1.cls = true := by decide +kernel
theorem sL_placeThen : Cond.static mL_placeThen.1 ∈ lw_tbl := w6_100
def mL_climb : z_M := (yL_climb, cL_climb, 4, some .int)
def hL_climb : List (Nat × Nat × Nat × Nat) := [(0, 9, 12, 68)]
theorem tL_climb : z_mtH mL_climb hL_climb 3 := ⟨w6_118, w1_0, ⟨by decide, by decide⟩, by decide +kernel, by decide⟩
theorem pL_climb : plainName mL_climb.1.cls = true := by decide +kernel
theorem sL_climb : Cond.static mL_climb.1 ∈ lw_tbl := w6_117
def mL_best : z_M := (yL_best, cL_best, 4, some .int)
def hL_best : List (Nat × Nat × Nat × Nat) := [(0, 9, 12, 19)]
theorem tL_best : z_mtH mL_best hL_best 3 := ⟨w6_125, w1_0, ⟨by decide, by decide⟩, by decide +kernel, by decide⟩
theorem pL_best : plainName mL_best.1.cls = true := by decide +kernel
theorem sL_best : Cond.static mL_best.1 ∈ lw_tbl := w6_124
def mL_members : z_M := (yL_members, cL_members, 4, some .int)
def hL_members : List (Nat × Nat × Nat × Nat) := [(0, 9, 12, 19)]
theorem tL_members : z_mtH mL_members hL_members 3 := ⟨w6_136, w1_0, ⟨by decide, by decide⟩, by decide +kernel, by decide⟩
theorem pL_members : plainName mL_members.1.cls = true := by decide +kernel
theorem sL_members : Cond.static mL_members.1 ∈ lw_tbl := w6_135
def mL_teamScore : z_M := (yL_teamScore, cL_teamScore, 4, some .int)
def hL_teamScore : List (Nat × Nat × Nat × Nat) := [(0, 9, 12, 19)]
theorem tL_teamScore : z_mtH mL_teamScore hL_teamScore 3 := ⟨w6_147, w1_0, ⟨by decide, by decide⟩, by decide +kernel, by decide⟩
theorem pL_teamScore : plainName mL_teamScore.1.cls = true := by decide +kernel
theorem sL_teamScore : Cond.static mL_teamScore.1 ∈ lw_tbl := w6_146
def mL_groupAt : z_M := (yL_groupAt, cL_groupAt, 4, some .int)
def hL_groupAt : List (Nat × Nat × Nat × Nat) := [(0, 9, 12, 25)]
theorem tL_groupAt : z_mtH mL_groupAt hL_groupAt 3 := ⟨w6_158, w1_0, ⟨by decide, by decide⟩, by decide +kernel, by decide⟩
theorem pL_groupAt : plainName mL_groupAt.1.cls = true := by decide +kernel
theorem sL_groupAt : Cond.static mL_groupAt.1 ∈ lw_tbl := w6_157
def mL_inversions : z_M := (yL_inversions, cL_inversions, 5, some .int)
def hL_inversions : List (Nat × Nat × Nat × Nat) := [(0, 10, 13, 68)]
theorem tL_inversions : z_mtH mL_inversions hL_inversions 4 := ⟨w6_173, w1_0, ⟨by decide, by decide⟩, by decide +kernel, by decide⟩
theorem pL_inversions : plainName mL_inversions.1.cls = true := by decide +kernel
theorem sL_inversions : Cond.static mL_inversions.1 ∈ lw_tbl := w6_172
def mL_swaps : z_M := (yL_swaps, cL_swaps, 5, some .int)
def hL_swaps : List (Nat × Nat × Nat × Nat) := [(0, 10, 13, 68)]
theorem tL_swaps : z_mtH mL_swaps hL_swaps 4 := ⟨w6_193, w1_0, ⟨by decide, by decide⟩, by decide +kernel, by decide⟩
theorem pL_swaps : plainName mL_swaps.1.cls = true := by decide +kernel
theorem sL_swaps : Cond.static mL_swaps.1 ∈ lw_tbl := w6_192
def mL_beats : z_M := (yL_beats, cL_beats, 4, some .int)
def hL_beats : List (Nat × Nat × Nat × Nat) := [(0, 9, 12, 25)]
theorem tL_beats : z_mtH mL_beats hL_beats 3 := ⟨w6_204, w1_0, ⟨by decide, by decide⟩, by decide +kernel, by decide⟩
theorem pL_beats : plainName mL_beats.1.cls = true := by decide +kernel
theorem sL_beats : Cond.static mL_beats.1 ∈ lw_tbl := w6_203
def mL_law : z_M := (yL_law, code, 10, some .boolean)
theorem kL_13 : Cond.classLink "StandingsHallLaw" 13 "java/lang/IllegalStateException" ∈ lw_tbl := w2_213
theorem kL_19 : Cond.classLink "StandingsHallLaw" 19 "java/lang/IllegalArgumentException" ∈ lw_tbl := w3_58
theorem kL_25 : Cond.classLink "StandingsHallLaw" 25 "java/lang/IndexOutOfBoundsException" ∈ lw_tbl := w4_219
theorem kL_68 : Cond.classLink "StandingsHallLaw" 68 "java/util/NoSuchElementException" ∈ lw_tbl := w5_167
theorem kc_IllegalArgument : Cond.castable "java/lang/IllegalArgumentException" "java/lang/IllegalArgumentException" ∈ lw_tbl := w3_112
theorem kc_IllegalState : Cond.castable "java/lang/IllegalStateException" "java/lang/IllegalStateException" ∈ lw_tbl := w2_224
theorem kc_IndexOutOfBounds : Cond.castable "java/lang/IndexOutOfBoundsException" "java/lang/IndexOutOfBoundsException" ∈ lw_tbl := w3_148
theorem kc_NoSuchElement : Cond.castable "java/util/NoSuchElementException" "java/util/NoSuchElementException" ∈ lw_tbl := w5_174
theorem wAL : Cond.arrayClass .long ∈ lw_tbl := w8_199
theorem wAD : Cond.arrayClass .double ∈ lw_tbl := w8_200
def DL_append : List (Nat × Instr × Nat) := [(0, .aload 6, 2), (2, .iconst 0, 1), (3, .aload_n 0, 1), (4, .iload_n 1, 1), (5, .iload_n 2, 1), (6, .iload_n 3, 1), (7, .iload 4, 2), (9, .iload 5, 2), (11, .invokevirtual 7, 3), (14, .i2l, 1), (15, .lastore, 1), (16, .goto 7, 3), (19, .astore 7, 2), (21, .iconst 1, 1), (22, .ireturn, 1), (23, .iconst 0, 1), (24, .ireturn, 1)]
theorem DL_append_ok : DL_append.all (fun q => decide (decode mL_append.2.1 q.1 = .ok q.2)) = true := by decide +kernel
theorem eL_append_0 : z_ad mL_append 0 6 2 := Or.inr ⟨z_D DL_append_ok 0 rfl, rfl⟩
theorem eL_append_2 : z_co mL_append 2 (0) 3 := Or.inl ⟨z_D DL_append_ok 1 rfl, rfl⟩
theorem eL_append_3 : z_ad mL_append 3 0 4 := Or.inl ⟨0, z_D DL_append_ok 2 rfl, rfl, rfl⟩
theorem eL_append_4 : z_ld mL_append 4 1 5 := Or.inl ⟨1, z_D DL_append_ok 3 rfl, rfl, rfl⟩
theorem eL_append_5 : z_ld mL_append 5 2 6 := Or.inl ⟨2, z_D DL_append_ok 4 rfl, rfl, rfl⟩
theorem eL_append_6 : z_ld mL_append 6 3 7 := Or.inl ⟨3, z_D DL_append_ok 5 rfl, rfl, rfl⟩
theorem eL_append_7 : z_ld mL_append 7 4 9 := Or.inr ⟨z_D DL_append_ok 6 rfl, rfl⟩
theorem eL_append_9 : z_ld mL_append 9 5 11 := Or.inr ⟨z_D DL_append_ok 7 rfl, rfl⟩
theorem eL_append_11 : z_at mL_append 11 (.invokevirtual 7) 3 14 ∧ z_lk mL_append.1.cls 7 mX7_append.1 ∧ z_mt mX7_append 5 ∧ z_mv mX7_append 7 := ⟨⟨z_D DL_append_ok 8 rfl, rfl⟩, Or.inl w2_214, tX7_append, vX7_append⟩
theorem eL_append_14 : z_at mL_append 14 (.i2l) 1 15 := ⟨z_D DL_append_ok 9 rfl, rfl⟩
theorem eL_append_15 : z_at mL_append 15 (.lastore) 1 16 := ⟨z_D DL_append_ok 10 rfl, rfl⟩
theorem eL_append_16 : z_br mL_append 16 (.goto 7) (7) 19 23 := ⟨z_D DL_append_ok 11 rfl, rfl, by decide⟩
theorem eL_append_19 : z_asd mL_append 19 7 21 := ⟨Or.inr ⟨z_D DL_append_ok 12 rfl, rfl⟩, by decide⟩
theorem eL_append_21 : z_co mL_append 21 (1) 22 := Or.inl ⟨z_D DL_append_ok 13 rfl, rfl⟩
theorem eL_append_22 : z_at mL_append 22 (.ireturn) 1 23 := ⟨z_D DL_append_ok 14 rfl, rfl⟩
theorem eL_append_23 : z_co mL_append 23 (0) 24 := Or.inl ⟨z_D DL_append_ok 15 rfl, rfl⟩
theorem eL_append_24 : z_at mL_append 24 (.ireturn) 1 25 := ⟨z_D DL_append_ok 16 rfl, rfl⟩
def DL_setOrder : List (Nat × Instr × Nat) := [(0, .aload_n 1, 1), (1, .iconst 0, 1), (2, .aload_n 0, 1), (3, .invokevirtual 15, 3), (6, .i2l, 1), (7, .lastore, 1), (8, .goto 6, 3), (11, .astore_n 2, 1), (12, .iconst 1, 1), (13, .ireturn, 1), (14, .iconst 0, 1), (15, .ireturn, 1)]
theorem DL_setOrder_ok : DL_setOrder.all (fun q => decide (decode mL_setOrder.2.1 q.1 = .ok q.2)) = true := by decide +kernel
theorem eL_setOrder_0 : z_ad mL_setOrder 0 1 1 := Or.inl ⟨1, z_D DL_setOrder_ok 0 rfl, rfl, rfl⟩
theorem eL_setOrder_1 : z_co mL_setOrder 1 (0) 2 := Or.inl ⟨z_D DL_setOrder_ok 1 rfl, rfl⟩
theorem eL_setOrder_2 : z_ad mL_setOrder 2 0 3 := Or.inl ⟨0, z_D DL_setOrder_ok 2 rfl, rfl, rfl⟩
theorem eL_setOrder_3 : z_at mL_setOrder 3 (.invokevirtual 15) 3 6 ∧ z_lk mL_setOrder.1.cls 15 mX7_setOrder.1 ∧ z_mt mX7_setOrder 0 ∧ z_mv mX7_setOrder 7 := ⟨⟨z_D DL_setOrder_ok 3 rfl, rfl⟩, Or.inl w3_59, tX7_setOrder, vX7_setOrder⟩
theorem eL_setOrder_6 : z_at mL_setOrder 6 (.i2l) 1 7 := ⟨z_D DL_setOrder_ok 4 rfl, rfl⟩
theorem eL_setOrder_7 : z_at mL_setOrder 7 (.lastore) 1 8 := ⟨z_D DL_setOrder_ok 5 rfl, rfl⟩
theorem eL_setOrder_8 : z_br mL_setOrder 8 (.goto 6) (6) 11 14 := ⟨z_D DL_setOrder_ok 6 rfl, rfl, by decide⟩
theorem eL_setOrder_11 : z_asd mL_setOrder 11 2 12 := ⟨Or.inl ⟨2, z_D DL_setOrder_ok 7 rfl, rfl, rfl⟩, by decide⟩
theorem eL_setOrder_12 : z_co mL_setOrder 12 (1) 13 := Or.inl ⟨z_D DL_setOrder_ok 8 rfl, rfl⟩
theorem eL_setOrder_13 : z_at mL_setOrder 13 (.ireturn) 1 14 := ⟨z_D DL_setOrder_ok 9 rfl, rfl⟩
theorem eL_setOrder_14 : z_co mL_setOrder 14 (0) 15 := Or.inl ⟨z_D DL_setOrder_ok 10 rfl, rfl⟩
theorem eL_setOrder_15 : z_at mL_setOrder 15 (.ireturn) 1 16 := ⟨z_D DL_setOrder_ok 11 rfl, rfl⟩
def DL_criterion : List (Nat × Instr × Nat) := [(0, .aload_n 3, 1), (1, .iconst 0, 1), (2, .aload_n 0, 1), (3, .iload_n 1, 1), (4, .iload_n 2, 1), (5, .invokevirtual 21, 3), (8, .i2l, 1), (9, .lastore, 1), (10, .goto 11, 3), (13, .astore 4, 2), (15, .iconst 1, 1), (16, .ireturn, 1), (17, .astore 4, 2), (19, .iconst 2, 1), (20, .ireturn, 1), (21, .iconst 0, 1), (22, .ireturn, 1)]
theorem DL_criterion_ok : DL_criterion.all (fun q => decide (decode mL_criterion.2.1 q.1 = .ok q.2)) = true := by decide +kernel
theorem eL_criterion_0 : z_ad mL_criterion 0 3 1 := Or.inl ⟨3, z_D DL_criterion_ok 0 rfl, rfl, rfl⟩
theorem eL_criterion_1 : z_co mL_criterion 1 (0) 2 := Or.inl ⟨z_D DL_criterion_ok 1 rfl, rfl⟩
theorem eL_criterion_2 : z_ad mL_criterion 2 0 3 := Or.inl ⟨0, z_D DL_criterion_ok 2 rfl, rfl, rfl⟩
theorem eL_criterion_3 : z_ld mL_criterion 3 1 4 := Or.inl ⟨1, z_D DL_criterion_ok 3 rfl, rfl, rfl⟩
theorem eL_criterion_4 : z_ld mL_criterion 4 2 5 := Or.inl ⟨2, z_D DL_criterion_ok 4 rfl, rfl, rfl⟩
theorem eL_criterion_5 : z_at mL_criterion 5 (.invokevirtual 21) 3 8 ∧ z_lk mL_criterion.1.cls 21 mX7_criterion.1 ∧ z_mt mX7_criterion 2 ∧ z_mv mX7_criterion 7 := ⟨⟨z_D DL_criterion_ok 5 rfl, rfl⟩, Or.inl w4_220, tX7_criterion, vX7_criterion⟩
theorem eL_criterion_8 : z_at mL_criterion 8 (.i2l) 1 9 := ⟨z_D DL_criterion_ok 6 rfl, rfl⟩
theorem eL_criterion_9 : z_at mL_criterion 9 (.lastore) 1 10 := ⟨z_D DL_criterion_ok 7 rfl, rfl⟩
theorem eL_criterion_10 : z_br mL_criterion 10 (.goto 11) (11) 13 21 := ⟨z_D DL_criterion_ok 8 rfl, rfl, by decide⟩
theorem eL_criterion_13 : z_asd mL_criterion 13 4 15 := ⟨Or.inr ⟨z_D DL_criterion_ok 9 rfl, rfl⟩, by decide⟩
theorem eL_criterion_15 : z_co mL_criterion 15 (1) 16 := Or.inl ⟨z_D DL_criterion_ok 10 rfl, rfl⟩
theorem eL_criterion_16 : z_at mL_criterion 16 (.ireturn) 1 17 := ⟨z_D DL_criterion_ok 11 rfl, rfl⟩
theorem eL_criterion_17 : z_asd mL_criterion 17 4 19 := ⟨Or.inr ⟨z_D DL_criterion_ok 12 rfl, rfl⟩, by decide⟩
theorem eL_criterion_19 : z_co mL_criterion 19 (2) 20 := Or.inl ⟨z_D DL_criterion_ok 13 rfl, rfl⟩
theorem eL_criterion_20 : z_at mL_criterion 20 (.ireturn) 1 21 := ⟨z_D DL_criterion_ok 14 rfl, rfl⟩
theorem eL_criterion_21 : z_co mL_criterion 21 (0) 22 := Or.inl ⟨z_D DL_criterion_ok 15 rfl, rfl⟩
theorem eL_criterion_22 : z_at mL_criterion 22 (.ireturn) 1 23 := ⟨z_D DL_criterion_ok 16 rfl, rfl⟩
def DL_come : List (Nat × Instr × Nat) := [(0, .aload_n 2, 1), (1, .iconst 0, 1), (2, .aload_n 0, 1), (3, .iload_n 1, 1), (4, .invokevirtual 27, 3), (7, .i2l, 1), (8, .lastore, 1), (9, .goto 9, 3), (12, .astore_n 3, 1), (13, .iconst 1, 1), (14, .ireturn, 1), (15, .astore_n 3, 1), (16, .iconst 2, 1), (17, .ireturn, 1), (18, .iconst 0, 1), (19, .ireturn, 1)]
theorem DL_come_ok : DL_come.all (fun q => decide (decode mL_come.2.1 q.1 = .ok q.2)) = true := by decide +kernel
theorem eL_come_0 : z_ad mL_come 0 2 1 := Or.inl ⟨2, z_D DL_come_ok 0 rfl, rfl, rfl⟩
theorem eL_come_1 : z_co mL_come 1 (0) 2 := Or.inl ⟨z_D DL_come_ok 1 rfl, rfl⟩
theorem eL_come_2 : z_ad mL_come 2 0 3 := Or.inl ⟨0, z_D DL_come_ok 2 rfl, rfl, rfl⟩
theorem eL_come_3 : z_ld mL_come 3 1 4 := Or.inl ⟨1, z_D DL_come_ok 3 rfl, rfl, rfl⟩
theorem eL_come_4 : z_at mL_come 4 (.invokevirtual 27) 3 7 ∧ z_lk mL_come.1.cls 27 mX7_come.1 ∧ z_mt mX7_come 1 ∧ z_mv mX7_come 7 := ⟨⟨z_D DL_come_ok 4 rfl, rfl⟩, Or.inl w4_236, tX7_come, vX7_come⟩
theorem eL_come_7 : z_at mL_come 7 (.i2l) 1 8 := ⟨z_D DL_come_ok 5 rfl, rfl⟩
theorem eL_come_8 : z_at mL_come 8 (.lastore) 1 9 := ⟨z_D DL_come_ok 6 rfl, rfl⟩
theorem eL_come_9 : z_br mL_come 9 (.goto 9) (9) 12 18 := ⟨z_D DL_come_ok 7 rfl, rfl, by decide⟩
theorem eL_come_12 : z_asd mL_come 12 3 13 := ⟨Or.inl ⟨3, z_D DL_come_ok 8 rfl, rfl, rfl⟩, by decide⟩
theorem eL_come_13 : z_co mL_come 13 (1) 14 := Or.inl ⟨z_D DL_come_ok 9 rfl, rfl⟩
theorem eL_come_14 : z_at mL_come 14 (.ireturn) 1 15 := ⟨z_D DL_come_ok 10 rfl, rfl⟩
theorem eL_come_15 : z_asd mL_come 15 3 16 := ⟨Or.inl ⟨3, z_D DL_come_ok 11 rfl, rfl, rfl⟩, by decide⟩
theorem eL_come_16 : z_co mL_come 16 (2) 17 := Or.inl ⟨z_D DL_come_ok 12 rfl, rfl⟩
theorem eL_come_17 : z_at mL_come 17 (.ireturn) 1 18 := ⟨z_D DL_come_ok 13 rfl, rfl⟩
theorem eL_come_18 : z_co mL_come 18 (0) 19 := Or.inl ⟨z_D DL_come_ok 14 rfl, rfl⟩
theorem eL_come_19 : z_at mL_come 19 (.ireturn) 1 20 := ⟨z_D DL_come_ok 15 rfl, rfl⟩
def DL_leave : List (Nat × Instr × Nat) := [(0, .aload_n 2, 1), (1, .iconst 0, 1), (2, .aload_n 0, 1), (3, .iload_n 1, 1), (4, .invokevirtual 31, 3), (7, .i2l, 1), (8, .lastore, 1), (9, .goto 6, 3), (12, .astore_n 3, 1), (13, .iconst 1, 1), (14, .ireturn, 1), (15, .iconst 0, 1), (16, .ireturn, 1)]
theorem DL_leave_ok : DL_leave.all (fun q => decide (decode mL_leave.2.1 q.1 = .ok q.2)) = true := by decide +kernel
theorem eL_leave_0 : z_ad mL_leave 0 2 1 := Or.inl ⟨2, z_D DL_leave_ok 0 rfl, rfl, rfl⟩
theorem eL_leave_1 : z_co mL_leave 1 (0) 2 := Or.inl ⟨z_D DL_leave_ok 1 rfl, rfl⟩
theorem eL_leave_2 : z_ad mL_leave 2 0 3 := Or.inl ⟨0, z_D DL_leave_ok 2 rfl, rfl, rfl⟩
theorem eL_leave_3 : z_ld mL_leave 3 1 4 := Or.inl ⟨1, z_D DL_leave_ok 3 rfl, rfl, rfl⟩
theorem eL_leave_4 : z_at mL_leave 4 (.invokevirtual 31) 3 7 ∧ z_lk mL_leave.1.cls 31 mX7_leave.1 ∧ z_mt mX7_leave 1 ∧ z_mv mX7_leave 7 := ⟨⟨z_D DL_leave_ok 4 rfl, rfl⟩, Or.inl w5_23, tX7_leave, vX7_leave⟩
theorem eL_leave_7 : z_at mL_leave 7 (.i2l) 1 8 := ⟨z_D DL_leave_ok 5 rfl, rfl⟩
theorem eL_leave_8 : z_at mL_leave 8 (.lastore) 1 9 := ⟨z_D DL_leave_ok 6 rfl, rfl⟩
theorem eL_leave_9 : z_br mL_leave 9 (.goto 6) (6) 12 15 := ⟨z_D DL_leave_ok 7 rfl, rfl, by decide⟩
theorem eL_leave_12 : z_asd mL_leave 12 3 13 := ⟨Or.inl ⟨3, z_D DL_leave_ok 8 rfl, rfl, rfl⟩, by decide⟩
theorem eL_leave_13 : z_co mL_leave 13 (1) 14 := Or.inl ⟨z_D DL_leave_ok 9 rfl, rfl⟩
theorem eL_leave_14 : z_at mL_leave 14 (.ireturn) 1 15 := ⟨z_D DL_leave_ok 10 rfl, rfl⟩
theorem eL_leave_15 : z_co mL_leave 15 (0) 16 := Or.inl ⟨z_D DL_leave_ok 11 rfl, rfl⟩
theorem eL_leave_16 : z_at mL_leave 16 (.ireturn) 1 17 := ⟨z_D DL_leave_ok 12 rfl, rfl⟩
def DL_score : List (Nat × Instr × Nat) := [(0, .aload 4, 2), (2, .iconst 0, 1), (3, .aload_n 0, 1), (4, .iload_n 1, 1), (5, .iload_n 2, 1), (6, .iload_n 3, 1), (7, .invokevirtual 34, 3), (10, .i2l, 1), (11, .lastore, 1), (12, .goto 11, 3), (15, .astore 5, 2), (17, .iconst 1, 1), (18, .ireturn, 1), (19, .astore 5, 2), (21, .iconst 2, 1), (22, .ireturn, 1), (23, .iconst 0, 1), (24, .ireturn, 1)]
theorem DL_score_ok : DL_score.all (fun q => decide (decode mL_score.2.1 q.1 = .ok q.2)) = true := by decide +kernel
theorem eL_score_0 : z_ad mL_score 0 4 2 := Or.inr ⟨z_D DL_score_ok 0 rfl, rfl⟩
theorem eL_score_2 : z_co mL_score 2 (0) 3 := Or.inl ⟨z_D DL_score_ok 1 rfl, rfl⟩
theorem eL_score_3 : z_ad mL_score 3 0 4 := Or.inl ⟨0, z_D DL_score_ok 2 rfl, rfl, rfl⟩
theorem eL_score_4 : z_ld mL_score 4 1 5 := Or.inl ⟨1, z_D DL_score_ok 3 rfl, rfl, rfl⟩
theorem eL_score_5 : z_ld mL_score 5 2 6 := Or.inl ⟨2, z_D DL_score_ok 4 rfl, rfl, rfl⟩
theorem eL_score_6 : z_ld mL_score 6 3 7 := Or.inl ⟨3, z_D DL_score_ok 5 rfl, rfl, rfl⟩
theorem eL_score_7 : z_at mL_score 7 (.invokevirtual 34) 3 10 ∧ z_lk mL_score.1.cls 34 mX7_score.1 ∧ z_mt mX7_score 3 ∧ z_mv mX7_score 7 := ⟨⟨z_D DL_score_ok 6 rfl, rfl⟩, Or.inl w5_58, tX7_score, vX7_score⟩
theorem eL_score_10 : z_at mL_score 10 (.i2l) 1 11 := ⟨z_D DL_score_ok 7 rfl, rfl⟩
theorem eL_score_11 : z_at mL_score 11 (.lastore) 1 12 := ⟨z_D DL_score_ok 8 rfl, rfl⟩
theorem eL_score_12 : z_br mL_score 12 (.goto 11) (11) 15 23 := ⟨z_D DL_score_ok 9 rfl, rfl, by decide⟩
theorem eL_score_15 : z_asd mL_score 15 5 17 := ⟨Or.inr ⟨z_D DL_score_ok 10 rfl, rfl⟩, by decide⟩
theorem eL_score_17 : z_co mL_score 17 (1) 18 := Or.inl ⟨z_D DL_score_ok 11 rfl, rfl⟩
theorem eL_score_18 : z_at mL_score 18 (.ireturn) 1 19 := ⟨z_D DL_score_ok 12 rfl, rfl⟩
theorem eL_score_19 : z_asd mL_score 19 5 21 := ⟨Or.inr ⟨z_D DL_score_ok 13 rfl, rfl⟩, by decide⟩
theorem eL_score_21 : z_co mL_score 21 (2) 22 := Or.inl ⟨z_D DL_score_ok 14 rfl, rfl⟩
theorem eL_score_22 : z_at mL_score 22 (.ireturn) 1 23 := ⟨z_D DL_score_ok 15 rfl, rfl⟩
theorem eL_score_23 : z_co mL_score 23 (0) 24 := Or.inl ⟨z_D DL_score_ok 16 rfl, rfl⟩
theorem eL_score_24 : z_at mL_score 24 (.ireturn) 1 25 := ⟨z_D DL_score_ok 17 rfl, rfl⟩
def DL_setScore : List (Nat × Instr × Nat) := [(0, .aload 4, 2), (2, .iconst 0, 1), (3, .aload_n 0, 1), (4, .iload_n 1, 1), (5, .iload_n 2, 1), (6, .iload_n 3, 1), (7, .invokevirtual 38, 3), (10, .i2l, 1), (11, .lastore, 1), (12, .goto 11, 3), (15, .astore 5, 2), (17, .iconst 1, 1), (18, .ireturn, 1), (19, .astore 5, 2), (21, .iconst 2, 1), (22, .ireturn, 1), (23, .iconst 0, 1), (24, .ireturn, 1)]
theorem DL_setScore_ok : DL_setScore.all (fun q => decide (decode mL_setScore.2.1 q.1 = .ok q.2)) = true := by decide +kernel
theorem eL_setScore_0 : z_ad mL_setScore 0 4 2 := Or.inr ⟨z_D DL_setScore_ok 0 rfl, rfl⟩
theorem eL_setScore_2 : z_co mL_setScore 2 (0) 3 := Or.inl ⟨z_D DL_setScore_ok 1 rfl, rfl⟩
theorem eL_setScore_3 : z_ad mL_setScore 3 0 4 := Or.inl ⟨0, z_D DL_setScore_ok 2 rfl, rfl, rfl⟩
theorem eL_setScore_4 : z_ld mL_setScore 4 1 5 := Or.inl ⟨1, z_D DL_setScore_ok 3 rfl, rfl, rfl⟩
theorem eL_setScore_5 : z_ld mL_setScore 5 2 6 := Or.inl ⟨2, z_D DL_setScore_ok 4 rfl, rfl, rfl⟩
theorem eL_setScore_6 : z_ld mL_setScore 6 3 7 := Or.inl ⟨3, z_D DL_setScore_ok 5 rfl, rfl, rfl⟩
theorem eL_setScore_7 : z_at mL_setScore 7 (.invokevirtual 38) 3 10 ∧ z_lk mL_setScore.1.cls 38 mX7_setScore.1 ∧ z_mt mX7_setScore 3 ∧ z_mv mX7_setScore 7 := ⟨⟨z_D DL_setScore_ok 6 rfl, rfl⟩, Or.inl w5_85, tX7_setScore, vX7_setScore⟩
theorem eL_setScore_10 : z_at mL_setScore 10 (.i2l) 1 11 := ⟨z_D DL_setScore_ok 7 rfl, rfl⟩
theorem eL_setScore_11 : z_at mL_setScore 11 (.lastore) 1 12 := ⟨z_D DL_setScore_ok 8 rfl, rfl⟩
theorem eL_setScore_12 : z_br mL_setScore 12 (.goto 11) (11) 15 23 := ⟨z_D DL_setScore_ok 9 rfl, rfl, by decide⟩
theorem eL_setScore_15 : z_asd mL_setScore 15 5 17 := ⟨Or.inr ⟨z_D DL_setScore_ok 10 rfl, rfl⟩, by decide⟩
theorem eL_setScore_17 : z_co mL_setScore 17 (1) 18 := Or.inl ⟨z_D DL_setScore_ok 11 rfl, rfl⟩
theorem eL_setScore_18 : z_at mL_setScore 18 (.ireturn) 1 19 := ⟨z_D DL_setScore_ok 12 rfl, rfl⟩
theorem eL_setScore_19 : z_asd mL_setScore 19 5 21 := ⟨Or.inr ⟨z_D DL_setScore_ok 13 rfl, rfl⟩, by decide⟩
theorem eL_setScore_21 : z_co mL_setScore 21 (2) 22 := Or.inl ⟨z_D DL_setScore_ok 14 rfl, rfl⟩
theorem eL_setScore_22 : z_at mL_setScore 22 (.ireturn) 1 23 := ⟨z_D DL_setScore_ok 15 rfl, rfl⟩
theorem eL_setScore_23 : z_co mL_setScore 23 (0) 24 := Or.inl ⟨z_D DL_setScore_ok 16 rfl, rfl⟩
theorem eL_setScore_24 : z_at mL_setScore 24 (.ireturn) 1 25 := ⟨z_D DL_setScore_ok 17 rfl, rfl⟩
def DL_scoreOf : List (Nat × Instr × Nat) := [(0, .aload_n 3, 1), (1, .iconst 0, 1), (2, .aload_n 0, 1), (3, .iload_n 1, 1), (4, .iload_n 2, 1), (5, .invokevirtual 41, 3), (8, .i2l, 1), (9, .lastore, 1), (10, .goto 11, 3), (13, .astore 4, 2), (15, .iconst 1, 1), (16, .ireturn, 1), (17, .astore 4, 2), (19, .iconst 2, 1), (20, .ireturn, 1), (21, .iconst 0, 1), (22, .ireturn, 1)]
theorem DL_scoreOf_ok : DL_scoreOf.all (fun q => decide (decode mL_scoreOf.2.1 q.1 = .ok q.2)) = true := by decide +kernel
theorem eL_scoreOf_0 : z_ad mL_scoreOf 0 3 1 := Or.inl ⟨3, z_D DL_scoreOf_ok 0 rfl, rfl, rfl⟩
theorem eL_scoreOf_1 : z_co mL_scoreOf 1 (0) 2 := Or.inl ⟨z_D DL_scoreOf_ok 1 rfl, rfl⟩
theorem eL_scoreOf_2 : z_ad mL_scoreOf 2 0 3 := Or.inl ⟨0, z_D DL_scoreOf_ok 2 rfl, rfl, rfl⟩
theorem eL_scoreOf_3 : z_ld mL_scoreOf 3 1 4 := Or.inl ⟨1, z_D DL_scoreOf_ok 3 rfl, rfl, rfl⟩
theorem eL_scoreOf_4 : z_ld mL_scoreOf 4 2 5 := Or.inl ⟨2, z_D DL_scoreOf_ok 4 rfl, rfl, rfl⟩
theorem eL_scoreOf_5 : z_at mL_scoreOf 5 (.invokevirtual 41) 3 8 ∧ z_lk mL_scoreOf.1.cls 41 mX7_scoreOf.1 ∧ z_mt mX7_scoreOf 2 ∧ z_mv mX7_scoreOf 7 := ⟨⟨z_D DL_scoreOf_ok 5 rfl, rfl⟩, Or.inl w5_92, tX7_scoreOf, vX7_scoreOf⟩
theorem eL_scoreOf_8 : z_at mL_scoreOf 8 (.i2l) 1 9 := ⟨z_D DL_scoreOf_ok 6 rfl, rfl⟩
theorem eL_scoreOf_9 : z_at mL_scoreOf 9 (.lastore) 1 10 := ⟨z_D DL_scoreOf_ok 7 rfl, rfl⟩
theorem eL_scoreOf_10 : z_br mL_scoreOf 10 (.goto 11) (11) 13 21 := ⟨z_D DL_scoreOf_ok 8 rfl, rfl, by decide⟩
theorem eL_scoreOf_13 : z_asd mL_scoreOf 13 4 15 := ⟨Or.inr ⟨z_D DL_scoreOf_ok 9 rfl, rfl⟩, by decide⟩
theorem eL_scoreOf_15 : z_co mL_scoreOf 15 (1) 16 := Or.inl ⟨z_D DL_scoreOf_ok 10 rfl, rfl⟩
theorem eL_scoreOf_16 : z_at mL_scoreOf 16 (.ireturn) 1 17 := ⟨z_D DL_scoreOf_ok 11 rfl, rfl⟩
theorem eL_scoreOf_17 : z_asd mL_scoreOf 17 4 19 := ⟨Or.inr ⟨z_D DL_scoreOf_ok 12 rfl, rfl⟩, by decide⟩
theorem eL_scoreOf_19 : z_co mL_scoreOf 19 (2) 20 := Or.inl ⟨z_D DL_scoreOf_ok 13 rfl, rfl⟩
theorem eL_scoreOf_20 : z_at mL_scoreOf 20 (.ireturn) 1 21 := ⟨z_D DL_scoreOf_ok 14 rfl, rfl⟩
theorem eL_scoreOf_21 : z_co mL_scoreOf 21 (0) 22 := Or.inl ⟨z_D DL_scoreOf_ok 15 rfl, rfl⟩
theorem eL_scoreOf_22 : z_at mL_scoreOf 22 (.ireturn) 1 23 := ⟨z_D DL_scoreOf_ok 16 rfl, rfl⟩
def DL_groupOf : List (Nat × Instr × Nat) := [(0, .aload_n 2, 1), (1, .iconst 0, 1), (2, .aload_n 0, 1), (3, .iload_n 1, 1), (4, .invokevirtual 44, 3), (7, .i2l, 1), (8, .lastore, 1), (9, .goto 6, 3), (12, .astore_n 3, 1), (13, .iconst 1, 1), (14, .ireturn, 1), (15, .iconst 0, 1), (16, .ireturn, 1)]
theorem DL_groupOf_ok : DL_groupOf.all (fun q => decide (decode mL_groupOf.2.1 q.1 = .ok q.2)) = true := by decide +kernel
theorem eL_groupOf_0 : z_ad mL_groupOf 0 2 1 := Or.inl ⟨2, z_D DL_groupOf_ok 0 rfl, rfl, rfl⟩
theorem eL_groupOf_1 : z_co mL_groupOf 1 (0) 2 := Or.inl ⟨z_D DL_groupOf_ok 1 rfl, rfl⟩
theorem eL_groupOf_2 : z_ad mL_groupOf 2 0 3 := Or.inl ⟨0, z_D DL_groupOf_ok 2 rfl, rfl, rfl⟩
theorem eL_groupOf_3 : z_ld mL_groupOf 3 1 4 := Or.inl ⟨1, z_D DL_groupOf_ok 3 rfl, rfl, rfl⟩
theorem eL_groupOf_4 : z_at mL_groupOf 4 (.invokevirtual 44) 3 7 ∧ z_lk mL_groupOf.1.cls 44 mX7_groupOf.1 ∧ z_mt mX7_groupOf 1 ∧ z_mv mX7_groupOf 7 := ⟨⟨z_D DL_groupOf_ok 4 rfl, rfl⟩, Or.inl w5_99, tX7_groupOf, vX7_groupOf⟩
theorem eL_groupOf_7 : z_at mL_groupOf 7 (.i2l) 1 8 := ⟨z_D DL_groupOf_ok 5 rfl, rfl⟩
theorem eL_groupOf_8 : z_at mL_groupOf 8 (.lastore) 1 9 := ⟨z_D DL_groupOf_ok 6 rfl, rfl⟩
theorem eL_groupOf_9 : z_br mL_groupOf 9 (.goto 6) (6) 12 15 := ⟨z_D DL_groupOf_ok 7 rfl, rfl, by decide⟩
theorem eL_groupOf_12 : z_asd mL_groupOf 12 3 13 := ⟨Or.inl ⟨3, z_D DL_groupOf_ok 8 rfl, rfl, rfl⟩, by decide⟩
theorem eL_groupOf_13 : z_co mL_groupOf 13 (1) 14 := Or.inl ⟨z_D DL_groupOf_ok 9 rfl, rfl⟩
theorem eL_groupOf_14 : z_at mL_groupOf 14 (.ireturn) 1 15 := ⟨z_D DL_groupOf_ok 10 rfl, rfl⟩
theorem eL_groupOf_15 : z_co mL_groupOf 15 (0) 16 := Or.inl ⟨z_D DL_groupOf_ok 11 rfl, rfl⟩
theorem eL_groupOf_16 : z_at mL_groupOf 16 (.ireturn) 1 17 := ⟨z_D DL_groupOf_ok 12 rfl, rfl⟩
def DL_at : List (Nat × Instr × Nat) := [(0, .aload_n 2, 1), (1, .iconst 0, 1), (2, .aload_n 0, 1), (3, .iload_n 1, 1), (4, .invokevirtual 47, 3), (7, .i2l, 1), (8, .lastore, 1), (9, .goto 6, 3), (12, .astore_n 3, 1), (13, .iconst 1, 1), (14, .ireturn, 1), (15, .iconst 0, 1), (16, .ireturn, 1)]
theorem DL_at_ok : DL_at.all (fun q => decide (decode mL_at.2.1 q.1 = .ok q.2)) = true := by decide +kernel
theorem eL_at_0 : z_ad mL_at 0 2 1 := Or.inl ⟨2, z_D DL_at_ok 0 rfl, rfl, rfl⟩
theorem eL_at_1 : z_co mL_at 1 (0) 2 := Or.inl ⟨z_D DL_at_ok 1 rfl, rfl⟩
theorem eL_at_2 : z_ad mL_at 2 0 3 := Or.inl ⟨0, z_D DL_at_ok 2 rfl, rfl, rfl⟩
theorem eL_at_3 : z_ld mL_at 3 1 4 := Or.inl ⟨1, z_D DL_at_ok 3 rfl, rfl, rfl⟩
theorem eL_at_4 : z_at mL_at 4 (.invokevirtual 47) 3 7 ∧ z_lk mL_at.1.cls 47 mX7_at.1 ∧ z_mt mX7_at 1 ∧ z_mv mX7_at 7 := ⟨⟨z_D DL_at_ok 4 rfl, rfl⟩, Or.inl w5_106, tX7_at, vX7_at⟩
theorem eL_at_7 : z_at mL_at 7 (.i2l) 1 8 := ⟨z_D DL_at_ok 5 rfl, rfl⟩
theorem eL_at_8 : z_at mL_at 8 (.lastore) 1 9 := ⟨z_D DL_at_ok 6 rfl, rfl⟩
theorem eL_at_9 : z_br mL_at 9 (.goto 6) (6) 12 15 := ⟨z_D DL_at_ok 7 rfl, rfl, by decide⟩
theorem eL_at_12 : z_asd mL_at 12 3 13 := ⟨Or.inl ⟨3, z_D DL_at_ok 8 rfl, rfl, rfl⟩, by decide⟩
theorem eL_at_13 : z_co mL_at 13 (1) 14 := Or.inl ⟨z_D DL_at_ok 9 rfl, rfl⟩
theorem eL_at_14 : z_at mL_at 14 (.ireturn) 1 15 := ⟨z_D DL_at_ok 10 rfl, rfl⟩
theorem eL_at_15 : z_co mL_at 15 (0) 16 := Or.inl ⟨z_D DL_at_ok 11 rfl, rfl⟩
theorem eL_at_16 : z_at mL_at 16 (.ireturn) 1 17 := ⟨z_D DL_at_ok 12 rfl, rfl⟩
def DL_place : List (Nat × Instr × Nat) := [(0, .aload_n 2, 1), (1, .iconst 0, 1), (2, .aload_n 0, 1), (3, .iload_n 1, 1), (4, .invokevirtual 50, 3), (7, .i2l, 1), (8, .lastore, 1), (9, .goto 6, 3), (12, .astore_n 3, 1), (13, .iconst 1, 1), (14, .ireturn, 1), (15, .iconst 0, 1), (16, .ireturn, 1)]
theorem DL_place_ok : DL_place.all (fun q => decide (decode mL_place.2.1 q.1 = .ok q.2)) = true := by decide +kernel
theorem eL_place_0 : z_ad mL_place 0 2 1 := Or.inl ⟨2, z_D DL_place_ok 0 rfl, rfl, rfl⟩
theorem eL_place_1 : z_co mL_place 1 (0) 2 := Or.inl ⟨z_D DL_place_ok 1 rfl, rfl⟩
theorem eL_place_2 : z_ad mL_place 2 0 3 := Or.inl ⟨0, z_D DL_place_ok 2 rfl, rfl, rfl⟩
theorem eL_place_3 : z_ld mL_place 3 1 4 := Or.inl ⟨1, z_D DL_place_ok 3 rfl, rfl, rfl⟩
theorem eL_place_4 : z_at mL_place 4 (.invokevirtual 50) 3 7 ∧ z_lk mL_place.1.cls 50 mX7_place.1 ∧ z_mt mX7_place 1 ∧ z_mv mX7_place 7 := ⟨⟨z_D DL_place_ok 4 rfl, rfl⟩, Or.inl w5_114, tX7_place, vX7_place⟩
theorem eL_place_7 : z_at mL_place 7 (.i2l) 1 8 := ⟨z_D DL_place_ok 5 rfl, rfl⟩
theorem eL_place_8 : z_at mL_place 8 (.lastore) 1 9 := ⟨z_D DL_place_ok 6 rfl, rfl⟩
theorem eL_place_9 : z_br mL_place 9 (.goto 6) (6) 12 15 := ⟨z_D DL_place_ok 7 rfl, rfl, by decide⟩
theorem eL_place_12 : z_asd mL_place 12 3 13 := ⟨Or.inl ⟨3, z_D DL_place_ok 8 rfl, rfl, rfl⟩, by decide⟩
theorem eL_place_13 : z_co mL_place 13 (1) 14 := Or.inl ⟨z_D DL_place_ok 9 rfl, rfl⟩
theorem eL_place_14 : z_at mL_place 14 (.ireturn) 1 15 := ⟨z_D DL_place_ok 10 rfl, rfl⟩
theorem eL_place_15 : z_co mL_place 15 (0) 16 := Or.inl ⟨z_D DL_place_ok 11 rfl, rfl⟩
theorem eL_place_16 : z_at mL_place 16 (.ireturn) 1 17 := ⟨z_D DL_place_ok 12 rfl, rfl⟩
def DL_rank : List (Nat × Instr × Nat) := [(0, .aload_n 3, 1), (1, .iconst 0, 1), (2, .aload_n 0, 1), (3, .iload_n 1, 1), (4, .iload_n 2, 1), (5, .invokevirtual 53, 3), (8, .i2l, 1), (9, .lastore, 1), (10, .goto 11, 3), (13, .astore 4, 2), (15, .iconst 1, 1), (16, .ireturn, 1), (17, .astore 4, 2), (19, .iconst 2, 1), (20, .ireturn, 1), (21, .iconst 0, 1), (22, .ireturn, 1)]
theorem DL_rank_ok : DL_rank.all (fun q => decide (decode mL_rank.2.1 q.1 = .ok q.2)) = true := by decide +kernel
theorem eL_rank_0 : z_ad mL_rank 0 3 1 := Or.inl ⟨3, z_D DL_rank_ok 0 rfl, rfl, rfl⟩
theorem eL_rank_1 : z_co mL_rank 1 (0) 2 := Or.inl ⟨z_D DL_rank_ok 1 rfl, rfl⟩
theorem eL_rank_2 : z_ad mL_rank 2 0 3 := Or.inl ⟨0, z_D DL_rank_ok 2 rfl, rfl, rfl⟩
theorem eL_rank_3 : z_ld mL_rank 3 1 4 := Or.inl ⟨1, z_D DL_rank_ok 3 rfl, rfl, rfl⟩
theorem eL_rank_4 : z_ld mL_rank 4 2 5 := Or.inl ⟨2, z_D DL_rank_ok 4 rfl, rfl, rfl⟩
theorem eL_rank_5 : z_at mL_rank 5 (.invokevirtual 53) 3 8 ∧ z_lk mL_rank.1.cls 53 mX7_rank.1 ∧ z_mt mX7_rank 2 ∧ z_mv mX7_rank 7 := ⟨⟨z_D DL_rank_ok 5 rfl, rfl⟩, Or.inl w5_121, tX7_rank, vX7_rank⟩
theorem eL_rank_8 : z_at mL_rank 8 (.i2l) 1 9 := ⟨z_D DL_rank_ok 6 rfl, rfl⟩
theorem eL_rank_9 : z_at mL_rank 9 (.lastore) 1 10 := ⟨z_D DL_rank_ok 7 rfl, rfl⟩
theorem eL_rank_10 : z_br mL_rank 10 (.goto 11) (11) 13 21 := ⟨z_D DL_rank_ok 8 rfl, rfl, by decide⟩
theorem eL_rank_13 : z_asd mL_rank 13 4 15 := ⟨Or.inr ⟨z_D DL_rank_ok 9 rfl, rfl⟩, by decide⟩
theorem eL_rank_15 : z_co mL_rank 15 (1) 16 := Or.inl ⟨z_D DL_rank_ok 10 rfl, rfl⟩
theorem eL_rank_16 : z_at mL_rank 16 (.ireturn) 1 17 := ⟨z_D DL_rank_ok 11 rfl, rfl⟩
theorem eL_rank_17 : z_asd mL_rank 17 4 19 := ⟨Or.inr ⟨z_D DL_rank_ok 12 rfl, rfl⟩, by decide⟩
theorem eL_rank_19 : z_co mL_rank 19 (2) 20 := Or.inl ⟨z_D DL_rank_ok 13 rfl, rfl⟩
theorem eL_rank_20 : z_at mL_rank 20 (.ireturn) 1 21 := ⟨z_D DL_rank_ok 14 rfl, rfl⟩
theorem eL_rank_21 : z_co mL_rank 21 (0) 22 := Or.inl ⟨z_D DL_rank_ok 15 rfl, rfl⟩
theorem eL_rank_22 : z_at mL_rank 22 (.ireturn) 1 23 := ⟨z_D DL_rank_ok 16 rfl, rfl⟩
def DL_alike : List (Nat × Instr × Nat) := [(0, .aload_n 2, 1), (1, .iconst 0, 1), (2, .aload_n 0, 1), (3, .iload_n 1, 1), (4, .invokevirtual 56, 3), (7, .i2l, 1), (8, .lastore, 1), (9, .goto 6, 3), (12, .astore_n 3, 1), (13, .iconst 1, 1), (14, .ireturn, 1), (15, .iconst 0, 1), (16, .ireturn, 1)]
theorem DL_alike_ok : DL_alike.all (fun q => decide (decode mL_alike.2.1 q.1 = .ok q.2)) = true := by decide +kernel
theorem eL_alike_0 : z_ad mL_alike 0 2 1 := Or.inl ⟨2, z_D DL_alike_ok 0 rfl, rfl, rfl⟩
theorem eL_alike_1 : z_co mL_alike 1 (0) 2 := Or.inl ⟨z_D DL_alike_ok 1 rfl, rfl⟩
theorem eL_alike_2 : z_ad mL_alike 2 0 3 := Or.inl ⟨0, z_D DL_alike_ok 2 rfl, rfl, rfl⟩
theorem eL_alike_3 : z_ld mL_alike 3 1 4 := Or.inl ⟨1, z_D DL_alike_ok 3 rfl, rfl, rfl⟩
theorem eL_alike_4 : z_at mL_alike 4 (.invokevirtual 56) 3 7 ∧ z_lk mL_alike.1.cls 56 mX7_alike.1 ∧ z_mt mX7_alike 1 ∧ z_mv mX7_alike 7 := ⟨⟨z_D DL_alike_ok 4 rfl, rfl⟩, Or.inl w5_134, tX7_alike, vX7_alike⟩
theorem eL_alike_7 : z_at mL_alike 7 (.i2l) 1 8 := ⟨z_D DL_alike_ok 5 rfl, rfl⟩
theorem eL_alike_8 : z_at mL_alike 8 (.lastore) 1 9 := ⟨z_D DL_alike_ok 6 rfl, rfl⟩
theorem eL_alike_9 : z_br mL_alike 9 (.goto 6) (6) 12 15 := ⟨z_D DL_alike_ok 7 rfl, rfl, by decide⟩
theorem eL_alike_12 : z_asd mL_alike 12 3 13 := ⟨Or.inl ⟨3, z_D DL_alike_ok 8 rfl, rfl, rfl⟩, by decide⟩
theorem eL_alike_13 : z_co mL_alike 13 (1) 14 := Or.inl ⟨z_D DL_alike_ok 9 rfl, rfl⟩
theorem eL_alike_14 : z_at mL_alike 14 (.ireturn) 1 15 := ⟨z_D DL_alike_ok 10 rfl, rfl⟩
theorem eL_alike_15 : z_co mL_alike 15 (0) 16 := Or.inl ⟨z_D DL_alike_ok 11 rfl, rfl⟩
theorem eL_alike_16 : z_at mL_alike 16 (.ireturn) 1 17 := ⟨z_D DL_alike_ok 12 rfl, rfl⟩
def DL_wouldGain : List (Nat × Instr × Nat) := [(0, .aload 4, 2), (2, .iconst 0, 1), (3, .aload_n 0, 1), (4, .iload_n 1, 1), (5, .iload_n 2, 1), (6, .iload_n 3, 1), (7, .invokevirtual 59, 3), (10, .i2l, 1), (11, .lastore, 1), (12, .goto 11, 3), (15, .astore 5, 2), (17, .iconst 1, 1), (18, .ireturn, 1), (19, .astore 5, 2), (21, .iconst 2, 1), (22, .ireturn, 1), (23, .iconst 0, 1), (24, .ireturn, 1)]
theorem DL_wouldGain_ok : DL_wouldGain.all (fun q => decide (decode mL_wouldGain.2.1 q.1 = .ok q.2)) = true := by decide +kernel
theorem eL_wouldGain_0 : z_ad mL_wouldGain 0 4 2 := Or.inr ⟨z_D DL_wouldGain_ok 0 rfl, rfl⟩
theorem eL_wouldGain_2 : z_co mL_wouldGain 2 (0) 3 := Or.inl ⟨z_D DL_wouldGain_ok 1 rfl, rfl⟩
theorem eL_wouldGain_3 : z_ad mL_wouldGain 3 0 4 := Or.inl ⟨0, z_D DL_wouldGain_ok 2 rfl, rfl, rfl⟩
theorem eL_wouldGain_4 : z_ld mL_wouldGain 4 1 5 := Or.inl ⟨1, z_D DL_wouldGain_ok 3 rfl, rfl, rfl⟩
theorem eL_wouldGain_5 : z_ld mL_wouldGain 5 2 6 := Or.inl ⟨2, z_D DL_wouldGain_ok 4 rfl, rfl, rfl⟩
theorem eL_wouldGain_6 : z_ld mL_wouldGain 6 3 7 := Or.inl ⟨3, z_D DL_wouldGain_ok 5 rfl, rfl, rfl⟩
theorem eL_wouldGain_7 : z_at mL_wouldGain 7 (.invokevirtual 59) 3 10 ∧ z_lk mL_wouldGain.1.cls 59 mX7_wouldGain.1 ∧ z_mt mX7_wouldGain 3 ∧ z_mv mX7_wouldGain 7 := ⟨⟨z_D DL_wouldGain_ok 6 rfl, rfl⟩, Or.inl w5_142, tX7_wouldGain, vX7_wouldGain⟩
theorem eL_wouldGain_10 : z_at mL_wouldGain 10 (.i2l) 1 11 := ⟨z_D DL_wouldGain_ok 7 rfl, rfl⟩
theorem eL_wouldGain_11 : z_at mL_wouldGain 11 (.lastore) 1 12 := ⟨z_D DL_wouldGain_ok 8 rfl, rfl⟩
theorem eL_wouldGain_12 : z_br mL_wouldGain 12 (.goto 11) (11) 15 23 := ⟨z_D DL_wouldGain_ok 9 rfl, rfl, by decide⟩
theorem eL_wouldGain_15 : z_asd mL_wouldGain 15 5 17 := ⟨Or.inr ⟨z_D DL_wouldGain_ok 10 rfl, rfl⟩, by decide⟩
theorem eL_wouldGain_17 : z_co mL_wouldGain 17 (1) 18 := Or.inl ⟨z_D DL_wouldGain_ok 11 rfl, rfl⟩
theorem eL_wouldGain_18 : z_at mL_wouldGain 18 (.ireturn) 1 19 := ⟨z_D DL_wouldGain_ok 12 rfl, rfl⟩
theorem eL_wouldGain_19 : z_asd mL_wouldGain 19 5 21 := ⟨Or.inr ⟨z_D DL_wouldGain_ok 13 rfl, rfl⟩, by decide⟩
theorem eL_wouldGain_21 : z_co mL_wouldGain 21 (2) 22 := Or.inl ⟨z_D DL_wouldGain_ok 14 rfl, rfl⟩
theorem eL_wouldGain_22 : z_at mL_wouldGain 22 (.ireturn) 1 23 := ⟨z_D DL_wouldGain_ok 15 rfl, rfl⟩
theorem eL_wouldGain_23 : z_co mL_wouldGain 23 (0) 24 := Or.inl ⟨z_D DL_wouldGain_ok 16 rfl, rfl⟩
theorem eL_wouldGain_24 : z_at mL_wouldGain 24 (.ireturn) 1 25 := ⟨z_D DL_wouldGain_ok 17 rfl, rfl⟩
def DL_needed : List (Nat × Instr × Nat) := [(0, .aload_n 3, 1), (1, .iconst 0, 1), (2, .aload_n 0, 1), (3, .iload_n 1, 1), (4, .iload_n 2, 1), (5, .invokevirtual 62, 3), (8, .i2l, 1), (9, .lastore, 1), (10, .goto 11, 3), (13, .astore 4, 2), (15, .iconst 1, 1), (16, .ireturn, 1), (17, .astore 4, 2), (19, .iconst 2, 1), (20, .ireturn, 1), (21, .iconst 0, 1), (22, .ireturn, 1)]
theorem DL_needed_ok : DL_needed.all (fun q => decide (decode mL_needed.2.1 q.1 = .ok q.2)) = true := by decide +kernel
theorem eL_needed_0 : z_ad mL_needed 0 3 1 := Or.inl ⟨3, z_D DL_needed_ok 0 rfl, rfl, rfl⟩
theorem eL_needed_1 : z_co mL_needed 1 (0) 2 := Or.inl ⟨z_D DL_needed_ok 1 rfl, rfl⟩
theorem eL_needed_2 : z_ad mL_needed 2 0 3 := Or.inl ⟨0, z_D DL_needed_ok 2 rfl, rfl, rfl⟩
theorem eL_needed_3 : z_ld mL_needed 3 1 4 := Or.inl ⟨1, z_D DL_needed_ok 3 rfl, rfl, rfl⟩
theorem eL_needed_4 : z_ld mL_needed 4 2 5 := Or.inl ⟨2, z_D DL_needed_ok 4 rfl, rfl, rfl⟩
theorem eL_needed_5 : z_at mL_needed 5 (.invokevirtual 62) 3 8 ∧ z_lk mL_needed.1.cls 62 mX7_needed.1 ∧ z_mt mX7_needed 2 ∧ z_mv mX7_needed 7 := ⟨⟨z_D DL_needed_ok 5 rfl, rfl⟩, Or.inl w5_149, tX7_needed, vX7_needed⟩
theorem eL_needed_8 : z_at mL_needed 8 (.i2l) 1 9 := ⟨z_D DL_needed_ok 6 rfl, rfl⟩
theorem eL_needed_9 : z_at mL_needed 9 (.lastore) 1 10 := ⟨z_D DL_needed_ok 7 rfl, rfl⟩
theorem eL_needed_10 : z_br mL_needed 10 (.goto 11) (11) 13 21 := ⟨z_D DL_needed_ok 8 rfl, rfl, by decide⟩
theorem eL_needed_13 : z_asd mL_needed 13 4 15 := ⟨Or.inr ⟨z_D DL_needed_ok 9 rfl, rfl⟩, by decide⟩
theorem eL_needed_15 : z_co mL_needed 15 (1) 16 := Or.inl ⟨z_D DL_needed_ok 10 rfl, rfl⟩
theorem eL_needed_16 : z_at mL_needed 16 (.ireturn) 1 17 := ⟨z_D DL_needed_ok 11 rfl, rfl⟩
theorem eL_needed_17 : z_asd mL_needed 17 4 19 := ⟨Or.inr ⟨z_D DL_needed_ok 12 rfl, rfl⟩, by decide⟩
theorem eL_needed_19 : z_co mL_needed 19 (2) 20 := Or.inl ⟨z_D DL_needed_ok 13 rfl, rfl⟩
theorem eL_needed_20 : z_at mL_needed 20 (.ireturn) 1 21 := ⟨z_D DL_needed_ok 14 rfl, rfl⟩
theorem eL_needed_21 : z_co mL_needed 21 (0) 22 := Or.inl ⟨z_D DL_needed_ok 15 rfl, rfl⟩
theorem eL_needed_22 : z_at mL_needed 22 (.ireturn) 1 23 := ⟨z_D DL_needed_ok 16 rfl, rfl⟩
def DL_next : List (Nat × Instr × Nat) := [(0, .aload_n 2, 1), (1, .iconst 0, 1), (2, .aload_n 0, 1), (3, .iload_n 1, 1), (4, .invokevirtual 65, 3), (7, .i2l, 1), (8, .lastore, 1), (9, .goto 6, 3), (12, .astore_n 3, 1), (13, .iconst 1, 1), (14, .ireturn, 1), (15, .iconst 0, 1), (16, .ireturn, 1)]
theorem DL_next_ok : DL_next.all (fun q => decide (decode mL_next.2.1 q.1 = .ok q.2)) = true := by decide +kernel
theorem eL_next_0 : z_ad mL_next 0 2 1 := Or.inl ⟨2, z_D DL_next_ok 0 rfl, rfl, rfl⟩
theorem eL_next_1 : z_co mL_next 1 (0) 2 := Or.inl ⟨z_D DL_next_ok 1 rfl, rfl⟩
theorem eL_next_2 : z_ad mL_next 2 0 3 := Or.inl ⟨0, z_D DL_next_ok 2 rfl, rfl, rfl⟩
theorem eL_next_3 : z_ld mL_next 3 1 4 := Or.inl ⟨1, z_D DL_next_ok 3 rfl, rfl, rfl⟩
theorem eL_next_4 : z_at mL_next 4 (.invokevirtual 65) 3 7 ∧ z_lk mL_next.1.cls 65 mX7_next.1 ∧ z_mt mX7_next 1 ∧ z_mv mX7_next 7 := ⟨⟨z_D DL_next_ok 4 rfl, rfl⟩, Or.inl w5_168, tX7_next, vX7_next⟩
theorem eL_next_7 : z_at mL_next 7 (.i2l) 1 8 := ⟨z_D DL_next_ok 5 rfl, rfl⟩
theorem eL_next_8 : z_at mL_next 8 (.lastore) 1 9 := ⟨z_D DL_next_ok 6 rfl, rfl⟩
theorem eL_next_9 : z_br mL_next 9 (.goto 6) (6) 12 15 := ⟨z_D DL_next_ok 7 rfl, rfl, by decide⟩
theorem eL_next_12 : z_asd mL_next 12 3 13 := ⟨Or.inl ⟨3, z_D DL_next_ok 8 rfl, rfl, rfl⟩, by decide⟩
theorem eL_next_13 : z_co mL_next 13 (1) 14 := Or.inl ⟨z_D DL_next_ok 9 rfl, rfl⟩
theorem eL_next_14 : z_at mL_next 14 (.ireturn) 1 15 := ⟨z_D DL_next_ok 10 rfl, rfl⟩
theorem eL_next_15 : z_co mL_next 15 (0) 16 := Or.inl ⟨z_D DL_next_ok 11 rfl, rfl⟩
theorem eL_next_16 : z_at mL_next 16 (.ireturn) 1 17 := ⟨z_D DL_next_ok 12 rfl, rfl⟩
def DL_between : List (Nat × Instr × Nat) := [(0, .aload_n 3, 1), (1, .iconst 0, 1), (2, .aload_n 0, 1), (3, .iload_n 1, 1), (4, .iload_n 2, 1), (5, .invokevirtual 70, 3), (8, .i2l, 1), (9, .lastore, 1), (10, .goto 7, 3), (13, .astore 4, 2), (15, .iconst 1, 1), (16, .ireturn, 1), (17, .iconst 0, 1), (18, .ireturn, 1)]
theorem DL_between_ok : DL_between.all (fun q => decide (decode mL_between.2.1 q.1 = .ok q.2)) = true := by decide +kernel
theorem eL_between_0 : z_ad mL_between 0 3 1 := Or.inl ⟨3, z_D DL_between_ok 0 rfl, rfl, rfl⟩
theorem eL_between_1 : z_co mL_between 1 (0) 2 := Or.inl ⟨z_D DL_between_ok 1 rfl, rfl⟩
theorem eL_between_2 : z_ad mL_between 2 0 3 := Or.inl ⟨0, z_D DL_between_ok 2 rfl, rfl, rfl⟩
theorem eL_between_3 : z_ld mL_between 3 1 4 := Or.inl ⟨1, z_D DL_between_ok 3 rfl, rfl, rfl⟩
theorem eL_between_4 : z_ld mL_between 4 2 5 := Or.inl ⟨2, z_D DL_between_ok 4 rfl, rfl, rfl⟩
theorem eL_between_5 : z_at mL_between 5 (.invokevirtual 70) 3 8 ∧ z_lk mL_between.1.cls 70 mX7_between.1 ∧ z_mt mX7_between 2 ∧ z_mv mX7_between 7 := ⟨⟨z_D DL_between_ok 5 rfl, rfl⟩, Or.inl w5_191, tX7_between, vX7_between⟩
theorem eL_between_8 : z_at mL_between 8 (.i2l) 1 9 := ⟨z_D DL_between_ok 6 rfl, rfl⟩
theorem eL_between_9 : z_at mL_between 9 (.lastore) 1 10 := ⟨z_D DL_between_ok 7 rfl, rfl⟩
theorem eL_between_10 : z_br mL_between 10 (.goto 7) (7) 13 17 := ⟨z_D DL_between_ok 8 rfl, rfl, by decide⟩
theorem eL_between_13 : z_asd mL_between 13 4 15 := ⟨Or.inr ⟨z_D DL_between_ok 9 rfl, rfl⟩, by decide⟩
theorem eL_between_15 : z_co mL_between 15 (1) 16 := Or.inl ⟨z_D DL_between_ok 10 rfl, rfl⟩
theorem eL_between_16 : z_at mL_between 16 (.ireturn) 1 17 := ⟨z_D DL_between_ok 11 rfl, rfl⟩
theorem eL_between_17 : z_co mL_between 17 (0) 18 := Or.inl ⟨z_D DL_between_ok 12 rfl, rfl⟩
theorem eL_between_18 : z_at mL_between 18 (.ireturn) 1 19 := ⟨z_D DL_between_ok 13 rfl, rfl⟩
def DL_median : List (Nat × Instr × Nat) := [(0, .aload_n 2, 1), (1, .iconst 0, 1), (2, .aload_n 0, 1), (3, .iload_n 1, 1), (4, .invokevirtual 73, 3), (7, .i2l, 1), (8, .lastore, 1), (9, .goto 6, 3), (12, .astore_n 3, 1), (13, .iconst 1, 1), (14, .ireturn, 1), (15, .iconst 0, 1), (16, .ireturn, 1)]
theorem DL_median_ok : DL_median.all (fun q => decide (decode mL_median.2.1 q.1 = .ok q.2)) = true := by decide +kernel
theorem eL_median_0 : z_ad mL_median 0 2 1 := Or.inl ⟨2, z_D DL_median_ok 0 rfl, rfl, rfl⟩
theorem eL_median_1 : z_co mL_median 1 (0) 2 := Or.inl ⟨z_D DL_median_ok 1 rfl, rfl⟩
theorem eL_median_2 : z_ad mL_median 2 0 3 := Or.inl ⟨0, z_D DL_median_ok 2 rfl, rfl, rfl⟩
theorem eL_median_3 : z_ld mL_median 3 1 4 := Or.inl ⟨1, z_D DL_median_ok 3 rfl, rfl, rfl⟩
theorem eL_median_4 : z_at mL_median 4 (.invokevirtual 73) 3 7 ∧ z_lk mL_median.1.cls 73 mX7_median.1 ∧ z_mt mX7_median 1 ∧ z_mv mX7_median 7 := ⟨⟨z_D DL_median_ok 4 rfl, rfl⟩, Or.inl w5_199, tX7_median, vX7_median⟩
theorem eL_median_7 : z_at mL_median 7 (.i2l) 1 8 := ⟨z_D DL_median_ok 5 rfl, rfl⟩
theorem eL_median_8 : z_at mL_median 8 (.lastore) 1 9 := ⟨z_D DL_median_ok 6 rfl, rfl⟩
theorem eL_median_9 : z_br mL_median 9 (.goto 6) (6) 12 15 := ⟨z_D DL_median_ok 7 rfl, rfl, by decide⟩
theorem eL_median_12 : z_asd mL_median 12 3 13 := ⟨Or.inl ⟨3, z_D DL_median_ok 8 rfl, rfl, rfl⟩, by decide⟩
theorem eL_median_13 : z_co mL_median 13 (1) 14 := Or.inl ⟨z_D DL_median_ok 9 rfl, rfl⟩
theorem eL_median_14 : z_at mL_median 14 (.ireturn) 1 15 := ⟨z_D DL_median_ok 10 rfl, rfl⟩
theorem eL_median_15 : z_co mL_median 15 (0) 16 := Or.inl ⟨z_D DL_median_ok 11 rfl, rfl⟩
theorem eL_median_16 : z_at mL_median 16 (.ireturn) 1 17 := ⟨z_D DL_median_ok 12 rfl, rfl⟩
def DL_quantile : List (Nat × Instr × Nat) := [(0, .aload_n 3, 1), (1, .iconst 0, 1), (2, .aload_n 0, 1), (3, .iload_n 1, 1), (4, .iload_n 2, 1), (5, .invokevirtual 77, 3), (8, .i2l, 1), (9, .lastore, 1), (10, .goto 11, 3), (13, .astore 4, 2), (15, .iconst 1, 1), (16, .ireturn, 1), (17, .astore 4, 2), (19, .iconst 2, 1), (20, .ireturn, 1), (21, .iconst 0, 1), (22, .ireturn, 1)]
theorem DL_quantile_ok : DL_quantile.all (fun q => decide (decode mL_quantile.2.1 q.1 = .ok q.2)) = true := by decide +kernel
theorem eL_quantile_0 : z_ad mL_quantile 0 3 1 := Or.inl ⟨3, z_D DL_quantile_ok 0 rfl, rfl, rfl⟩
theorem eL_quantile_1 : z_co mL_quantile 1 (0) 2 := Or.inl ⟨z_D DL_quantile_ok 1 rfl, rfl⟩
theorem eL_quantile_2 : z_ad mL_quantile 2 0 3 := Or.inl ⟨0, z_D DL_quantile_ok 2 rfl, rfl, rfl⟩
theorem eL_quantile_3 : z_ld mL_quantile 3 1 4 := Or.inl ⟨1, z_D DL_quantile_ok 3 rfl, rfl, rfl⟩
theorem eL_quantile_4 : z_ld mL_quantile 4 2 5 := Or.inl ⟨2, z_D DL_quantile_ok 4 rfl, rfl, rfl⟩
theorem eL_quantile_5 : z_at mL_quantile 5 (.invokevirtual 77) 3 8 ∧ z_lk mL_quantile.1.cls 77 mX7_quantile.1 ∧ z_mt mX7_quantile 2 ∧ z_mv mX7_quantile 7 := ⟨⟨z_D DL_quantile_ok 5 rfl, rfl⟩, Or.inl w5_211, tX7_quantile, vX7_quantile⟩
theorem eL_quantile_8 : z_at mL_quantile 8 (.i2l) 1 9 := ⟨z_D DL_quantile_ok 6 rfl, rfl⟩
theorem eL_quantile_9 : z_at mL_quantile 9 (.lastore) 1 10 := ⟨z_D DL_quantile_ok 7 rfl, rfl⟩
theorem eL_quantile_10 : z_br mL_quantile 10 (.goto 11) (11) 13 21 := ⟨z_D DL_quantile_ok 8 rfl, rfl, by decide⟩
theorem eL_quantile_13 : z_asd mL_quantile 13 4 15 := ⟨Or.inr ⟨z_D DL_quantile_ok 9 rfl, rfl⟩, by decide⟩
theorem eL_quantile_15 : z_co mL_quantile 15 (1) 16 := Or.inl ⟨z_D DL_quantile_ok 10 rfl, rfl⟩
theorem eL_quantile_16 : z_at mL_quantile 16 (.ireturn) 1 17 := ⟨z_D DL_quantile_ok 11 rfl, rfl⟩
theorem eL_quantile_17 : z_asd mL_quantile 17 4 19 := ⟨Or.inr ⟨z_D DL_quantile_ok 12 rfl, rfl⟩, by decide⟩
theorem eL_quantile_19 : z_co mL_quantile 19 (2) 20 := Or.inl ⟨z_D DL_quantile_ok 13 rfl, rfl⟩
theorem eL_quantile_20 : z_at mL_quantile 20 (.ireturn) 1 21 := ⟨z_D DL_quantile_ok 14 rfl, rfl⟩
theorem eL_quantile_21 : z_co mL_quantile 21 (0) 22 := Or.inl ⟨z_D DL_quantile_ok 15 rfl, rfl⟩
theorem eL_quantile_22 : z_at mL_quantile 22 (.ireturn) 1 23 := ⟨z_D DL_quantile_ok 16 rfl, rfl⟩
def DL_enter : List (Nat × Instr × Nat) := [(0, .aload_n 2, 1), (1, .iconst 0, 1), (2, .aload_n 0, 1), (3, .iload_n 1, 1), (4, .invokevirtual 80, 3), (7, .i2l, 1), (8, .lastore, 1), (9, .goto 9, 3), (12, .astore_n 3, 1), (13, .iconst 1, 1), (14, .ireturn, 1), (15, .astore_n 3, 1), (16, .iconst 2, 1), (17, .ireturn, 1), (18, .iconst 0, 1), (19, .ireturn, 1)]
theorem DL_enter_ok : DL_enter.all (fun q => decide (decode mL_enter.2.1 q.1 = .ok q.2)) = true := by decide +kernel
theorem eL_enter_0 : z_ad mL_enter 0 2 1 := Or.inl ⟨2, z_D DL_enter_ok 0 rfl, rfl, rfl⟩
theorem eL_enter_1 : z_co mL_enter 1 (0) 2 := Or.inl ⟨z_D DL_enter_ok 1 rfl, rfl⟩
theorem eL_enter_2 : z_ad mL_enter 2 0 3 := Or.inl ⟨0, z_D DL_enter_ok 2 rfl, rfl, rfl⟩
theorem eL_enter_3 : z_ld mL_enter 3 1 4 := Or.inl ⟨1, z_D DL_enter_ok 3 rfl, rfl, rfl⟩
theorem eL_enter_4 : z_at mL_enter 4 (.invokevirtual 80) 3 7 ∧ z_lk mL_enter.1.cls 80 mX7_enter.1 ∧ z_mt mX7_enter 1 ∧ z_mv mX7_enter 7 := ⟨⟨z_D DL_enter_ok 4 rfl, rfl⟩, Or.inl w5_220, tX7_enter, vX7_enter⟩
theorem eL_enter_7 : z_at mL_enter 7 (.i2l) 1 8 := ⟨z_D DL_enter_ok 5 rfl, rfl⟩
theorem eL_enter_8 : z_at mL_enter 8 (.lastore) 1 9 := ⟨z_D DL_enter_ok 6 rfl, rfl⟩
theorem eL_enter_9 : z_br mL_enter 9 (.goto 9) (9) 12 18 := ⟨z_D DL_enter_ok 7 rfl, rfl, by decide⟩
theorem eL_enter_12 : z_asd mL_enter 12 3 13 := ⟨Or.inl ⟨3, z_D DL_enter_ok 8 rfl, rfl, rfl⟩, by decide⟩
theorem eL_enter_13 : z_co mL_enter 13 (1) 14 := Or.inl ⟨z_D DL_enter_ok 9 rfl, rfl⟩
theorem eL_enter_14 : z_at mL_enter 14 (.ireturn) 1 15 := ⟨z_D DL_enter_ok 10 rfl, rfl⟩
theorem eL_enter_15 : z_asd mL_enter 15 3 16 := ⟨Or.inl ⟨3, z_D DL_enter_ok 11 rfl, rfl, rfl⟩, by decide⟩
theorem eL_enter_16 : z_co mL_enter 16 (2) 17 := Or.inl ⟨z_D DL_enter_ok 12 rfl, rfl⟩
theorem eL_enter_17 : z_at mL_enter 17 (.ireturn) 1 18 := ⟨z_D DL_enter_ok 13 rfl, rfl⟩
theorem eL_enter_18 : z_co mL_enter 18 (0) 19 := Or.inl ⟨z_D DL_enter_ok 14 rfl, rfl⟩
theorem eL_enter_19 : z_at mL_enter 19 (.ireturn) 1 20 := ⟨z_D DL_enter_ok 15 rfl, rfl⟩
def DL_challenge : List (Nat × Instr × Nat) := [(0, .aload 4, 2), (2, .iconst 0, 1), (3, .aload_n 0, 1), (4, .iload_n 1, 1), (5, .iload_n 2, 1), (6, .iload_n 3, 1), (7, .invokevirtual 83, 3), (10, .i2l, 1), (11, .lastore, 1), (12, .goto 11, 3), (15, .astore 5, 2), (17, .iconst 1, 1), (18, .ireturn, 1), (19, .astore 5, 2), (21, .iconst 2, 1), (22, .ireturn, 1), (23, .iconst 0, 1), (24, .ireturn, 1)]
theorem DL_challenge_ok : DL_challenge.all (fun q => decide (decode mL_challenge.2.1 q.1 = .ok q.2)) = true := by decide +kernel
theorem eL_challenge_0 : z_ad mL_challenge 0 4 2 := Or.inr ⟨z_D DL_challenge_ok 0 rfl, rfl⟩
theorem eL_challenge_2 : z_co mL_challenge 2 (0) 3 := Or.inl ⟨z_D DL_challenge_ok 1 rfl, rfl⟩
theorem eL_challenge_3 : z_ad mL_challenge 3 0 4 := Or.inl ⟨0, z_D DL_challenge_ok 2 rfl, rfl, rfl⟩
theorem eL_challenge_4 : z_ld mL_challenge 4 1 5 := Or.inl ⟨1, z_D DL_challenge_ok 3 rfl, rfl, rfl⟩
theorem eL_challenge_5 : z_ld mL_challenge 5 2 6 := Or.inl ⟨2, z_D DL_challenge_ok 4 rfl, rfl, rfl⟩
theorem eL_challenge_6 : z_ld mL_challenge 6 3 7 := Or.inl ⟨3, z_D DL_challenge_ok 5 rfl, rfl, rfl⟩
theorem eL_challenge_7 : z_at mL_challenge 7 (.invokevirtual 83) 3 10 ∧ z_lk mL_challenge.1.cls 83 mX7_challenge.1 ∧ z_mt mX7_challenge 3 ∧ z_mv mX7_challenge 7 := ⟨⟨z_D DL_challenge_ok 6 rfl, rfl⟩, Or.inl w5_234, tX7_challenge, vX7_challenge⟩
theorem eL_challenge_10 : z_at mL_challenge 10 (.i2l) 1 11 := ⟨z_D DL_challenge_ok 7 rfl, rfl⟩
theorem eL_challenge_11 : z_at mL_challenge 11 (.lastore) 1 12 := ⟨z_D DL_challenge_ok 8 rfl, rfl⟩
theorem eL_challenge_12 : z_br mL_challenge 12 (.goto 11) (11) 15 23 := ⟨z_D DL_challenge_ok 9 rfl, rfl, by decide⟩
theorem eL_challenge_15 : z_asd mL_challenge 15 5 17 := ⟨Or.inr ⟨z_D DL_challenge_ok 10 rfl, rfl⟩, by decide⟩
theorem eL_challenge_17 : z_co mL_challenge 17 (1) 18 := Or.inl ⟨z_D DL_challenge_ok 11 rfl, rfl⟩
theorem eL_challenge_18 : z_at mL_challenge 18 (.ireturn) 1 19 := ⟨z_D DL_challenge_ok 12 rfl, rfl⟩
theorem eL_challenge_19 : z_asd mL_challenge 19 5 21 := ⟨Or.inr ⟨z_D DL_challenge_ok 13 rfl, rfl⟩, by decide⟩
theorem eL_challenge_21 : z_co mL_challenge 21 (2) 22 := Or.inl ⟨z_D DL_challenge_ok 14 rfl, rfl⟩
theorem eL_challenge_22 : z_at mL_challenge 22 (.ireturn) 1 23 := ⟨z_D DL_challenge_ok 15 rfl, rfl⟩
theorem eL_challenge_23 : z_co mL_challenge 23 (0) 24 := Or.inl ⟨z_D DL_challenge_ok 16 rfl, rfl⟩
theorem eL_challenge_24 : z_at mL_challenge 24 (.ireturn) 1 25 := ⟨z_D DL_challenge_ok 17 rfl, rfl⟩
def DL_mayChallenge : List (Nat × Instr × Nat) := [(0, .aload_n 2, 1), (1, .iconst 0, 1), (2, .aload_n 0, 1), (3, .iload_n 1, 1), (4, .invokevirtual 87, 3), (7, .i2l, 1), (8, .lastore, 1), (9, .goto 6, 3), (12, .astore_n 3, 1), (13, .iconst 1, 1), (14, .ireturn, 1), (15, .iconst 0, 1), (16, .ireturn, 1)]
theorem DL_mayChallenge_ok : DL_mayChallenge.all (fun q => decide (decode mL_mayChallenge.2.1 q.1 = .ok q.2)) = true := by decide +kernel
theorem eL_mayChallenge_0 : z_ad mL_mayChallenge 0 2 1 := Or.inl ⟨2, z_D DL_mayChallenge_ok 0 rfl, rfl, rfl⟩
theorem eL_mayChallenge_1 : z_co mL_mayChallenge 1 (0) 2 := Or.inl ⟨z_D DL_mayChallenge_ok 1 rfl, rfl⟩
theorem eL_mayChallenge_2 : z_ad mL_mayChallenge 2 0 3 := Or.inl ⟨0, z_D DL_mayChallenge_ok 2 rfl, rfl, rfl⟩
theorem eL_mayChallenge_3 : z_ld mL_mayChallenge 3 1 4 := Or.inl ⟨1, z_D DL_mayChallenge_ok 3 rfl, rfl, rfl⟩
theorem eL_mayChallenge_4 : z_at mL_mayChallenge 4 (.invokevirtual 87) 3 7 ∧ z_lk mL_mayChallenge.1.cls 87 mX7_mayChallenge.1 ∧ z_mt mX7_mayChallenge 1 ∧ z_mv mX7_mayChallenge 7 := ⟨⟨z_D DL_mayChallenge_ok 4 rfl, rfl⟩, Or.inl w6_8, tX7_mayChallenge, vX7_mayChallenge⟩
theorem eL_mayChallenge_7 : z_at mL_mayChallenge 7 (.i2l) 1 8 := ⟨z_D DL_mayChallenge_ok 5 rfl, rfl⟩
theorem eL_mayChallenge_8 : z_at mL_mayChallenge 8 (.lastore) 1 9 := ⟨z_D DL_mayChallenge_ok 6 rfl, rfl⟩
theorem eL_mayChallenge_9 : z_br mL_mayChallenge 9 (.goto 6) (6) 12 15 := ⟨z_D DL_mayChallenge_ok 7 rfl, rfl, by decide⟩
theorem eL_mayChallenge_12 : z_asd mL_mayChallenge 12 3 13 := ⟨Or.inl ⟨3, z_D DL_mayChallenge_ok 8 rfl, rfl, rfl⟩, by decide⟩
theorem eL_mayChallenge_13 : z_co mL_mayChallenge 13 (1) 14 := Or.inl ⟨z_D DL_mayChallenge_ok 9 rfl, rfl⟩
theorem eL_mayChallenge_14 : z_at mL_mayChallenge 14 (.ireturn) 1 15 := ⟨z_D DL_mayChallenge_ok 10 rfl, rfl⟩
theorem eL_mayChallenge_15 : z_co mL_mayChallenge 15 (0) 16 := Or.inl ⟨z_D DL_mayChallenge_ok 11 rfl, rfl⟩
theorem eL_mayChallenge_16 : z_at mL_mayChallenge 16 (.ireturn) 1 17 := ⟨z_D DL_mayChallenge_ok 12 rfl, rfl⟩
def DL_setReach : List (Nat × Instr × Nat) := [(0, .aload_n 2, 1), (1, .iconst 0, 1), (2, .aload_n 0, 1), (3, .iload_n 1, 1), (4, .invokevirtual 90, 3), (7, .i2l, 1), (8, .lastore, 1), (9, .goto 6, 3), (12, .astore_n 3, 1), (13, .iconst 1, 1), (14, .ireturn, 1), (15, .iconst 0, 1), (16, .ireturn, 1)]
theorem DL_setReach_ok : DL_setReach.all (fun q => decide (decode mL_setReach.2.1 q.1 = .ok q.2)) = true := by decide +kernel
theorem eL_setReach_0 : z_ad mL_setReach 0 2 1 := Or.inl ⟨2, z_D DL_setReach_ok 0 rfl, rfl, rfl⟩
theorem eL_setReach_1 : z_co mL_setReach 1 (0) 2 := Or.inl ⟨z_D DL_setReach_ok 1 rfl, rfl⟩
theorem eL_setReach_2 : z_ad mL_setReach 2 0 3 := Or.inl ⟨0, z_D DL_setReach_ok 2 rfl, rfl, rfl⟩
theorem eL_setReach_3 : z_ld mL_setReach 3 1 4 := Or.inl ⟨1, z_D DL_setReach_ok 3 rfl, rfl, rfl⟩
theorem eL_setReach_4 : z_at mL_setReach 4 (.invokevirtual 90) 3 7 ∧ z_lk mL_setReach.1.cls 90 mX7_setReach.1 ∧ z_mt mX7_setReach 1 ∧ z_mv mX7_setReach 7 := ⟨⟨z_D DL_setReach_ok 4 rfl, rfl⟩, Or.inl w6_15, tX7_setReach, vX7_setReach⟩
theorem eL_setReach_7 : z_at mL_setReach 7 (.i2l) 1 8 := ⟨z_D DL_setReach_ok 5 rfl, rfl⟩
theorem eL_setReach_8 : z_at mL_setReach 8 (.lastore) 1 9 := ⟨z_D DL_setReach_ok 6 rfl, rfl⟩
theorem eL_setReach_9 : z_br mL_setReach 9 (.goto 6) (6) 12 15 := ⟨z_D DL_setReach_ok 7 rfl, rfl, by decide⟩
theorem eL_setReach_12 : z_asd mL_setReach 12 3 13 := ⟨Or.inl ⟨3, z_D DL_setReach_ok 8 rfl, rfl, rfl⟩, by decide⟩
theorem eL_setReach_13 : z_co mL_setReach 13 (1) 14 := Or.inl ⟨z_D DL_setReach_ok 9 rfl, rfl⟩
theorem eL_setReach_14 : z_at mL_setReach 14 (.ireturn) 1 15 := ⟨z_D DL_setReach_ok 10 rfl, rfl⟩
theorem eL_setReach_15 : z_co mL_setReach 15 (0) 16 := Or.inl ⟨z_D DL_setReach_ok 11 rfl, rfl⟩
theorem eL_setReach_16 : z_at mL_setReach 16 (.ireturn) 1 17 := ⟨z_D DL_setReach_ok 12 rfl, rfl⟩
def DL_setPatience : List (Nat × Instr × Nat) := [(0, .aload_n 2, 1), (1, .iconst 0, 1), (2, .aload_n 0, 1), (3, .iload_n 1, 1), (4, .invokevirtual 93, 3), (7, .i2l, 1), (8, .lastore, 1), (9, .goto 6, 3), (12, .astore_n 3, 1), (13, .iconst 1, 1), (14, .ireturn, 1), (15, .iconst 0, 1), (16, .ireturn, 1)]
theorem DL_setPatience_ok : DL_setPatience.all (fun q => decide (decode mL_setPatience.2.1 q.1 = .ok q.2)) = true := by decide +kernel
theorem eL_setPatience_0 : z_ad mL_setPatience 0 2 1 := Or.inl ⟨2, z_D DL_setPatience_ok 0 rfl, rfl, rfl⟩
theorem eL_setPatience_1 : z_co mL_setPatience 1 (0) 2 := Or.inl ⟨z_D DL_setPatience_ok 1 rfl, rfl⟩
theorem eL_setPatience_2 : z_ad mL_setPatience 2 0 3 := Or.inl ⟨0, z_D DL_setPatience_ok 2 rfl, rfl, rfl⟩
theorem eL_setPatience_3 : z_ld mL_setPatience 3 1 4 := Or.inl ⟨1, z_D DL_setPatience_ok 3 rfl, rfl, rfl⟩
theorem eL_setPatience_4 : z_at mL_setPatience 4 (.invokevirtual 93) 3 7 ∧ z_lk mL_setPatience.1.cls 93 mX7_setPatience.1 ∧ z_mt mX7_setPatience 1 ∧ z_mv mX7_setPatience 7 := ⟨⟨z_D DL_setPatience_ok 4 rfl, rfl⟩, Or.inl w6_23, tX7_setPatience, vX7_setPatience⟩
theorem eL_setPatience_7 : z_at mL_setPatience 7 (.i2l) 1 8 := ⟨z_D DL_setPatience_ok 5 rfl, rfl⟩
theorem eL_setPatience_8 : z_at mL_setPatience 8 (.lastore) 1 9 := ⟨z_D DL_setPatience_ok 6 rfl, rfl⟩
theorem eL_setPatience_9 : z_br mL_setPatience 9 (.goto 6) (6) 12 15 := ⟨z_D DL_setPatience_ok 7 rfl, rfl, by decide⟩
theorem eL_setPatience_12 : z_asd mL_setPatience 12 3 13 := ⟨Or.inl ⟨3, z_D DL_setPatience_ok 8 rfl, rfl, rfl⟩, by decide⟩
theorem eL_setPatience_13 : z_co mL_setPatience 13 (1) 14 := Or.inl ⟨z_D DL_setPatience_ok 9 rfl, rfl⟩
theorem eL_setPatience_14 : z_at mL_setPatience 14 (.ireturn) 1 15 := ⟨z_D DL_setPatience_ok 10 rfl, rfl⟩
theorem eL_setPatience_15 : z_co mL_setPatience 15 (0) 16 := Or.inl ⟨z_D DL_setPatience_ok 11 rfl, rfl⟩
theorem eL_setPatience_16 : z_at mL_setPatience 16 (.ireturn) 1 17 := ⟨z_D DL_setPatience_ok 12 rfl, rfl⟩
def DL_ladderAt : List (Nat × Instr × Nat) := [(0, .aload_n 2, 1), (1, .iconst 0, 1), (2, .aload_n 0, 1), (3, .iload_n 1, 1), (4, .invokevirtual 96, 3), (7, .i2l, 1), (8, .lastore, 1), (9, .goto 6, 3), (12, .astore_n 3, 1), (13, .iconst 1, 1), (14, .ireturn, 1), (15, .iconst 0, 1), (16, .ireturn, 1)]
theorem DL_ladderAt_ok : DL_ladderAt.all (fun q => decide (decode mL_ladderAt.2.1 q.1 = .ok q.2)) = true := by decide +kernel
theorem eL_ladderAt_0 : z_ad mL_ladderAt 0 2 1 := Or.inl ⟨2, z_D DL_ladderAt_ok 0 rfl, rfl, rfl⟩
theorem eL_ladderAt_1 : z_co mL_ladderAt 1 (0) 2 := Or.inl ⟨z_D DL_ladderAt_ok 1 rfl, rfl⟩
theorem eL_ladderAt_2 : z_ad mL_ladderAt 2 0 3 := Or.inl ⟨0, z_D DL_ladderAt_ok 2 rfl, rfl, rfl⟩
theorem eL_ladderAt_3 : z_ld mL_ladderAt 3 1 4 := Or.inl ⟨1, z_D DL_ladderAt_ok 3 rfl, rfl, rfl⟩
theorem eL_ladderAt_4 : z_at mL_ladderAt 4 (.invokevirtual 96) 3 7 ∧ z_lk mL_ladderAt.1.cls 96 mX7_ladderAt.1 ∧ z_mt mX7_ladderAt 1 ∧ z_mv mX7_ladderAt 7 := ⟨⟨z_D DL_ladderAt_ok 4 rfl, rfl⟩, Or.inl w6_31, tX7_ladderAt, vX7_ladderAt⟩
theorem eL_ladderAt_7 : z_at mL_ladderAt 7 (.i2l) 1 8 := ⟨z_D DL_ladderAt_ok 5 rfl, rfl⟩
theorem eL_ladderAt_8 : z_at mL_ladderAt 8 (.lastore) 1 9 := ⟨z_D DL_ladderAt_ok 6 rfl, rfl⟩
theorem eL_ladderAt_9 : z_br mL_ladderAt 9 (.goto 6) (6) 12 15 := ⟨z_D DL_ladderAt_ok 7 rfl, rfl, by decide⟩
theorem eL_ladderAt_12 : z_asd mL_ladderAt 12 3 13 := ⟨Or.inl ⟨3, z_D DL_ladderAt_ok 8 rfl, rfl, rfl⟩, by decide⟩
theorem eL_ladderAt_13 : z_co mL_ladderAt 13 (1) 14 := Or.inl ⟨z_D DL_ladderAt_ok 9 rfl, rfl⟩
theorem eL_ladderAt_14 : z_at mL_ladderAt 14 (.ireturn) 1 15 := ⟨z_D DL_ladderAt_ok 10 rfl, rfl⟩
theorem eL_ladderAt_15 : z_co mL_ladderAt 15 (0) 16 := Or.inl ⟨z_D DL_ladderAt_ok 11 rfl, rfl⟩
theorem eL_ladderAt_16 : z_at mL_ladderAt 16 (.ireturn) 1 17 := ⟨z_D DL_ladderAt_ok 12 rfl, rfl⟩
def DL_ladderPlace : List (Nat × Instr × Nat) := [(0, .aload_n 2, 1), (1, .iconst 0, 1), (2, .aload_n 0, 1), (3, .iload_n 1, 1), (4, .invokevirtual 99, 3), (7, .i2l, 1), (8, .lastore, 1), (9, .goto 6, 3), (12, .astore_n 3, 1), (13, .iconst 1, 1), (14, .ireturn, 1), (15, .iconst 0, 1), (16, .ireturn, 1)]
theorem DL_ladderPlace_ok : DL_ladderPlace.all (fun q => decide (decode mL_ladderPlace.2.1 q.1 = .ok q.2)) = true := by decide +kernel
theorem eL_ladderPlace_0 : z_ad mL_ladderPlace 0 2 1 := Or.inl ⟨2, z_D DL_ladderPlace_ok 0 rfl, rfl, rfl⟩
theorem eL_ladderPlace_1 : z_co mL_ladderPlace 1 (0) 2 := Or.inl ⟨z_D DL_ladderPlace_ok 1 rfl, rfl⟩
theorem eL_ladderPlace_2 : z_ad mL_ladderPlace 2 0 3 := Or.inl ⟨0, z_D DL_ladderPlace_ok 2 rfl, rfl, rfl⟩
theorem eL_ladderPlace_3 : z_ld mL_ladderPlace 3 1 4 := Or.inl ⟨1, z_D DL_ladderPlace_ok 3 rfl, rfl, rfl⟩
theorem eL_ladderPlace_4 : z_at mL_ladderPlace 4 (.invokevirtual 99) 3 7 ∧ z_lk mL_ladderPlace.1.cls 99 mX7_ladderPlace.1 ∧ z_mt mX7_ladderPlace 1 ∧ z_mv mX7_ladderPlace 7 := ⟨⟨z_D DL_ladderPlace_ok 4 rfl, rfl⟩, Or.inl w6_38, tX7_ladderPlace, vX7_ladderPlace⟩
theorem eL_ladderPlace_7 : z_at mL_ladderPlace 7 (.i2l) 1 8 := ⟨z_D DL_ladderPlace_ok 5 rfl, rfl⟩
theorem eL_ladderPlace_8 : z_at mL_ladderPlace 8 (.lastore) 1 9 := ⟨z_D DL_ladderPlace_ok 6 rfl, rfl⟩
theorem eL_ladderPlace_9 : z_br mL_ladderPlace 9 (.goto 6) (6) 12 15 := ⟨z_D DL_ladderPlace_ok 7 rfl, rfl, by decide⟩
theorem eL_ladderPlace_12 : z_asd mL_ladderPlace 12 3 13 := ⟨Or.inl ⟨3, z_D DL_ladderPlace_ok 8 rfl, rfl, rfl⟩, by decide⟩
theorem eL_ladderPlace_13 : z_co mL_ladderPlace 13 (1) 14 := Or.inl ⟨z_D DL_ladderPlace_ok 9 rfl, rfl⟩
theorem eL_ladderPlace_14 : z_at mL_ladderPlace 14 (.ireturn) 1 15 := ⟨z_D DL_ladderPlace_ok 10 rfl, rfl⟩
theorem eL_ladderPlace_15 : z_co mL_ladderPlace 15 (0) 16 := Or.inl ⟨z_D DL_ladderPlace_ok 11 rfl, rfl⟩
theorem eL_ladderPlace_16 : z_at mL_ladderPlace 16 (.ireturn) 1 17 := ⟨z_D DL_ladderPlace_ok 12 rfl, rfl⟩
def DL_endRound : List (Nat × Instr × Nat) := [(0, .aload_n 1, 1), (1, .iconst 0, 1), (2, .aload_n 0, 1), (3, .invokevirtual 102, 3), (6, .i2l, 1), (7, .lastore, 1), (8, .goto 6, 3), (11, .astore_n 2, 1), (12, .iconst 1, 1), (13, .ireturn, 1), (14, .iconst 0, 1), (15, .ireturn, 1)]
theorem DL_endRound_ok : DL_endRound.all (fun q => decide (decode mL_endRound.2.1 q.1 = .ok q.2)) = true := by decide +kernel
theorem eL_endRound_0 : z_ad mL_endRound 0 1 1 := Or.inl ⟨1, z_D DL_endRound_ok 0 rfl, rfl, rfl⟩
theorem eL_endRound_1 : z_co mL_endRound 1 (0) 2 := Or.inl ⟨z_D DL_endRound_ok 1 rfl, rfl⟩
theorem eL_endRound_2 : z_ad mL_endRound 2 0 3 := Or.inl ⟨0, z_D DL_endRound_ok 2 rfl, rfl, rfl⟩
theorem eL_endRound_3 : z_at mL_endRound 3 (.invokevirtual 102) 3 6 ∧ z_lk mL_endRound.1.cls 102 mX7_endRound.1 ∧ z_mt mX7_endRound 0 ∧ z_mv mX7_endRound 7 := ⟨⟨z_D DL_endRound_ok 3 rfl, rfl⟩, Or.inl w6_45, tX7_endRound, vX7_endRound⟩
theorem eL_endRound_6 : z_at mL_endRound 6 (.i2l) 1 7 := ⟨z_D DL_endRound_ok 4 rfl, rfl⟩
theorem eL_endRound_7 : z_at mL_endRound 7 (.lastore) 1 8 := ⟨z_D DL_endRound_ok 5 rfl, rfl⟩
theorem eL_endRound_8 : z_br mL_endRound 8 (.goto 6) (6) 11 14 := ⟨z_D DL_endRound_ok 6 rfl, rfl, by decide⟩
theorem eL_endRound_11 : z_asd mL_endRound 11 2 12 := ⟨Or.inl ⟨2, z_D DL_endRound_ok 7 rfl, rfl, rfl⟩, by decide⟩
theorem eL_endRound_12 : z_co mL_endRound 12 (1) 13 := Or.inl ⟨z_D DL_endRound_ok 8 rfl, rfl⟩
theorem eL_endRound_13 : z_at mL_endRound 13 (.ireturn) 1 14 := ⟨z_D DL_endRound_ok 9 rfl, rfl⟩
theorem eL_endRound_14 : z_co mL_endRound 14 (0) 15 := Or.inl ⟨z_D DL_endRound_ok 10 rfl, rfl⟩
theorem eL_endRound_15 : z_at mL_endRound 15 (.ireturn) 1 16 := ⟨z_D DL_endRound_ok 11 rfl, rfl⟩
def DL_gain : List (Nat × Instr × Nat) := [(0, .aload_n 2, 1), (1, .iconst 0, 1), (2, .aload_n 0, 1), (3, .iload_n 1, 1), (4, .invokevirtual 105, 3), (7, .i2l, 1), (8, .lastore, 1), (9, .goto 6, 3), (12, .astore_n 3, 1), (13, .iconst 1, 1), (14, .ireturn, 1), (15, .iconst 0, 1), (16, .ireturn, 1)]
theorem DL_gain_ok : DL_gain.all (fun q => decide (decode mL_gain.2.1 q.1 = .ok q.2)) = true := by decide +kernel
theorem eL_gain_0 : z_ad mL_gain 0 2 1 := Or.inl ⟨2, z_D DL_gain_ok 0 rfl, rfl, rfl⟩
theorem eL_gain_1 : z_co mL_gain 1 (0) 2 := Or.inl ⟨z_D DL_gain_ok 1 rfl, rfl⟩
theorem eL_gain_2 : z_ad mL_gain 2 0 3 := Or.inl ⟨0, z_D DL_gain_ok 2 rfl, rfl, rfl⟩
theorem eL_gain_3 : z_ld mL_gain 3 1 4 := Or.inl ⟨1, z_D DL_gain_ok 3 rfl, rfl, rfl⟩
theorem eL_gain_4 : z_at mL_gain 4 (.invokevirtual 105) 3 7 ∧ z_lk mL_gain.1.cls 105 mX7_gain.1 ∧ z_mt mX7_gain 1 ∧ z_mv mX7_gain 7 := ⟨⟨z_D DL_gain_ok 4 rfl, rfl⟩, Or.inl w6_68, tX7_gain, vX7_gain⟩
theorem eL_gain_7 : z_at mL_gain 7 (.i2l) 1 8 := ⟨z_D DL_gain_ok 5 rfl, rfl⟩
theorem eL_gain_8 : z_at mL_gain 8 (.lastore) 1 9 := ⟨z_D DL_gain_ok 6 rfl, rfl⟩
theorem eL_gain_9 : z_br mL_gain 9 (.goto 6) (6) 12 15 := ⟨z_D DL_gain_ok 7 rfl, rfl, by decide⟩
theorem eL_gain_12 : z_asd mL_gain 12 3 13 := ⟨Or.inl ⟨3, z_D DL_gain_ok 8 rfl, rfl, rfl⟩, by decide⟩
theorem eL_gain_13 : z_co mL_gain 13 (1) 14 := Or.inl ⟨z_D DL_gain_ok 9 rfl, rfl⟩
theorem eL_gain_14 : z_at mL_gain 14 (.ireturn) 1 15 := ⟨z_D DL_gain_ok 10 rfl, rfl⟩
theorem eL_gain_15 : z_co mL_gain 15 (0) 16 := Or.inl ⟨z_D DL_gain_ok 11 rfl, rfl⟩
theorem eL_gain_16 : z_at mL_gain 16 (.ireturn) 1 17 := ⟨z_D DL_gain_ok 12 rfl, rfl⟩
def DL_form : List (Nat × Instr × Nat) := [(0, .aload 4, 2), (2, .iconst 0, 1), (3, .aload_n 0, 1), (4, .iload_n 1, 1), (5, .iload_n 2, 1), (6, .iload_n 3, 1), (7, .invokevirtual 108, 3), (10, .i2l, 1), (11, .lastore, 1), (12, .goto 11, 3), (15, .astore 5, 2), (17, .iconst 1, 1), (18, .ireturn, 1), (19, .astore 5, 2), (21, .iconst 2, 1), (22, .ireturn, 1), (23, .iconst 0, 1), (24, .ireturn, 1)]
theorem DL_form_ok : DL_form.all (fun q => decide (decode mL_form.2.1 q.1 = .ok q.2)) = true := by decide +kernel
theorem eL_form_0 : z_ad mL_form 0 4 2 := Or.inr ⟨z_D DL_form_ok 0 rfl, rfl⟩
theorem eL_form_2 : z_co mL_form 2 (0) 3 := Or.inl ⟨z_D DL_form_ok 1 rfl, rfl⟩
theorem eL_form_3 : z_ad mL_form 3 0 4 := Or.inl ⟨0, z_D DL_form_ok 2 rfl, rfl, rfl⟩
theorem eL_form_4 : z_ld mL_form 4 1 5 := Or.inl ⟨1, z_D DL_form_ok 3 rfl, rfl, rfl⟩
theorem eL_form_5 : z_ld mL_form 5 2 6 := Or.inl ⟨2, z_D DL_form_ok 4 rfl, rfl, rfl⟩
theorem eL_form_6 : z_ld mL_form 6 3 7 := Or.inl ⟨3, z_D DL_form_ok 5 rfl, rfl, rfl⟩
theorem eL_form_7 : z_at mL_form 7 (.invokevirtual 108) 3 10 ∧ z_lk mL_form.1.cls 108 mX7_form.1 ∧ z_mt mX7_form 3 ∧ z_mv mX7_form 7 := ⟨⟨z_D DL_form_ok 6 rfl, rfl⟩, Or.inl w6_75, tX7_form, vX7_form⟩
theorem eL_form_10 : z_at mL_form 10 (.i2l) 1 11 := ⟨z_D DL_form_ok 7 rfl, rfl⟩
theorem eL_form_11 : z_at mL_form 11 (.lastore) 1 12 := ⟨z_D DL_form_ok 8 rfl, rfl⟩
theorem eL_form_12 : z_br mL_form 12 (.goto 11) (11) 15 23 := ⟨z_D DL_form_ok 9 rfl, rfl, by decide⟩
theorem eL_form_15 : z_asd mL_form 15 5 17 := ⟨Or.inr ⟨z_D DL_form_ok 10 rfl, rfl⟩, by decide⟩
theorem eL_form_17 : z_co mL_form 17 (1) 18 := Or.inl ⟨z_D DL_form_ok 11 rfl, rfl⟩
theorem eL_form_18 : z_at mL_form 18 (.ireturn) 1 19 := ⟨z_D DL_form_ok 12 rfl, rfl⟩
theorem eL_form_19 : z_asd mL_form 19 5 21 := ⟨Or.inr ⟨z_D DL_form_ok 13 rfl, rfl⟩, by decide⟩
theorem eL_form_21 : z_co mL_form 21 (2) 22 := Or.inl ⟨z_D DL_form_ok 14 rfl, rfl⟩
theorem eL_form_22 : z_at mL_form 22 (.ireturn) 1 23 := ⟨z_D DL_form_ok 15 rfl, rfl⟩
theorem eL_form_23 : z_co mL_form 23 (0) 24 := Or.inl ⟨z_D DL_form_ok 16 rfl, rfl⟩
theorem eL_form_24 : z_at mL_form 24 (.ireturn) 1 25 := ⟨z_D DL_form_ok 17 rfl, rfl⟩
def DL_inForm : List (Nat × Instr × Nat) := [(0, .aload_n 3, 1), (1, .iconst 0, 1), (2, .aload_n 0, 1), (3, .iload_n 1, 1), (4, .iload_n 2, 1), (5, .invokevirtual 111, 3), (8, .i2l, 1), (9, .lastore, 1), (10, .goto 11, 3), (13, .astore 4, 2), (15, .iconst 1, 1), (16, .ireturn, 1), (17, .astore 4, 2), (19, .iconst 2, 1), (20, .ireturn, 1), (21, .iconst 0, 1), (22, .ireturn, 1)]
theorem DL_inForm_ok : DL_inForm.all (fun q => decide (decode mL_inForm.2.1 q.1 = .ok q.2)) = true := by decide +kernel
theorem eL_inForm_0 : z_ad mL_inForm 0 3 1 := Or.inl ⟨3, z_D DL_inForm_ok 0 rfl, rfl, rfl⟩
theorem eL_inForm_1 : z_co mL_inForm 1 (0) 2 := Or.inl ⟨z_D DL_inForm_ok 1 rfl, rfl⟩
theorem eL_inForm_2 : z_ad mL_inForm 2 0 3 := Or.inl ⟨0, z_D DL_inForm_ok 2 rfl, rfl, rfl⟩
theorem eL_inForm_3 : z_ld mL_inForm 3 1 4 := Or.inl ⟨1, z_D DL_inForm_ok 3 rfl, rfl, rfl⟩
theorem eL_inForm_4 : z_ld mL_inForm 4 2 5 := Or.inl ⟨2, z_D DL_inForm_ok 4 rfl, rfl, rfl⟩
theorem eL_inForm_5 : z_at mL_inForm 5 (.invokevirtual 111) 3 8 ∧ z_lk mL_inForm.1.cls 111 mX7_inForm.1 ∧ z_mt mX7_inForm 2 ∧ z_mv mX7_inForm 7 := ⟨⟨z_D DL_inForm_ok 5 rfl, rfl⟩, Or.inl w6_95, tX7_inForm, vX7_inForm⟩
theorem eL_inForm_8 : z_at mL_inForm 8 (.i2l) 1 9 := ⟨z_D DL_inForm_ok 6 rfl, rfl⟩
theorem eL_inForm_9 : z_at mL_inForm 9 (.lastore) 1 10 := ⟨z_D DL_inForm_ok 7 rfl, rfl⟩
theorem eL_inForm_10 : z_br mL_inForm 10 (.goto 11) (11) 13 21 := ⟨z_D DL_inForm_ok 8 rfl, rfl, by decide⟩
theorem eL_inForm_13 : z_asd mL_inForm 13 4 15 := ⟨Or.inr ⟨z_D DL_inForm_ok 9 rfl, rfl⟩, by decide⟩
theorem eL_inForm_15 : z_co mL_inForm 15 (1) 16 := Or.inl ⟨z_D DL_inForm_ok 10 rfl, rfl⟩
theorem eL_inForm_16 : z_at mL_inForm 16 (.ireturn) 1 17 := ⟨z_D DL_inForm_ok 11 rfl, rfl⟩
theorem eL_inForm_17 : z_asd mL_inForm 17 4 19 := ⟨Or.inr ⟨z_D DL_inForm_ok 12 rfl, rfl⟩, by decide⟩
theorem eL_inForm_19 : z_co mL_inForm 19 (2) 20 := Or.inl ⟨z_D DL_inForm_ok 13 rfl, rfl⟩
theorem eL_inForm_20 : z_at mL_inForm 20 (.ireturn) 1 21 := ⟨z_D DL_inForm_ok 14 rfl, rfl⟩
theorem eL_inForm_21 : z_co mL_inForm 21 (0) 22 := Or.inl ⟨z_D DL_inForm_ok 15 rfl, rfl⟩
theorem eL_inForm_22 : z_at mL_inForm 22 (.ireturn) 1 23 := ⟨z_D DL_inForm_ok 16 rfl, rfl⟩
def DL_placeThen : List (Nat × Instr × Nat) := [(0, .aload_n 3, 1), (1, .iconst 0, 1), (2, .aload_n 0, 1), (3, .iload_n 1, 1), (4, .iload_n 2, 1), (5, .invokevirtual 114, 3), (8, .i2l, 1), (9, .lastore, 1), (10, .goto 11, 3), (13, .astore 4, 2), (15, .iconst 1, 1), (16, .ireturn, 1), (17, .astore 4, 2), (19, .iconst 2, 1), (20, .ireturn, 1), (21, .iconst 0, 1), (22, .ireturn, 1)]
theorem DL_placeThen_ok : DL_placeThen.all (fun q => decide (decode mL_placeThen.2.1 q.1 = .ok q.2)) = true := by decide +kernel
theorem eL_placeThen_0 : z_ad mL_placeThen 0 3 1 := Or.inl ⟨3, z_D DL_placeThen_ok 0 rfl, rfl, rfl⟩
theorem eL_placeThen_1 : z_co mL_placeThen 1 (0) 2 := Or.inl ⟨z_D DL_placeThen_ok 1 rfl, rfl⟩
theorem eL_placeThen_2 : z_ad mL_placeThen 2 0 3 := Or.inl ⟨0, z_D DL_placeThen_ok 2 rfl, rfl, rfl⟩
theorem eL_placeThen_3 : z_ld mL_placeThen 3 1 4 := Or.inl ⟨1, z_D DL_placeThen_ok 3 rfl, rfl, rfl⟩
theorem eL_placeThen_4 : z_ld mL_placeThen 4 2 5 := Or.inl ⟨2, z_D DL_placeThen_ok 4 rfl, rfl, rfl⟩
theorem eL_placeThen_5 : z_at mL_placeThen 5 (.invokevirtual 114) 3 8 ∧ z_lk mL_placeThen.1.cls 114 mX7_placeThen.1 ∧ z_mt mX7_placeThen 2 ∧ z_mv mX7_placeThen 7 := ⟨⟨z_D DL_placeThen_ok 5 rfl, rfl⟩, Or.inl w6_102, tX7_placeThen, vX7_placeThen⟩
theorem eL_placeThen_8 : z_at mL_placeThen 8 (.i2l) 1 9 := ⟨z_D DL_placeThen_ok 6 rfl, rfl⟩
theorem eL_placeThen_9 : z_at mL_placeThen 9 (.lastore) 1 10 := ⟨z_D DL_placeThen_ok 7 rfl, rfl⟩
theorem eL_placeThen_10 : z_br mL_placeThen 10 (.goto 11) (11) 13 21 := ⟨z_D DL_placeThen_ok 8 rfl, rfl, by decide⟩
theorem eL_placeThen_13 : z_asd mL_placeThen 13 4 15 := ⟨Or.inr ⟨z_D DL_placeThen_ok 9 rfl, rfl⟩, by decide⟩
theorem eL_placeThen_15 : z_co mL_placeThen 15 (1) 16 := Or.inl ⟨z_D DL_placeThen_ok 10 rfl, rfl⟩
theorem eL_placeThen_16 : z_at mL_placeThen 16 (.ireturn) 1 17 := ⟨z_D DL_placeThen_ok 11 rfl, rfl⟩
theorem eL_placeThen_17 : z_asd mL_placeThen 17 4 19 := ⟨Or.inr ⟨z_D DL_placeThen_ok 12 rfl, rfl⟩, by decide⟩
theorem eL_placeThen_19 : z_co mL_placeThen 19 (2) 20 := Or.inl ⟨z_D DL_placeThen_ok 13 rfl, rfl⟩
theorem eL_placeThen_20 : z_at mL_placeThen 20 (.ireturn) 1 21 := ⟨z_D DL_placeThen_ok 14 rfl, rfl⟩
theorem eL_placeThen_21 : z_co mL_placeThen 21 (0) 22 := Or.inl ⟨z_D DL_placeThen_ok 15 rfl, rfl⟩
theorem eL_placeThen_22 : z_at mL_placeThen 22 (.ireturn) 1 23 := ⟨z_D DL_placeThen_ok 16 rfl, rfl⟩
def DL_climb : List (Nat × Instr × Nat) := [(0, .aload_n 2, 1), (1, .iconst 0, 1), (2, .aload_n 0, 1), (3, .iload_n 1, 1), (4, .invokevirtual 117, 3), (7, .i2l, 1), (8, .lastore, 1), (9, .goto 6, 3), (12, .astore_n 3, 1), (13, .iconst 1, 1), (14, .ireturn, 1), (15, .iconst 0, 1), (16, .ireturn, 1)]
theorem DL_climb_ok : DL_climb.all (fun q => decide (decode mL_climb.2.1 q.1 = .ok q.2)) = true := by decide +kernel
theorem eL_climb_0 : z_ad mL_climb 0 2 1 := Or.inl ⟨2, z_D DL_climb_ok 0 rfl, rfl, rfl⟩
theorem eL_climb_1 : z_co mL_climb 1 (0) 2 := Or.inl ⟨z_D DL_climb_ok 1 rfl, rfl⟩
theorem eL_climb_2 : z_ad mL_climb 2 0 3 := Or.inl ⟨0, z_D DL_climb_ok 2 rfl, rfl, rfl⟩
theorem eL_climb_3 : z_ld mL_climb 3 1 4 := Or.inl ⟨1, z_D DL_climb_ok 3 rfl, rfl, rfl⟩
theorem eL_climb_4 : z_at mL_climb 4 (.invokevirtual 117) 3 7 ∧ z_lk mL_climb.1.cls 117 mX7_climb.1 ∧ z_mt mX7_climb 1 ∧ z_mv mX7_climb 7 := ⟨⟨z_D DL_climb_ok 4 rfl, rfl⟩, Or.inl w6_119, tX7_climb, vX7_climb⟩
theorem eL_climb_7 : z_at mL_climb 7 (.i2l) 1 8 := ⟨z_D DL_climb_ok 5 rfl, rfl⟩
theorem eL_climb_8 : z_at mL_climb 8 (.lastore) 1 9 := ⟨z_D DL_climb_ok 6 rfl, rfl⟩
theorem eL_climb_9 : z_br mL_climb 9 (.goto 6) (6) 12 15 := ⟨z_D DL_climb_ok 7 rfl, rfl, by decide⟩
theorem eL_climb_12 : z_asd mL_climb 12 3 13 := ⟨Or.inl ⟨3, z_D DL_climb_ok 8 rfl, rfl, rfl⟩, by decide⟩
theorem eL_climb_13 : z_co mL_climb 13 (1) 14 := Or.inl ⟨z_D DL_climb_ok 9 rfl, rfl⟩
theorem eL_climb_14 : z_at mL_climb 14 (.ireturn) 1 15 := ⟨z_D DL_climb_ok 10 rfl, rfl⟩
theorem eL_climb_15 : z_co mL_climb 15 (0) 16 := Or.inl ⟨z_D DL_climb_ok 11 rfl, rfl⟩
theorem eL_climb_16 : z_at mL_climb 16 (.ireturn) 1 17 := ⟨z_D DL_climb_ok 12 rfl, rfl⟩
def DL_best : List (Nat × Instr × Nat) := [(0, .aload_n 2, 1), (1, .iconst 0, 1), (2, .aload_n 0, 1), (3, .iload_n 1, 1), (4, .invokevirtual 120, 3), (7, .i2l, 1), (8, .lastore, 1), (9, .goto 6, 3), (12, .astore_n 3, 1), (13, .iconst 1, 1), (14, .ireturn, 1), (15, .iconst 0, 1), (16, .ireturn, 1)]
theorem DL_best_ok : DL_best.all (fun q => decide (decode mL_best.2.1 q.1 = .ok q.2)) = true := by decide +kernel
theorem eL_best_0 : z_ad mL_best 0 2 1 := Or.inl ⟨2, z_D DL_best_ok 0 rfl, rfl, rfl⟩
theorem eL_best_1 : z_co mL_best 1 (0) 2 := Or.inl ⟨z_D DL_best_ok 1 rfl, rfl⟩
theorem eL_best_2 : z_ad mL_best 2 0 3 := Or.inl ⟨0, z_D DL_best_ok 2 rfl, rfl, rfl⟩
theorem eL_best_3 : z_ld mL_best 3 1 4 := Or.inl ⟨1, z_D DL_best_ok 3 rfl, rfl, rfl⟩
theorem eL_best_4 : z_at mL_best 4 (.invokevirtual 120) 3 7 ∧ z_lk mL_best.1.cls 120 mX7_best.1 ∧ z_mt mX7_best 1 ∧ z_mv mX7_best 7 := ⟨⟨z_D DL_best_ok 4 rfl, rfl⟩, Or.inl w6_126, tX7_best, vX7_best⟩
theorem eL_best_7 : z_at mL_best 7 (.i2l) 1 8 := ⟨z_D DL_best_ok 5 rfl, rfl⟩
theorem eL_best_8 : z_at mL_best 8 (.lastore) 1 9 := ⟨z_D DL_best_ok 6 rfl, rfl⟩
theorem eL_best_9 : z_br mL_best 9 (.goto 6) (6) 12 15 := ⟨z_D DL_best_ok 7 rfl, rfl, by decide⟩
theorem eL_best_12 : z_asd mL_best 12 3 13 := ⟨Or.inl ⟨3, z_D DL_best_ok 8 rfl, rfl, rfl⟩, by decide⟩
theorem eL_best_13 : z_co mL_best 13 (1) 14 := Or.inl ⟨z_D DL_best_ok 9 rfl, rfl⟩
theorem eL_best_14 : z_at mL_best 14 (.ireturn) 1 15 := ⟨z_D DL_best_ok 10 rfl, rfl⟩
theorem eL_best_15 : z_co mL_best 15 (0) 16 := Or.inl ⟨z_D DL_best_ok 11 rfl, rfl⟩
theorem eL_best_16 : z_at mL_best 16 (.ireturn) 1 17 := ⟨z_D DL_best_ok 12 rfl, rfl⟩
def DL_members : List (Nat × Instr × Nat) := [(0, .aload_n 2, 1), (1, .iconst 0, 1), (2, .aload_n 0, 1), (3, .iload_n 1, 1), (4, .invokevirtual 123, 3), (7, .i2l, 1), (8, .lastore, 1), (9, .goto 6, 3), (12, .astore_n 3, 1), (13, .iconst 1, 1), (14, .ireturn, 1), (15, .iconst 0, 1), (16, .ireturn, 1)]
theorem DL_members_ok : DL_members.all (fun q => decide (decode mL_members.2.1 q.1 = .ok q.2)) = true := by decide +kernel
theorem eL_members_0 : z_ad mL_members 0 2 1 := Or.inl ⟨2, z_D DL_members_ok 0 rfl, rfl, rfl⟩
theorem eL_members_1 : z_co mL_members 1 (0) 2 := Or.inl ⟨z_D DL_members_ok 1 rfl, rfl⟩
theorem eL_members_2 : z_ad mL_members 2 0 3 := Or.inl ⟨0, z_D DL_members_ok 2 rfl, rfl, rfl⟩
theorem eL_members_3 : z_ld mL_members 3 1 4 := Or.inl ⟨1, z_D DL_members_ok 3 rfl, rfl, rfl⟩
theorem eL_members_4 : z_at mL_members 4 (.invokevirtual 123) 3 7 ∧ z_lk mL_members.1.cls 123 mX7_members.1 ∧ z_mt mX7_members 1 ∧ z_mv mX7_members 7 := ⟨⟨z_D DL_members_ok 4 rfl, rfl⟩, Or.inl w6_137, tX7_members, vX7_members⟩
theorem eL_members_7 : z_at mL_members 7 (.i2l) 1 8 := ⟨z_D DL_members_ok 5 rfl, rfl⟩
theorem eL_members_8 : z_at mL_members 8 (.lastore) 1 9 := ⟨z_D DL_members_ok 6 rfl, rfl⟩
theorem eL_members_9 : z_br mL_members 9 (.goto 6) (6) 12 15 := ⟨z_D DL_members_ok 7 rfl, rfl, by decide⟩
theorem eL_members_12 : z_asd mL_members 12 3 13 := ⟨Or.inl ⟨3, z_D DL_members_ok 8 rfl, rfl, rfl⟩, by decide⟩
theorem eL_members_13 : z_co mL_members 13 (1) 14 := Or.inl ⟨z_D DL_members_ok 9 rfl, rfl⟩
theorem eL_members_14 : z_at mL_members 14 (.ireturn) 1 15 := ⟨z_D DL_members_ok 10 rfl, rfl⟩
theorem eL_members_15 : z_co mL_members 15 (0) 16 := Or.inl ⟨z_D DL_members_ok 11 rfl, rfl⟩
theorem eL_members_16 : z_at mL_members 16 (.ireturn) 1 17 := ⟨z_D DL_members_ok 12 rfl, rfl⟩
def DL_teamScore : List (Nat × Instr × Nat) := [(0, .aload_n 2, 1), (1, .iconst 0, 1), (2, .aload_n 0, 1), (3, .iload_n 1, 1), (4, .invokevirtual 126, 3), (7, .i2l, 1), (8, .lastore, 1), (9, .goto 6, 3), (12, .astore_n 3, 1), (13, .iconst 1, 1), (14, .ireturn, 1), (15, .iconst 0, 1), (16, .ireturn, 1)]
theorem DL_teamScore_ok : DL_teamScore.all (fun q => decide (decode mL_teamScore.2.1 q.1 = .ok q.2)) = true := by decide +kernel
theorem eL_teamScore_0 : z_ad mL_teamScore 0 2 1 := Or.inl ⟨2, z_D DL_teamScore_ok 0 rfl, rfl, rfl⟩
theorem eL_teamScore_1 : z_co mL_teamScore 1 (0) 2 := Or.inl ⟨z_D DL_teamScore_ok 1 rfl, rfl⟩
theorem eL_teamScore_2 : z_ad mL_teamScore 2 0 3 := Or.inl ⟨0, z_D DL_teamScore_ok 2 rfl, rfl, rfl⟩
theorem eL_teamScore_3 : z_ld mL_teamScore 3 1 4 := Or.inl ⟨1, z_D DL_teamScore_ok 3 rfl, rfl, rfl⟩
theorem eL_teamScore_4 : z_at mL_teamScore 4 (.invokevirtual 126) 3 7 ∧ z_lk mL_teamScore.1.cls 126 mX7_teamScore.1 ∧ z_mt mX7_teamScore 1 ∧ z_mv mX7_teamScore 7 := ⟨⟨z_D DL_teamScore_ok 4 rfl, rfl⟩, Or.inl w6_148, tX7_teamScore, vX7_teamScore⟩
theorem eL_teamScore_7 : z_at mL_teamScore 7 (.i2l) 1 8 := ⟨z_D DL_teamScore_ok 5 rfl, rfl⟩
theorem eL_teamScore_8 : z_at mL_teamScore 8 (.lastore) 1 9 := ⟨z_D DL_teamScore_ok 6 rfl, rfl⟩
theorem eL_teamScore_9 : z_br mL_teamScore 9 (.goto 6) (6) 12 15 := ⟨z_D DL_teamScore_ok 7 rfl, rfl, by decide⟩
theorem eL_teamScore_12 : z_asd mL_teamScore 12 3 13 := ⟨Or.inl ⟨3, z_D DL_teamScore_ok 8 rfl, rfl, rfl⟩, by decide⟩
theorem eL_teamScore_13 : z_co mL_teamScore 13 (1) 14 := Or.inl ⟨z_D DL_teamScore_ok 9 rfl, rfl⟩
theorem eL_teamScore_14 : z_at mL_teamScore 14 (.ireturn) 1 15 := ⟨z_D DL_teamScore_ok 10 rfl, rfl⟩
theorem eL_teamScore_15 : z_co mL_teamScore 15 (0) 16 := Or.inl ⟨z_D DL_teamScore_ok 11 rfl, rfl⟩
theorem eL_teamScore_16 : z_at mL_teamScore 16 (.ireturn) 1 17 := ⟨z_D DL_teamScore_ok 12 rfl, rfl⟩
def DL_groupAt : List (Nat × Instr × Nat) := [(0, .aload_n 2, 1), (1, .iconst 0, 1), (2, .aload_n 0, 1), (3, .iload_n 1, 1), (4, .invokevirtual 129, 3), (7, .i2l, 1), (8, .lastore, 1), (9, .goto 6, 3), (12, .astore_n 3, 1), (13, .iconst 1, 1), (14, .ireturn, 1), (15, .iconst 0, 1), (16, .ireturn, 1)]
theorem DL_groupAt_ok : DL_groupAt.all (fun q => decide (decode mL_groupAt.2.1 q.1 = .ok q.2)) = true := by decide +kernel
theorem eL_groupAt_0 : z_ad mL_groupAt 0 2 1 := Or.inl ⟨2, z_D DL_groupAt_ok 0 rfl, rfl, rfl⟩
theorem eL_groupAt_1 : z_co mL_groupAt 1 (0) 2 := Or.inl ⟨z_D DL_groupAt_ok 1 rfl, rfl⟩
theorem eL_groupAt_2 : z_ad mL_groupAt 2 0 3 := Or.inl ⟨0, z_D DL_groupAt_ok 2 rfl, rfl, rfl⟩
theorem eL_groupAt_3 : z_ld mL_groupAt 3 1 4 := Or.inl ⟨1, z_D DL_groupAt_ok 3 rfl, rfl, rfl⟩
theorem eL_groupAt_4 : z_at mL_groupAt 4 (.invokevirtual 129) 3 7 ∧ z_lk mL_groupAt.1.cls 129 mX7_groupAt.1 ∧ z_mt mX7_groupAt 1 ∧ z_mv mX7_groupAt 7 := ⟨⟨z_D DL_groupAt_ok 4 rfl, rfl⟩, Or.inl w6_159, tX7_groupAt, vX7_groupAt⟩
theorem eL_groupAt_7 : z_at mL_groupAt 7 (.i2l) 1 8 := ⟨z_D DL_groupAt_ok 5 rfl, rfl⟩
theorem eL_groupAt_8 : z_at mL_groupAt 8 (.lastore) 1 9 := ⟨z_D DL_groupAt_ok 6 rfl, rfl⟩
theorem eL_groupAt_9 : z_br mL_groupAt 9 (.goto 6) (6) 12 15 := ⟨z_D DL_groupAt_ok 7 rfl, rfl, by decide⟩
theorem eL_groupAt_12 : z_asd mL_groupAt 12 3 13 := ⟨Or.inl ⟨3, z_D DL_groupAt_ok 8 rfl, rfl, rfl⟩, by decide⟩
theorem eL_groupAt_13 : z_co mL_groupAt 13 (1) 14 := Or.inl ⟨z_D DL_groupAt_ok 9 rfl, rfl⟩
theorem eL_groupAt_14 : z_at mL_groupAt 14 (.ireturn) 1 15 := ⟨z_D DL_groupAt_ok 10 rfl, rfl⟩
theorem eL_groupAt_15 : z_co mL_groupAt 15 (0) 16 := Or.inl ⟨z_D DL_groupAt_ok 11 rfl, rfl⟩
theorem eL_groupAt_16 : z_at mL_groupAt 16 (.ireturn) 1 17 := ⟨z_D DL_groupAt_ok 12 rfl, rfl⟩
def DL_inversions : List (Nat × Instr × Nat) := [(0, .aload_n 3, 1), (1, .iconst 0, 1), (2, .aload_n 0, 1), (3, .iload_n 1, 1), (4, .iload_n 2, 1), (5, .invokevirtual 132, 3), (8, .i2l, 1), (9, .lastore, 1), (10, .goto 7, 3), (13, .astore 4, 2), (15, .iconst 1, 1), (16, .ireturn, 1), (17, .iconst 0, 1), (18, .ireturn, 1)]
theorem DL_inversions_ok : DL_inversions.all (fun q => decide (decode mL_inversions.2.1 q.1 = .ok q.2)) = true := by decide +kernel
theorem eL_inversions_0 : z_ad mL_inversions 0 3 1 := Or.inl ⟨3, z_D DL_inversions_ok 0 rfl, rfl, rfl⟩
theorem eL_inversions_1 : z_co mL_inversions 1 (0) 2 := Or.inl ⟨z_D DL_inversions_ok 1 rfl, rfl⟩
theorem eL_inversions_2 : z_ad mL_inversions 2 0 3 := Or.inl ⟨0, z_D DL_inversions_ok 2 rfl, rfl, rfl⟩
theorem eL_inversions_3 : z_ld mL_inversions 3 1 4 := Or.inl ⟨1, z_D DL_inversions_ok 3 rfl, rfl, rfl⟩
theorem eL_inversions_4 : z_ld mL_inversions 4 2 5 := Or.inl ⟨2, z_D DL_inversions_ok 4 rfl, rfl, rfl⟩
theorem eL_inversions_5 : z_at mL_inversions 5 (.invokevirtual 132) 3 8 ∧ z_lk mL_inversions.1.cls 132 mX7_inversions.1 ∧ z_mt mX7_inversions 2 ∧ z_mv mX7_inversions 7 := ⟨⟨z_D DL_inversions_ok 5 rfl, rfl⟩, Or.inl w6_174, tX7_inversions, vX7_inversions⟩
theorem eL_inversions_8 : z_at mL_inversions 8 (.i2l) 1 9 := ⟨z_D DL_inversions_ok 6 rfl, rfl⟩
theorem eL_inversions_9 : z_at mL_inversions 9 (.lastore) 1 10 := ⟨z_D DL_inversions_ok 7 rfl, rfl⟩
theorem eL_inversions_10 : z_br mL_inversions 10 (.goto 7) (7) 13 17 := ⟨z_D DL_inversions_ok 8 rfl, rfl, by decide⟩
theorem eL_inversions_13 : z_asd mL_inversions 13 4 15 := ⟨Or.inr ⟨z_D DL_inversions_ok 9 rfl, rfl⟩, by decide⟩
theorem eL_inversions_15 : z_co mL_inversions 15 (1) 16 := Or.inl ⟨z_D DL_inversions_ok 10 rfl, rfl⟩
theorem eL_inversions_16 : z_at mL_inversions 16 (.ireturn) 1 17 := ⟨z_D DL_inversions_ok 11 rfl, rfl⟩
theorem eL_inversions_17 : z_co mL_inversions 17 (0) 18 := Or.inl ⟨z_D DL_inversions_ok 12 rfl, rfl⟩
theorem eL_inversions_18 : z_at mL_inversions 18 (.ireturn) 1 19 := ⟨z_D DL_inversions_ok 13 rfl, rfl⟩
def DL_swaps : List (Nat × Instr × Nat) := [(0, .aload_n 3, 1), (1, .iconst 0, 1), (2, .aload_n 0, 1), (3, .iload_n 1, 1), (4, .iload_n 2, 1), (5, .invokevirtual 135, 3), (8, .i2l, 1), (9, .lastore, 1), (10, .goto 7, 3), (13, .astore 4, 2), (15, .iconst 1, 1), (16, .ireturn, 1), (17, .iconst 0, 1), (18, .ireturn, 1)]
theorem DL_swaps_ok : DL_swaps.all (fun q => decide (decode mL_swaps.2.1 q.1 = .ok q.2)) = true := by decide +kernel
theorem eL_swaps_0 : z_ad mL_swaps 0 3 1 := Or.inl ⟨3, z_D DL_swaps_ok 0 rfl, rfl, rfl⟩
theorem eL_swaps_1 : z_co mL_swaps 1 (0) 2 := Or.inl ⟨z_D DL_swaps_ok 1 rfl, rfl⟩
theorem eL_swaps_2 : z_ad mL_swaps 2 0 3 := Or.inl ⟨0, z_D DL_swaps_ok 2 rfl, rfl, rfl⟩
theorem eL_swaps_3 : z_ld mL_swaps 3 1 4 := Or.inl ⟨1, z_D DL_swaps_ok 3 rfl, rfl, rfl⟩
theorem eL_swaps_4 : z_ld mL_swaps 4 2 5 := Or.inl ⟨2, z_D DL_swaps_ok 4 rfl, rfl, rfl⟩
theorem eL_swaps_5 : z_at mL_swaps 5 (.invokevirtual 135) 3 8 ∧ z_lk mL_swaps.1.cls 135 mX7_swaps.1 ∧ z_mt mX7_swaps 2 ∧ z_mv mX7_swaps 7 := ⟨⟨z_D DL_swaps_ok 5 rfl, rfl⟩, Or.inl w6_194, tX7_swaps, vX7_swaps⟩
theorem eL_swaps_8 : z_at mL_swaps 8 (.i2l) 1 9 := ⟨z_D DL_swaps_ok 6 rfl, rfl⟩
theorem eL_swaps_9 : z_at mL_swaps 9 (.lastore) 1 10 := ⟨z_D DL_swaps_ok 7 rfl, rfl⟩
theorem eL_swaps_10 : z_br mL_swaps 10 (.goto 7) (7) 13 17 := ⟨z_D DL_swaps_ok 8 rfl, rfl, by decide⟩
theorem eL_swaps_13 : z_asd mL_swaps 13 4 15 := ⟨Or.inr ⟨z_D DL_swaps_ok 9 rfl, rfl⟩, by decide⟩
theorem eL_swaps_15 : z_co mL_swaps 15 (1) 16 := Or.inl ⟨z_D DL_swaps_ok 10 rfl, rfl⟩
theorem eL_swaps_16 : z_at mL_swaps 16 (.ireturn) 1 17 := ⟨z_D DL_swaps_ok 11 rfl, rfl⟩
theorem eL_swaps_17 : z_co mL_swaps 17 (0) 18 := Or.inl ⟨z_D DL_swaps_ok 12 rfl, rfl⟩
theorem eL_swaps_18 : z_at mL_swaps 18 (.ireturn) 1 19 := ⟨z_D DL_swaps_ok 13 rfl, rfl⟩
def DL_beats : List (Nat × Instr × Nat) := [(0, .aload_n 2, 1), (1, .iconst 0, 1), (2, .aload_n 0, 1), (3, .iload_n 1, 1), (4, .invokevirtual 138, 3), (7, .f2d, 1), (8, .dastore, 1), (9, .goto 6, 3), (12, .astore_n 3, 1), (13, .iconst 1, 1), (14, .ireturn, 1), (15, .iconst 0, 1), (16, .ireturn, 1)]
theorem DL_beats_ok : DL_beats.all (fun q => decide (decode mL_beats.2.1 q.1 = .ok q.2)) = true := by decide +kernel
theorem eL_beats_0 : z_ad mL_beats 0 2 1 := Or.inl ⟨2, z_D DL_beats_ok 0 rfl, rfl, rfl⟩
theorem eL_beats_1 : z_co mL_beats 1 (0) 2 := Or.inl ⟨z_D DL_beats_ok 1 rfl, rfl⟩
theorem eL_beats_2 : z_ad mL_beats 2 0 3 := Or.inl ⟨0, z_D DL_beats_ok 2 rfl, rfl, rfl⟩
theorem eL_beats_3 : z_ld mL_beats 3 1 4 := Or.inl ⟨1, z_D DL_beats_ok 3 rfl, rfl, rfl⟩
theorem eL_beats_4 : z_at mL_beats 4 (.invokevirtual 138) 3 7 ∧ z_lk mL_beats.1.cls 138 mX7_beats.1 ∧ z_mt mX7_beats 1 ∧ z_mv mX7_beats 7 := ⟨⟨z_D DL_beats_ok 4 rfl, rfl⟩, Or.inl w6_205, tX7_beats, vX7_beats⟩
theorem eL_beats_7 : z_at mL_beats 7 (.f2d) 1 8 := ⟨z_D DL_beats_ok 5 rfl, rfl⟩
theorem eL_beats_8 : z_at mL_beats 8 (.dastore) 1 9 := ⟨z_D DL_beats_ok 6 rfl, rfl⟩
theorem eL_beats_9 : z_br mL_beats 9 (.goto 6) (6) 12 15 := ⟨z_D DL_beats_ok 7 rfl, rfl, by decide⟩
theorem eL_beats_12 : z_asd mL_beats 12 3 13 := ⟨Or.inl ⟨3, z_D DL_beats_ok 8 rfl, rfl, rfl⟩, by decide⟩
theorem eL_beats_13 : z_co mL_beats 13 (1) 14 := Or.inl ⟨z_D DL_beats_ok 9 rfl, rfl⟩
theorem eL_beats_14 : z_at mL_beats 14 (.ireturn) 1 15 := ⟨z_D DL_beats_ok 10 rfl, rfl⟩
theorem eL_beats_15 : z_co mL_beats 15 (0) 16 := Or.inl ⟨z_D DL_beats_ok 11 rfl, rfl⟩
theorem eL_beats_16 : z_at mL_beats 16 (.ireturn) 1 17 := ⟨z_D DL_beats_ok 12 rfl, rfl⟩
end LR
