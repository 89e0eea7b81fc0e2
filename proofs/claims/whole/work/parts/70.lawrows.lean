/-! THE LAW's rows (laid by wip/whole/gen/gen_law.py). -/
section LR
/-- what the tables say of a method with a table of handlers -/
def z_mtH (M : z_M) (hh : List (Nat × Nat × Nat × Nat)) (n : Nat) : Prop := Cond.codeWith M.1 M.2.1 M.2.2.1 M.2.2.2 hh ∈ lw_tbl ∧ Cond.initialized M.1.cls ∈ lw_tbl ∧ (M.1.cls ≠ "java/lang/invoke/MethodHandle" ∧ M.1.cls ≠ "java/lang/invoke/VarHandle") ∧ (parseMethodDescriptor M.1.desc).map (fun d => d.parameters.length) = some n ∧ M.2.2.1 ≤ 60
theorem w2_212 : (Jvm.Cond.codeWith ({ cls := "StandingsHallLaw", name := "append", desc := "(LStandingsHall;IIIII[J)I" } : Jvm.MethodName) method_3_code (8 : Nat) (Option.some Jvm.ClassFile.FieldType.int) [((0 : Nat), (16 : Nat), (19 : Nat), (13 : Nat))]) ∈ lw_tbl := z_in2 (List.mem_of_getElem? (i := 212) rfl)
theorem w1_0 : (Jvm.Cond.initialized "StandingsHallLaw") ∈ lw_tbl := z_in1 (List.mem_of_getElem? (i := 0) rfl)
theorem w2_211 : (Jvm.Cond.static ({ cls := "StandingsHallLaw", name := "append", desc := "(LStandingsHall;IIIII[J)I" } : Jvm.MethodName)) ∈ lw_tbl := z_in2 (List.mem_of_getElem? (i := 211) rfl)
theorem w3_57 : (Jvm.Cond.codeWith ({ cls := "StandingsHallLaw", name := "setOrder", desc := "(LStandingsHall;[J)I" } : Jvm.MethodName) method_4_code (3 : Nat) (Option.some Jvm.ClassFile.FieldType.int) [((0 : Nat), (8 : Nat), (11 : Nat), (19 : Nat))]) ∈ lw_tbl := z_in3 (List.mem_of_getElem? (i := 57) rfl)
theorem w3_56 : (Jvm.Cond.static ({ cls := "StandingsHallLaw", name := "setOrder", desc := "(LStandingsHall;[J)I" } : Jvm.MethodName)) ∈ lw_tbl := z_in3 (List.mem_of_getElem? (i := 56) rfl)
theorem w4_218 : (Jvm.Cond.codeWith ({ cls := "StandingsHallLaw", name := "criterion", desc := "(LStandingsHall;II[J)I" } : Jvm.MethodName) method_5_code (5 : Nat) (Option.some Jvm.ClassFile.FieldType.int) [((0 : Nat), (10 : Nat), (13 : Nat), (25 : Nat)), ((0 : Nat), (10 : Nat), (17 : Nat), (19 : Nat))]) ∈ lw_tbl := z_in4 (List.mem_of_getElem? (i := 218) rfl)
theorem w4_217 : (Jvm.Cond.static ({ cls := "StandingsHallLaw", name := "criterion", desc := "(LStandingsHall;II[J)I" } : Jvm.MethodName)) ∈ lw_tbl := z_in4 (List.mem_of_getElem? (i := 217) rfl)
theorem w4_235 : (Jvm.Cond.codeWith ({ cls := "StandingsHallLaw", name := "come", desc := "(LStandingsHall;I[J)I" } : Jvm.MethodName) method_6_code (4 : Nat) (Option.some Jvm.ClassFile.FieldType.int) [((0 : Nat), (9 : Nat), (12 : Nat), (19 : Nat)), ((0 : Nat), (9 : Nat), (15 : Nat), (13 : Nat))]) ∈ lw_tbl := z_in4 (List.mem_of_getElem? (i := 235) rfl)
theorem w4_234 : (Jvm.Cond.static ({ cls := "StandingsHallLaw", name := "come", desc := "(LStandingsHall;I[J)I" } : Jvm.MethodName)) ∈ lw_tbl := z_in4 (List.mem_of_getElem? (i := 234) rfl)
theorem w5_22 : (Jvm.Cond.codeWith ({ cls := "StandingsHallLaw", name := "leave", desc := "(LStandingsHall;I[J)I" } : Jvm.MethodName) method_7_code (4 : Nat) (Option.some Jvm.ClassFile.FieldType.int) [((0 : Nat), (9 : Nat), (12 : Nat), (25 : Nat))]) ∈ lw_tbl := z_in5 (List.mem_of_getElem? (i := 22) rfl)
theorem w5_21 : (Jvm.Cond.static ({ cls := "StandingsHallLaw", name := "leave", desc := "(LStandingsHall;I[J)I" } : Jvm.MethodName)) ∈ lw_tbl := z_in5 (List.mem_of_getElem? (i := 21) rfl)
theorem w5_57 : (Jvm.Cond.codeWith ({ cls := "StandingsHallLaw", name := "score", desc := "(LStandingsHall;III[J)I" } : Jvm.MethodName) method_8_code (6 : Nat) (Option.some Jvm.ClassFile.FieldType.int) [((0 : Nat), (12 : Nat), (15 : Nat), (25 : Nat)), ((0 : Nat), (12 : Nat), (19 : Nat), (19 : Nat))]) ∈ lw_tbl := z_in5 (List.mem_of_getElem? (i := 57) rfl)
theorem w5_56 : (Jvm.Cond.static ({ cls := "StandingsHallLaw", name := "score", desc := "(LStandingsHall;III[J)I" } : Jvm.MethodName)) ∈ lw_tbl := z_in5 (List.mem_of_getElem? (i := 56) rfl)
theorem w5_84 : (Jvm.Cond.codeWith ({ cls := "StandingsHallLaw", name := "setScore", desc := "(LStandingsHall;III[J)I" } : Jvm.MethodName) method_9_code (6 : Nat) (Option.some Jvm.ClassFile.FieldType.int) [((0 : Nat), (12 : Nat), (15 : Nat), (25 : Nat)), ((0 : Nat), (12 : Nat), (19 : Nat), (19 : Nat))]) ∈ lw_tbl := z_in5 (List.mem_of_getElem? (i := 84) rfl)
theorem w5_83 : (Jvm.Cond.static ({ cls := "StandingsHallLaw", name := "setScore", desc := "(LStandingsHall;III[J)I" } : Jvm.MethodName)) ∈ lw_tbl := z_in5 (List.mem_of_getElem? (i := 83) rfl)
theorem w5_91 : (Jvm.Cond.codeWith ({ cls := "StandingsHallLaw", name := "scoreOf", desc := "(LStandingsHall;II[J)I" } : Jvm.MethodName) method_10_code (5 : Nat) (Option.some Jvm.ClassFile.FieldType.int) [((0 : Nat), (10 : Nat), (13 : Nat), (25 : Nat)), ((0 : Nat), (10 : Nat), (17 : Nat), (19 : Nat))]) ∈ lw_tbl := z_in5 (List.mem_of_getElem? (i := 91) rfl)
theorem w5_90 : (Jvm.Cond.static ({ cls := "StandingsHallLaw", name := "scoreOf", desc := "(LStandingsHall;II[J)I" } : Jvm.MethodName)) ∈ lw_tbl := z_in5 (List.mem_of_getElem? (i := 90) rfl)
theorem w5_98 : (Jvm.Cond.codeWith ({ cls := "StandingsHallLaw", name := "groupOf", desc := "(LStandingsHall;I[J)I" } : Jvm.MethodName) method_11_code (4 : Nat) (Option.some Jvm.ClassFile.FieldType.int) [((0 : Nat), (9 : Nat), (12 : Nat), (25 : Nat))]) ∈ lw_tbl := z_in5 (List.mem_of_getElem? (i := 98) rfl)
theorem w5_97 : (Jvm.Cond.static ({ cls := "StandingsHallLaw", name := "groupOf", desc := "(LStandingsHall;I[J)I" } : Jvm.MethodName)) ∈ lw_tbl := z_in5 (List.mem_of_getElem? (i := 97) rfl)
theorem w5_105 : (Jvm.Cond.codeWith ({ cls := "StandingsHallLaw", name := "at", desc := "(LStandingsHall;I[J)I" } : Jvm.MethodName) method_12_code (4 : Nat) (Option.some Jvm.ClassFile.FieldType.int) [((0 : Nat), (9 : Nat), (12 : Nat), (25 : Nat))]) ∈ lw_tbl := z_in5 (List.mem_of_getElem? (i := 105) rfl)
theorem w5_104 : (Jvm.Cond.static ({ cls := "StandingsHallLaw", name := "at", desc := "(LStandingsHall;I[J)I" } : Jvm.MethodName)) ∈ lw_tbl := z_in5 (List.mem_of_getElem? (i := 104) rfl)
theorem w5_113 : (Jvm.Cond.codeWith ({ cls := "StandingsHallLaw", name := "place", desc := "(LStandingsHall;I[J)I" } : Jvm.MethodName) method_13_code (4 : Nat) (Option.some Jvm.ClassFile.FieldType.int) [((0 : Nat), (9 : Nat), (12 : Nat), (25 : Nat))]) ∈ lw_tbl := z_in5 (List.mem_of_getElem? (i := 113) rfl)
theorem w5_112 : (Jvm.Cond.static ({ cls := "StandingsHallLaw", name := "place", desc := "(LStandingsHall;I[J)I" } : Jvm.MethodName)) ∈ lw_tbl := z_in5 (List.mem_of_getElem? (i := 112) rfl)
theorem w5_120 : (Jvm.Cond.codeWith ({ cls := "StandingsHallLaw", name := "rank", desc := "(LStandingsHall;II[J)I" } : Jvm.MethodName) method_14_code (5 : Nat) (Option.some Jvm.ClassFile.FieldType.int) [((0 : Nat), (10 : Nat), (13 : Nat), (25 : Nat)), ((0 : Nat), (10 : Nat), (17 : Nat), (19 : Nat))]) ∈ lw_tbl := z_in5 (List.mem_of_getElem? (i := 120) rfl)
theorem w5_119 : (Jvm.Cond.static ({ cls := "StandingsHallLaw", name := "rank", desc := "(LStandingsHall;II[J)I" } : Jvm.MethodName)) ∈ lw_tbl := z_in5 (List.mem_of_getElem? (i := 119) rfl)
theorem w5_133 : (Jvm.Cond.codeWith ({ cls := "StandingsHallLaw", name := "alike", desc := "(LStandingsHall;I[J)I" } : Jvm.MethodName) method_15_code (4 : Nat) (Option.some Jvm.ClassFile.FieldType.int) [((0 : Nat), (9 : Nat), (12 : Nat), (25 : Nat))]) ∈ lw_tbl := z_in5 (List.mem_of_getElem? (i := 133) rfl)
theorem w5_132 : (Jvm.Cond.static ({ cls := "StandingsHallLaw", name := "alike", desc := "(LStandingsHall;I[J)I" } : Jvm.MethodName)) ∈ lw_tbl := z_in5 (List.mem_of_getElem? (i := 132) rfl)
theorem w5_141 : (Jvm.Cond.codeWith ({ cls := "StandingsHallLaw", name := "wouldGain", desc := "(LStandingsHall;III[J)I" } : Jvm.MethodName) method_16_code (6 : Nat) (Option.some Jvm.ClassFile.FieldType.int) [((0 : Nat), (12 : Nat), (15 : Nat), (25 : Nat)), ((0 : Nat), (12 : Nat), (19 : Nat), (19 : Nat))]) ∈ lw_tbl := z_in5 (List.mem_of_getElem? (i := 141) rfl)
theorem w5_140 : (Jvm.Cond.static ({ cls := "StandingsHallLaw", name := "wouldGain", desc := "(LStandingsHall;III[J)I" } : Jvm.MethodName)) ∈ lw_tbl := z_in5 (List.mem_of_getElem? (i := 140) rfl)
theorem w5_148 : (Jvm.Cond.codeWith ({ cls := "StandingsHallLaw", name := "needed", desc := "(LStandingsHall;II[J)I" } : Jvm.MethodName) method_17_code (5 : Nat) (Option.some Jvm.ClassFile.FieldType.int) [((0 : Nat), (10 : Nat), (13 : Nat), (25 : Nat)), ((0 : Nat), (10 : Nat), (17 : Nat), (19 : Nat))]) ∈ lw_tbl := z_in5 (List.mem_of_getElem? (i := 148) rfl)
theorem w5_147 : (Jvm.Cond.static ({ cls := "StandingsHallLaw", name := "needed", desc := "(LStandingsHall;II[J)I" } : Jvm.MethodName)) ∈ lw_tbl := z_in5 (List.mem_of_getElem? (i := 147) rfl)
theorem w5_166 : (Jvm.Cond.codeWith ({ cls := "StandingsHallLaw", name := "next", desc := "(LStandingsHall;I[J)I" } : Jvm.MethodName) method_18_code (4 : Nat) (Option.some Jvm.ClassFile.FieldType.int) [((0 : Nat), (9 : Nat), (12 : Nat), (68 : Nat))]) ∈ lw_tbl := z_in5 (List.mem_of_getElem? (i := 166) rfl)
theorem w5_165 : (Jvm.Cond.static ({ cls := "StandingsHallLaw", name := "next", desc := "(LStandingsHall;I[J)I" } : Jvm.MethodName)) ∈ lw_tbl := z_in5 (List.mem_of_getElem? (i := 165) rfl)
theorem w5_190 : (Jvm.Cond.codeWith ({ cls := "StandingsHallLaw", name := "between", desc := "(LStandingsHall;II[J)I" } : Jvm.MethodName) method_19_code (5 : Nat) (Option.some Jvm.ClassFile.FieldType.int) [((0 : Nat), (10 : Nat), (13 : Nat), (19 : Nat))]) ∈ lw_tbl := z_in5 (List.mem_of_getElem? (i := 190) rfl)
theorem w5_189 : (Jvm.Cond.static ({ cls := "StandingsHallLaw", name := "between", desc := "(LStandingsHall;II[J)I" } : Jvm.MethodName)) ∈ lw_tbl := z_in5 (List.mem_of_getElem? (i := 189) rfl)
theorem w5_198 : (Jvm.Cond.codeWith ({ cls := "StandingsHallLaw", name := "median", desc := "(LStandingsHall;Z[J)I" } : Jvm.MethodName) method_20_code (4 : Nat) (Option.some Jvm.ClassFile.FieldType.int) [((0 : Nat), (9 : Nat), (12 : Nat), (68 : Nat))]) ∈ lw_tbl := z_in5 (List.mem_of_getElem? (i := 198) rfl)
theorem w5_197 : (Jvm.Cond.static ({ cls := "StandingsHallLaw", name := "median", desc := "(LStandingsHall;Z[J)I" } : Jvm.MethodName)) ∈ lw_tbl := z_in5 (List.mem_of_getElem? (i := 197) rfl)
theorem w5_210 : (Jvm.Cond.codeWith ({ cls := "StandingsHallLaw", name := "quantile", desc := "(LStandingsHall;II[J)I" } : Jvm.MethodName) method_21_code (5 : Nat) (Option.some Jvm.ClassFile.FieldType.int) [((0 : Nat), (10 : Nat), (13 : Nat), (19 : Nat)), ((0 : Nat), (10 : Nat), (17 : Nat), (68 : Nat))]) ∈ lw_tbl := z_in5 (List.mem_of_getElem? (i := 210) rfl)
theorem w5_209 : (Jvm.Cond.static ({ cls := "StandingsHallLaw", name := "quantile", desc := "(LStandingsHall;II[J)I" } : Jvm.MethodName)) ∈ lw_tbl := z_in5 (List.mem_of_getElem? (i := 209) rfl)
theorem w5_219 : (Jvm.Cond.codeWith ({ cls := "StandingsHallLaw", name := "enter", desc := "(LStandingsHall;I[J)I" } : Jvm.MethodName) method_22_code (4 : Nat) (Option.some Jvm.ClassFile.FieldType.int) [((0 : Nat), (9 : Nat), (12 : Nat), (25 : Nat)), ((0 : Nat), (9 : Nat), (15 : Nat), (13 : Nat))]) ∈ lw_tbl := z_in5 (List.mem_of_getElem? (i := 219) rfl)
theorem w5_218 : (Jvm.Cond.static ({ cls := "StandingsHallLaw", name := "enter", desc := "(LStandingsHall;I[J)I" } : Jvm.MethodName)) ∈ lw_tbl := z_in5 (List.mem_of_getElem? (i := 218) rfl)
theorem w5_233 : (Jvm.Cond.codeWith ({ cls := "StandingsHallLaw", name := "challenge", desc := "(LStandingsHall;IIZ[J)I" } : Jvm.MethodName) method_23_code (6 : Nat) (Option.some Jvm.ClassFile.FieldType.int) [((0 : Nat), (12 : Nat), (15 : Nat), (25 : Nat)), ((0 : Nat), (12 : Nat), (19 : Nat), (13 : Nat))]) ∈ lw_tbl := z_in5 (List.mem_of_getElem? (i := 233) rfl)
theorem w5_232 : (Jvm.Cond.static ({ cls := "StandingsHallLaw", name := "challenge", desc := "(LStandingsHall;IIZ[J)I" } : Jvm.MethodName)) ∈ lw_tbl := z_in5 (List.mem_of_getElem? (i := 232) rfl)
theorem w6_7 : (Jvm.Cond.codeWith ({ cls := "StandingsHallLaw", name := "mayChallenge", desc := "(LStandingsHall;I[J)I" } : Jvm.MethodName) method_24_code (4 : Nat) (Option.some Jvm.ClassFile.FieldType.int) [((0 : Nat), (9 : Nat), (12 : Nat), (25 : Nat))]) ∈ lw_tbl := z_in6 (List.mem_of_getElem? (i := 7) rfl)
theorem w6_6 : (Jvm.Cond.static ({ cls := "StandingsHallLaw", name := "mayChallenge", desc := "(LStandingsHall;I[J)I" } : Jvm.MethodName)) ∈ lw_tbl := z_in6 (List.mem_of_getElem? (i := 6) rfl)
theorem w6_14 : (Jvm.Cond.codeWith ({ cls := "StandingsHallLaw", name := "setReach", desc := "(LStandingsHall;I[J)I" } : Jvm.MethodName) method_25_code (4 : Nat) (Option.some Jvm.ClassFile.FieldType.int) [((0 : Nat), (9 : Nat), (12 : Nat), (19 : Nat))]) ∈ lw_tbl := z_in6 (List.mem_of_getElem? (i := 14) rfl)
theorem w6_13 : (Jvm.Cond.static ({ cls := "StandingsHallLaw", name := "setReach", desc := "(LStandingsHall;I[J)I" } : Jvm.MethodName)) ∈ lw_tbl := z_in6 (List.mem_of_getElem? (i := 13) rfl)
theorem w6_22 : (Jvm.Cond.codeWith ({ cls := "StandingsHallLaw", name := "setPatience", desc := "(LStandingsHall;I[J)I" } : Jvm.MethodName) method_26_code (4 : Nat) (Option.some Jvm.ClassFile.FieldType.int) [((0 : Nat), (9 : Nat), (12 : Nat), (19 : Nat))]) ∈ lw_tbl := z_in6 (List.mem_of_getElem? (i := 22) rfl)
theorem w6_21 : (Jvm.Cond.static ({ cls := "StandingsHallLaw", name := "setPatience", desc := "(LStandingsHall;I[J)I" } : Jvm.MethodName)) ∈ lw_tbl := z_in6 (List.mem_of_getElem? (i := 21) rfl)
theorem w6_30 : (Jvm.Cond.codeWith ({ cls := "StandingsHallLaw", name := "ladderAt", desc := "(LStandingsHall;I[J)I" } : Jvm.MethodName) method_27_code (4 : Nat) (Option.some Jvm.ClassFile.FieldType.int) [((0 : Nat), (9 : Nat), (12 : Nat), (25 : Nat))]) ∈ lw_tbl := z_in6 (List.mem_of_getElem? (i := 30) rfl)
theorem w6_29 : (Jvm.Cond.static ({ cls := "StandingsHallLaw", name := "ladderAt", desc := "(LStandingsHall;I[J)I" } : Jvm.MethodName)) ∈ lw_tbl := z_in6 (List.mem_of_getElem? (i := 29) rfl)
theorem w6_37 : (Jvm.Cond.codeWith ({ cls := "StandingsHallLaw", name := "ladderPlace", desc := "(LStandingsHall;I[J)I" } : Jvm.MethodName) method_28_code (4 : Nat) (Option.some Jvm.ClassFile.FieldType.int) [((0 : Nat), (9 : Nat), (12 : Nat), (25 : Nat))]) ∈ lw_tbl := z_in6 (List.mem_of_getElem? (i := 37) rfl)
theorem w6_36 : (Jvm.Cond.static ({ cls := "StandingsHallLaw", name := "ladderPlace", desc := "(LStandingsHall;I[J)I" } : Jvm.MethodName)) ∈ lw_tbl := z_in6 (List.mem_of_getElem? (i := 36) rfl)
theorem w6_44 : (Jvm.Cond.codeWith ({ cls := "StandingsHallLaw", name := "endRound", desc := "(LStandingsHall;[J)I" } : Jvm.MethodName) method_29_code (3 : Nat) (Option.some Jvm.ClassFile.FieldType.int) [((0 : Nat), (8 : Nat), (11 : Nat), (13 : Nat))]) ∈ lw_tbl := z_in6 (List.mem_of_getElem? (i := 44) rfl)
theorem w6_43 : (Jvm.Cond.static ({ cls := "StandingsHallLaw", name := "endRound", desc := "(LStandingsHall;[J)I" } : Jvm.MethodName)) ∈ lw_tbl := z_in6 (List.mem_of_getElem? (i := 43) rfl)
theorem w6_67 : (Jvm.Cond.codeWith ({ cls := "StandingsHallLaw", name := "gain", desc := "(LStandingsHall;I[J)I" } : Jvm.MethodName) method_30_code (4 : Nat) (Option.some Jvm.ClassFile.FieldType.int) [((0 : Nat), (9 : Nat), (12 : Nat), (25 : Nat))]) ∈ lw_tbl := z_in6 (List.mem_of_getElem? (i := 67) rfl)
theorem w6_66 : (Jvm.Cond.static ({ cls := "StandingsHallLaw", name := "gain", desc := "(LStandingsHall;I[J)I" } : Jvm.MethodName)) ∈ lw_tbl := z_in6 (List.mem_of_getElem? (i := 66) rfl)
theorem w6_74 : (Jvm.Cond.codeWith ({ cls := "StandingsHallLaw", name := "form", desc := "(LStandingsHall;III[J)I" } : Jvm.MethodName) method_31_code (6 : Nat) (Option.some Jvm.ClassFile.FieldType.int) [((0 : Nat), (12 : Nat), (15 : Nat), (25 : Nat)), ((0 : Nat), (12 : Nat), (19 : Nat), (19 : Nat))]) ∈ lw_tbl := z_in6 (List.mem_of_getElem? (i := 74) rfl)
theorem w6_73 : (Jvm.Cond.static ({ cls := "StandingsHallLaw", name := "form", desc := "(LStandingsHall;III[J)I" } : Jvm.MethodName)) ∈ lw_tbl := z_in6 (List.mem_of_getElem? (i := 73) rfl)
theorem w6_94 : (Jvm.Cond.codeWith ({ cls := "StandingsHallLaw", name := "inForm", desc := "(LStandingsHall;II[J)I" } : Jvm.MethodName) method_32_code (5 : Nat) (Option.some Jvm.ClassFile.FieldType.int) [((0 : Nat), (10 : Nat), (13 : Nat), (19 : Nat)), ((0 : Nat), (10 : Nat), (17 : Nat), (68 : Nat))]) ∈ lw_tbl := z_in6 (List.mem_of_getElem? (i := 94) rfl)
theorem w6_93 : (Jvm.Cond.static ({ cls := "StandingsHallLaw", name := "inForm", desc := "(LStandingsHall;II[J)I" } : Jvm.MethodName)) ∈ lw_tbl := z_in6 (List.mem_of_getElem? (i := 93) rfl)
theorem w6_101 : (Jvm.Cond.codeWith ({ cls := "StandingsHallLaw", name := "placeThen", desc := "(LStandingsHall;II[J)I" } : Jvm.MethodName) method_33_code (5 : Nat) (Option.some Jvm.ClassFile.FieldType.int) [((0 : Nat), (10 : Nat), (13 : Nat), (68 : Nat)), ((0 : Nat), (10 : Nat), (17 : Nat), (19 : Nat))]) ∈ lw_tbl := z_in6 (List.mem_of_getElem? (i := 101) rfl)
theorem w6_100 : (Jvm.Cond.static ({ cls := "StandingsHallLaw", name := "placeThen", desc := "(LStandingsHall;II[J)I" } : Jvm.MethodName)) ∈ lw_tbl := z_in6 (List.mem_of_getElem? (i := 100) rfl)
theorem w6_118 : (Jvm.Cond.codeWith ({ cls := "StandingsHallLaw", name := "climb", desc := "(LStandingsHall;I[J)I" } : Jvm.MethodName) method_34_code (4 : Nat) (Option.some Jvm.ClassFile.FieldType.int) [((0 : Nat), (9 : Nat), (12 : Nat), (68 : Nat))]) ∈ lw_tbl := z_in6 (List.mem_of_getElem? (i := 118) rfl)
theorem w6_117 : (Jvm.Cond.static ({ cls := "StandingsHallLaw", name := "climb", desc := "(LStandingsHall;I[J)I" } : Jvm.MethodName)) ∈ lw_tbl := z_in6 (List.mem_of_getElem? (i := 117) rfl)
theorem w6_125 : (Jvm.Cond.codeWith ({ cls := "StandingsHallLaw", name := "best", desc := "(LStandingsHall;I[J)I" } : Jvm.MethodName) method_35_code (4 : Nat) (Option.some Jvm.ClassFile.FieldType.int) [((0 : Nat), (9 : Nat), (12 : Nat), (19 : Nat))]) ∈ lw_tbl := z_in6 (List.mem_of_getElem? (i := 125) rfl)
theorem w6_124 : (Jvm.Cond.static ({ cls := "StandingsHallLaw", name := "best", desc := "(LStandingsHall;I[J)I" } : Jvm.MethodName)) ∈ lw_tbl := z_in6 (List.mem_of_getElem? (i := 124) rfl)
theorem w6_136 : (Jvm.Cond.codeWith ({ cls := "StandingsHallLaw", name := "members", desc := "(LStandingsHall;I[J)I" } : Jvm.MethodName) method_36_code (4 : Nat) (Option.some Jvm.ClassFile.FieldType.int) [((0 : Nat), (9 : Nat), (12 : Nat), (19 : Nat))]) ∈ lw_tbl := z_in6 (List.mem_of_getElem? (i := 136) rfl)
theorem w6_135 : (Jvm.Cond.static ({ cls := "StandingsHallLaw", name := "members", desc := "(LStandingsHall;I[J)I" } : Jvm.MethodName)) ∈ lw_tbl := z_in6 (List.mem_of_getElem? (i := 135) rfl)
theorem w6_147 : (Jvm.Cond.codeWith ({ cls := "StandingsHallLaw", name := "teamScore", desc := "(LStandingsHall;I[J)I" } : Jvm.MethodName) method_37_code (4 : Nat) (Option.some Jvm.ClassFile.FieldType.int) [((0 : Nat), (9 : Nat), (12 : Nat), (19 : Nat))]) ∈ lw_tbl := z_in6 (List.mem_of_getElem? (i := 147) rfl)
theorem w6_146 : (Jvm.Cond.static ({ cls := "StandingsHallLaw", name := "teamScore", desc := "(LStandingsHall;I[J)I" } : Jvm.MethodName)) ∈ lw_tbl := z_in6 (List.mem_of_getElem? (i := 146) rfl)
theorem w6_158 : (Jvm.Cond.codeWith ({ cls := "StandingsHallLaw", name := "groupAt", desc := "(LStandingsHall;I[J)I" } : Jvm.MethodName) method_38_code (4 : Nat) (Option.some Jvm.ClassFile.FieldType.int) [((0 : Nat), (9 : Nat), (12 : Nat), (25 : Nat))]) ∈ lw_tbl := z_in6 (List.mem_of_getElem? (i := 158) rfl)
theorem w6_157 : (Jvm.Cond.static ({ cls := "StandingsHallLaw", name := "groupAt", desc := "(LStandingsHall;I[J)I" } : Jvm.MethodName)) ∈ lw_tbl := z_in6 (List.mem_of_getElem? (i := 157) rfl)
theorem w6_173 : (Jvm.Cond.codeWith ({ cls := "StandingsHallLaw", name := "inversions", desc := "(LStandingsHall;II[J)I" } : Jvm.MethodName) method_39_code (5 : Nat) (Option.some Jvm.ClassFile.FieldType.int) [((0 : Nat), (10 : Nat), (13 : Nat), (68 : Nat))]) ∈ lw_tbl := z_in6 (List.mem_of_getElem? (i := 173) rfl)
theorem w6_172 : (Jvm.Cond.static ({ cls := "StandingsHallLaw", name := "inversions", desc := "(LStandingsHall;II[J)I" } : Jvm.MethodName)) ∈ lw_tbl := z_in6 (List.mem_of_getElem? (i := 172) rfl)
theorem w6_193 : (Jvm.Cond.codeWith ({ cls := "StandingsHallLaw", name := "swaps", desc := "(LStandingsHall;II[J)I" } : Jvm.MethodName) method_40_code (5 : Nat) (Option.some Jvm.ClassFile.FieldType.int) [((0 : Nat), (10 : Nat), (13 : Nat), (68 : Nat))]) ∈ lw_tbl := z_in6 (List.mem_of_getElem? (i := 193) rfl)
theorem w6_192 : (Jvm.Cond.static ({ cls := "StandingsHallLaw", name := "swaps", desc := "(LStandingsHall;II[J)I" } : Jvm.MethodName)) ∈ lw_tbl := z_in6 (List.mem_of_getElem? (i := 192) rfl)
theorem w6_204 : (Jvm.Cond.codeWith ({ cls := "StandingsHallLaw", name := "beats", desc := "(LStandingsHall;I[D)I" } : Jvm.MethodName) method_41_code (4 : Nat) (Option.some Jvm.ClassFile.FieldType.int) [((0 : Nat), (9 : Nat), (12 : Nat), (25 : Nat))]) ∈ lw_tbl := z_in6 (List.mem_of_getElem? (i := 204) rfl)
theorem w6_203 : (Jvm.Cond.static ({ cls := "StandingsHallLaw", name := "beats", desc := "(LStandingsHall;I[D)I" } : Jvm.MethodName)) ∈ lw_tbl := z_in6 (List.mem_of_getElem? (i := 203) rfl)
theorem w2_214 : (Jvm.Cond.methodLink "StandingsHallLaw" (7 : Nat) ({ cls := "StandingsHall", name := "append", desc := "(IIIII)I" } : Jvm.MethodName)) ∈ lw_tbl := z_in2 (List.mem_of_getElem? (i := 214) rfl)
theorem w3_59 : (Jvm.Cond.methodLink "StandingsHallLaw" (15 : Nat) ({ cls := "StandingsHall", name := "setOrder", desc := "()I" } : Jvm.MethodName)) ∈ lw_tbl := z_in3 (List.mem_of_getElem? (i := 59) rfl)
theorem w4_220 : (Jvm.Cond.methodLink "StandingsHallLaw" (21 : Nat) ({ cls := "StandingsHall", name := "criterion", desc := "(II)I" } : Jvm.MethodName)) ∈ lw_tbl := z_in4 (List.mem_of_getElem? (i := 220) rfl)
theorem w4_236 : (Jvm.Cond.methodLink "StandingsHallLaw" (27 : Nat) ({ cls := "StandingsHall", name := "come", desc := "(I)I" } : Jvm.MethodName)) ∈ lw_tbl := z_in4 (List.mem_of_getElem? (i := 236) rfl)
theorem w5_23 : (Jvm.Cond.methodLink "StandingsHallLaw" (31 : Nat) ({ cls := "StandingsHall", name := "leave", desc := "(I)I" } : Jvm.MethodName)) ∈ lw_tbl := z_in5 (List.mem_of_getElem? (i := 23) rfl)
theorem w5_58 : (Jvm.Cond.methodLink "StandingsHallLaw" (34 : Nat) ({ cls := "StandingsHall", name := "score", desc := "(III)I" } : Jvm.MethodName)) ∈ lw_tbl := z_in5 (List.mem_of_getElem? (i := 58) rfl)
theorem w5_85 : (Jvm.Cond.methodLink "StandingsHallLaw" (38 : Nat) ({ cls := "StandingsHall", name := "setScore", desc := "(III)I" } : Jvm.MethodName)) ∈ lw_tbl := z_in5 (List.mem_of_getElem? (i := 85) rfl)
theorem w5_92 : (Jvm.Cond.methodLink "StandingsHallLaw" (41 : Nat) ({ cls := "StandingsHall", name := "scoreOf", desc := "(II)I" } : Jvm.MethodName)) ∈ lw_tbl := z_in5 (List.mem_of_getElem? (i := 92) rfl)
theorem w5_99 : (Jvm.Cond.methodLink "StandingsHallLaw" (44 : Nat) ({ cls := "StandingsHall", name := "groupOf", desc := "(I)I" } : Jvm.MethodName)) ∈ lw_tbl := z_in5 (List.mem_of_getElem? (i := 99) rfl)
theorem w5_106 : (Jvm.Cond.methodLink "StandingsHallLaw" (47 : Nat) ({ cls := "StandingsHall", name := "at", desc := "(I)I" } : Jvm.MethodName)) ∈ lw_tbl := z_in5 (List.mem_of_getElem? (i := 106) rfl)
theorem w5_114 : (Jvm.Cond.methodLink "StandingsHallLaw" (50 : Nat) ({ cls := "StandingsHall", name := "place", desc := "(I)I" } : Jvm.MethodName)) ∈ lw_tbl := z_in5 (List.mem_of_getElem? (i := 114) rfl)
theorem w5_121 : (Jvm.Cond.methodLink "StandingsHallLaw" (53 : Nat) ({ cls := "StandingsHall", name := "rank", desc := "(II)I" } : Jvm.MethodName)) ∈ lw_tbl := z_in5 (List.mem_of_getElem? (i := 121) rfl)
theorem w5_134 : (Jvm.Cond.methodLink "StandingsHallLaw" (56 : Nat) ({ cls := "StandingsHall", name := "alike", desc := "(I)I" } : Jvm.MethodName)) ∈ lw_tbl := z_in5 (List.mem_of_getElem? (i := 134) rfl)
theorem w5_142 : (Jvm.Cond.methodLink "StandingsHallLaw" (59 : Nat) ({ cls := "StandingsHall", name := "wouldGain", desc := "(III)I" } : Jvm.MethodName)) ∈ lw_tbl := z_in5 (List.mem_of_getElem? (i := 142) rfl)
theorem w5_149 : (Jvm.Cond.methodLink "StandingsHallLaw" (62 : Nat) ({ cls := "StandingsHall", name := "needed", desc := "(II)I" } : Jvm.MethodName)) ∈ lw_tbl := z_in5 (List.mem_of_getElem? (i := 149) rfl)
theorem w5_168 : (Jvm.Cond.methodLink "StandingsHallLaw" (65 : Nat) ({ cls := "StandingsHall", name := "next", desc := "(I)I" } : Jvm.MethodName)) ∈ lw_tbl := z_in5 (List.mem_of_getElem? (i := 168) rfl)
theorem w5_191 : (Jvm.Cond.methodLink "StandingsHallLaw" (70 : Nat) ({ cls := "StandingsHall", name := "between", desc := "(II)I" } : Jvm.MethodName)) ∈ lw_tbl := z_in5 (List.mem_of_getElem? (i := 191) rfl)
theorem w5_199 : (Jvm.Cond.methodLink "StandingsHallLaw" (73 : Nat) ({ cls := "StandingsHall", name := "median", desc := "(Z)I" } : Jvm.MethodName)) ∈ lw_tbl := z_in5 (List.mem_of_getElem? (i := 199) rfl)
theorem w5_211 : (Jvm.Cond.methodLink "StandingsHallLaw" (77 : Nat) ({ cls := "StandingsHall", name := "quantile", desc := "(II)I" } : Jvm.MethodName)) ∈ lw_tbl := z_in5 (List.mem_of_getElem? (i := 211) rfl)
theorem w5_220 : (Jvm.Cond.methodLink "StandingsHallLaw" (80 : Nat) ({ cls := "StandingsHall", name := "enter", desc := "(I)I" } : Jvm.MethodName)) ∈ lw_tbl := z_in5 (List.mem_of_getElem? (i := 220) rfl)
theorem w5_234 : (Jvm.Cond.methodLink "StandingsHallLaw" (83 : Nat) ({ cls := "StandingsHall", name := "challenge", desc := "(IIZ)I" } : Jvm.MethodName)) ∈ lw_tbl := z_in5 (List.mem_of_getElem? (i := 234) rfl)
theorem w6_8 : (Jvm.Cond.methodLink "StandingsHallLaw" (87 : Nat) ({ cls := "StandingsHall", name := "mayChallenge", desc := "(I)I" } : Jvm.MethodName)) ∈ lw_tbl := z_in6 (List.mem_of_getElem? (i := 8) rfl)
theorem w6_15 : (Jvm.Cond.methodLink "StandingsHallLaw" (90 : Nat) ({ cls := "StandingsHall", name := "setReach", desc := "(I)I" } : Jvm.MethodName)) ∈ lw_tbl := z_in6 (List.mem_of_getElem? (i := 15) rfl)
theorem w6_23 : (Jvm.Cond.methodLink "StandingsHallLaw" (93 : Nat) ({ cls := "StandingsHall", name := "setPatience", desc := "(I)I" } : Jvm.MethodName)) ∈ lw_tbl := z_in6 (List.mem_of_getElem? (i := 23) rfl)
theorem w6_31 : (Jvm.Cond.methodLink "StandingsHallLaw" (96 : Nat) ({ cls := "StandingsHall", name := "ladderAt", desc := "(I)I" } : Jvm.MethodName)) ∈ lw_tbl := z_in6 (List.mem_of_getElem? (i := 31) rfl)
theorem w6_38 : (Jvm.Cond.methodLink "StandingsHallLaw" (99 : Nat) ({ cls := "StandingsHall", name := "ladderPlace", desc := "(I)I" } : Jvm.MethodName)) ∈ lw_tbl := z_in6 (List.mem_of_getElem? (i := 38) rfl)
theorem w6_45 : (Jvm.Cond.methodLink "StandingsHallLaw" (102 : Nat) ({ cls := "StandingsHall", name := "endRound", desc := "()I" } : Jvm.MethodName)) ∈ lw_tbl := z_in6 (List.mem_of_getElem? (i := 45) rfl)
theorem w6_68 : (Jvm.Cond.methodLink "StandingsHallLaw" (105 : Nat) ({ cls := "StandingsHall", name := "gain", desc := "(I)I" } : Jvm.MethodName)) ∈ lw_tbl := z_in6 (List.mem_of_getElem? (i := 68) rfl)
theorem w6_75 : (Jvm.Cond.methodLink "StandingsHallLaw" (108 : Nat) ({ cls := "StandingsHall", name := "form", desc := "(III)I" } : Jvm.MethodName)) ∈ lw_tbl := z_in6 (List.mem_of_getElem? (i := 75) rfl)
theorem w6_95 : (Jvm.Cond.methodLink "StandingsHallLaw" (111 : Nat) ({ cls := "StandingsHall", name := "inForm", desc := "(II)I" } : Jvm.MethodName)) ∈ lw_tbl := z_in6 (List.mem_of_getElem? (i := 95) rfl)
theorem w6_102 : (Jvm.Cond.methodLink "StandingsHallLaw" (114 : Nat) ({ cls := "StandingsHall", name := "placeThen", desc := "(II)I" } : Jvm.MethodName)) ∈ lw_tbl := z_in6 (List.mem_of_getElem? (i := 102) rfl)
theorem w6_119 : (Jvm.Cond.methodLink "StandingsHallLaw" (117 : Nat) ({ cls := "StandingsHall", name := "climb", desc := "(I)I" } : Jvm.MethodName)) ∈ lw_tbl := z_in6 (List.mem_of_getElem? (i := 119) rfl)
theorem w6_126 : (Jvm.Cond.methodLink "StandingsHallLaw" (120 : Nat) ({ cls := "StandingsHall", name := "best", desc := "(I)I" } : Jvm.MethodName)) ∈ lw_tbl := z_in6 (List.mem_of_getElem? (i := 126) rfl)
theorem w6_137 : (Jvm.Cond.methodLink "StandingsHallLaw" (123 : Nat) ({ cls := "StandingsHall", name := "members", desc := "(I)I" } : Jvm.MethodName)) ∈ lw_tbl := z_in6 (List.mem_of_getElem? (i := 137) rfl)
theorem w6_148 : (Jvm.Cond.methodLink "StandingsHallLaw" (126 : Nat) ({ cls := "StandingsHall", name := "teamScore", desc := "(I)I" } : Jvm.MethodName)) ∈ lw_tbl := z_in6 (List.mem_of_getElem? (i := 148) rfl)
theorem w6_159 : (Jvm.Cond.methodLink "StandingsHallLaw" (129 : Nat) ({ cls := "StandingsHall", name := "groupAt", desc := "(I)I" } : Jvm.MethodName)) ∈ lw_tbl := z_in6 (List.mem_of_getElem? (i := 159) rfl)
theorem w6_174 : (Jvm.Cond.methodLink "StandingsHallLaw" (132 : Nat) ({ cls := "StandingsHall", name := "inversions", desc := "(II)I" } : Jvm.MethodName)) ∈ lw_tbl := z_in6 (List.mem_of_getElem? (i := 174) rfl)
theorem w6_194 : (Jvm.Cond.methodLink "StandingsHallLaw" (135 : Nat) ({ cls := "StandingsHall", name := "swaps", desc := "(II)I" } : Jvm.MethodName)) ∈ lw_tbl := z_in6 (List.mem_of_getElem? (i := 194) rfl)
theorem w6_205 : (Jvm.Cond.methodLink "StandingsHallLaw" (138 : Nat) ({ cls := "StandingsHall", name := "beats", desc := "(I)F" } : Jvm.MethodName)) ∈ lw_tbl := z_in6 (List.mem_of_getElem? (i := 205) rfl)
theorem w1_33 : (Jvm.Cond.classLink "StandingsHallLaw" (8 : Nat) "StandingsHall") ∈ lw_tbl := z_in1 (List.mem_of_getElem? (i := 33) rfl)
theorem w1_34 : (Jvm.Cond.instantiable "StandingsHall" (13 : Nat)) ∈ lw_tbl := z_in1 (List.mem_of_getElem? (i := 34) rfl)
theorem w1_35 : (Jvm.Cond.methodLink "StandingsHallLaw" (142 : Nat) ({ cls := "StandingsHall", name := "<init>", desc := "()V" } : Jvm.MethodName)) ∈ lw_tbl := z_in1 (List.mem_of_getElem? (i := 35) rfl)
theorem w6_217 : (Jvm.Cond.classLink "StandingsHallLaw" (143 : Nat) "StandingsHallModel") ∈ lw_tbl := z_in6 (List.mem_of_getElem? (i := 217) rfl)
theorem w6_218 : (Jvm.Cond.instantiable "StandingsHallModel" (32 : Nat)) ∈ lw_tbl := z_in6 (List.mem_of_getElem? (i := 218) rfl)
theorem w6_219 : (Jvm.Cond.methodLink "StandingsHallLaw" (145 : Nat) ({ cls := "StandingsHallModel", name := "<init>", desc := "()V" } : Jvm.MethodName)) ∈ lw_tbl := z_in6 (List.mem_of_getElem? (i := 219) rfl)
theorem w2_210 : (Jvm.Cond.methodLink "StandingsHallLaw" (146 : Nat) ({ cls := "StandingsHallLaw", name := "append", desc := "(LStandingsHall;IIIII[J)I" } : Jvm.MethodName)) ∈ lw_tbl := z_in2 (List.mem_of_getElem? (i := 210) rfl)
theorem w7_81 : (Jvm.Cond.methodLink "StandingsHallLaw" (151 : Nat) ({ cls := "StandingsHallModel", name := "append", desc := "(IIIII)I" } : Jvm.MethodName)) ∈ lw_tbl := z_in7 (List.mem_of_getElem? (i := 81) rfl)
theorem w6_213 : (Jvm.Cond.methodLink "StandingsHallLaw" (152 : Nat) ({ cls := "StandingsHallModel", name := "thrown", desc := "()I" } : Jvm.MethodName)) ∈ lw_tbl := z_in6 (List.mem_of_getElem? (i := 213) rfl)
theorem w2_39 : (Jvm.Cond.methodLink "StandingsHallLaw" (155 : Nat) ({ cls := "StandingsHall", name := "clearTape", desc := "()I" } : Jvm.MethodName)) ∈ lw_tbl := z_in2 (List.mem_of_getElem? (i := 39) rfl)
theorem w7_96 : (Jvm.Cond.methodLink "StandingsHallLaw" (158 : Nat) ({ cls := "StandingsHallModel", name := "clearTape", desc := "()I" } : Jvm.MethodName)) ∈ lw_tbl := z_in7 (List.mem_of_getElem? (i := 96) rfl)
theorem w3_55 : (Jvm.Cond.methodLink "StandingsHallLaw" (159 : Nat) ({ cls := "StandingsHallLaw", name := "setOrder", desc := "(LStandingsHall;[J)I" } : Jvm.MethodName)) ∈ lw_tbl := z_in3 (List.mem_of_getElem? (i := 55) rfl)
theorem w7_100 : (Jvm.Cond.methodLink "StandingsHallLaw" (162 : Nat) ({ cls := "StandingsHallModel", name := "setOrder", desc := "()I" } : Jvm.MethodName)) ∈ lw_tbl := z_in7 (List.mem_of_getElem? (i := 100) rfl)
theorem w2_43 : (Jvm.Cond.methodLink "StandingsHallLaw" (163 : Nat) ({ cls := "StandingsHall", name := "errorPosition", desc := "()I" } : Jvm.MethodName)) ∈ lw_tbl := z_in2 (List.mem_of_getElem? (i := 43) rfl)
theorem w7_130 : (Jvm.Cond.methodLink "StandingsHallLaw" (166 : Nat) ({ cls := "StandingsHallModel", name := "errorPosition", desc := "()I" } : Jvm.MethodName)) ∈ lw_tbl := z_in7 (List.mem_of_getElem? (i := 130) rfl)
theorem w4_216 : (Jvm.Cond.methodLink "StandingsHallLaw" (167 : Nat) ({ cls := "StandingsHallLaw", name := "criterion", desc := "(LStandingsHall;II[J)I" } : Jvm.MethodName)) ∈ lw_tbl := z_in4 (List.mem_of_getElem? (i := 216) rfl)
theorem w7_134 : (Jvm.Cond.methodLink "StandingsHallLaw" (170 : Nat) ({ cls := "StandingsHallModel", name := "criterion", desc := "(II)I" } : Jvm.MethodName)) ∈ lw_tbl := z_in7 (List.mem_of_getElem? (i := 134) rfl)
theorem w4_233 : (Jvm.Cond.methodLink "StandingsHallLaw" (171 : Nat) ({ cls := "StandingsHallLaw", name := "come", desc := "(LStandingsHall;I[J)I" } : Jvm.MethodName)) ∈ lw_tbl := z_in4 (List.mem_of_getElem? (i := 233) rfl)
theorem w7_146 : (Jvm.Cond.methodLink "StandingsHallLaw" (174 : Nat) ({ cls := "StandingsHallModel", name := "come", desc := "(I)I" } : Jvm.MethodName)) ∈ lw_tbl := z_in7 (List.mem_of_getElem? (i := 146) rfl)
theorem w5_20 : (Jvm.Cond.methodLink "StandingsHallLaw" (175 : Nat) ({ cls := "StandingsHallLaw", name := "leave", desc := "(LStandingsHall;I[J)I" } : Jvm.MethodName)) ∈ lw_tbl := z_in5 (List.mem_of_getElem? (i := 20) rfl)
theorem w7_154 : (Jvm.Cond.methodLink "StandingsHallLaw" (177 : Nat) ({ cls := "StandingsHallModel", name := "leave", desc := "(I)I" } : Jvm.MethodName)) ∈ lw_tbl := z_in7 (List.mem_of_getElem? (i := 154) rfl)
theorem w5_55 : (Jvm.Cond.methodLink "StandingsHallLaw" (178 : Nat) ({ cls := "StandingsHallLaw", name := "score", desc := "(LStandingsHall;III[J)I" } : Jvm.MethodName)) ∈ lw_tbl := z_in5 (List.mem_of_getElem? (i := 55) rfl)
theorem w7_174 : (Jvm.Cond.methodLink "StandingsHallLaw" (181 : Nat) ({ cls := "StandingsHallModel", name := "score", desc := "(III)I" } : Jvm.MethodName)) ∈ lw_tbl := z_in7 (List.mem_of_getElem? (i := 174) rfl)
theorem w5_82 : (Jvm.Cond.methodLink "StandingsHallLaw" (182 : Nat) ({ cls := "StandingsHallLaw", name := "setScore", desc := "(LStandingsHall;III[J)I" } : Jvm.MethodName)) ∈ lw_tbl := z_in5 (List.mem_of_getElem? (i := 82) rfl)
theorem w7_191 : (Jvm.Cond.methodLink "StandingsHallLaw" (184 : Nat) ({ cls := "StandingsHallModel", name := "setScore", desc := "(III)I" } : Jvm.MethodName)) ∈ lw_tbl := z_in7 (List.mem_of_getElem? (i := 191) rfl)
theorem w5_89 : (Jvm.Cond.methodLink "StandingsHallLaw" (185 : Nat) ({ cls := "StandingsHallLaw", name := "scoreOf", desc := "(LStandingsHall;II[J)I" } : Jvm.MethodName)) ∈ lw_tbl := z_in5 (List.mem_of_getElem? (i := 89) rfl)
theorem w7_195 : (Jvm.Cond.methodLink "StandingsHallLaw" (187 : Nat) ({ cls := "StandingsHallModel", name := "scoreOf", desc := "(II)I" } : Jvm.MethodName)) ∈ lw_tbl := z_in7 (List.mem_of_getElem? (i := 195) rfl)
theorem w5_96 : (Jvm.Cond.methodLink "StandingsHallLaw" (188 : Nat) ({ cls := "StandingsHallLaw", name := "groupOf", desc := "(LStandingsHall;I[J)I" } : Jvm.MethodName)) ∈ lw_tbl := z_in5 (List.mem_of_getElem? (i := 96) rfl)
theorem w7_199 : (Jvm.Cond.methodLink "StandingsHallLaw" (190 : Nat) ({ cls := "StandingsHallModel", name := "groupOf", desc := "(I)I" } : Jvm.MethodName)) ∈ lw_tbl := z_in7 (List.mem_of_getElem? (i := 199) rfl)
theorem w2_47 : (Jvm.Cond.methodLink "StandingsHallLaw" (191 : Nat) ({ cls := "StandingsHall", name := "entrants", desc := "()I" } : Jvm.MethodName)) ∈ lw_tbl := z_in2 (List.mem_of_getElem? (i := 47) rfl)
theorem w7_203 : (Jvm.Cond.methodLink "StandingsHallLaw" (194 : Nat) ({ cls := "StandingsHallModel", name := "entrants", desc := "()I" } : Jvm.MethodName)) ∈ lw_tbl := z_in7 (List.mem_of_getElem? (i := 203) rfl)
theorem w5_103 : (Jvm.Cond.methodLink "StandingsHallLaw" (195 : Nat) ({ cls := "StandingsHallLaw", name := "at", desc := "(LStandingsHall;I[J)I" } : Jvm.MethodName)) ∈ lw_tbl := z_in5 (List.mem_of_getElem? (i := 103) rfl)
theorem w7_211 : (Jvm.Cond.methodLink "StandingsHallLaw" (197 : Nat) ({ cls := "StandingsHallModel", name := "at", desc := "(I)I" } : Jvm.MethodName)) ∈ lw_tbl := z_in7 (List.mem_of_getElem? (i := 211) rfl)
theorem w5_111 : (Jvm.Cond.methodLink "StandingsHallLaw" (198 : Nat) ({ cls := "StandingsHallLaw", name := "place", desc := "(LStandingsHall;I[J)I" } : Jvm.MethodName)) ∈ lw_tbl := z_in5 (List.mem_of_getElem? (i := 111) rfl)
theorem w7_219 : (Jvm.Cond.methodLink "StandingsHallLaw" (200 : Nat) ({ cls := "StandingsHallModel", name := "place", desc := "(I)I" } : Jvm.MethodName)) ∈ lw_tbl := z_in7 (List.mem_of_getElem? (i := 219) rfl)
theorem w5_118 : (Jvm.Cond.methodLink "StandingsHallLaw" (201 : Nat) ({ cls := "StandingsHallLaw", name := "rank", desc := "(LStandingsHall;II[J)I" } : Jvm.MethodName)) ∈ lw_tbl := z_in5 (List.mem_of_getElem? (i := 118) rfl)
theorem w7_223 : (Jvm.Cond.methodLink "StandingsHallLaw" (203 : Nat) ({ cls := "StandingsHallModel", name := "rank", desc := "(II)I" } : Jvm.MethodName)) ∈ lw_tbl := z_in7 (List.mem_of_getElem? (i := 223) rfl)
theorem w5_131 : (Jvm.Cond.methodLink "StandingsHallLaw" (204 : Nat) ({ cls := "StandingsHallLaw", name := "alike", desc := "(LStandingsHall;I[J)I" } : Jvm.MethodName)) ∈ lw_tbl := z_in5 (List.mem_of_getElem? (i := 131) rfl)
theorem w8_3 : (Jvm.Cond.methodLink "StandingsHallLaw" (206 : Nat) ({ cls := "StandingsHallModel", name := "alike", desc := "(I)I" } : Jvm.MethodName)) ∈ lw_tbl := z_in8 (List.mem_of_getElem? (i := 3) rfl)
theorem w2_55 : (Jvm.Cond.methodLink "StandingsHallLaw" (207 : Nat) ({ cls := "StandingsHall", name := "results", desc := "()I" } : Jvm.MethodName)) ∈ lw_tbl := z_in2 (List.mem_of_getElem? (i := 55) rfl)
theorem w8_7 : (Jvm.Cond.methodLink "StandingsHallLaw" (210 : Nat) ({ cls := "StandingsHallModel", name := "results", desc := "()I" } : Jvm.MethodName)) ∈ lw_tbl := z_in8 (List.mem_of_getElem? (i := 7) rfl)
theorem w2_91 : (Jvm.Cond.methodLink "StandingsHallLaw" (211 : Nat) ({ cls := "StandingsHall", name := "rankSum", desc := "()I" } : Jvm.MethodName)) ∈ lw_tbl := z_in2 (List.mem_of_getElem? (i := 91) rfl)
theorem w8_11 : (Jvm.Cond.methodLink "StandingsHallLaw" (214 : Nat) ({ cls := "StandingsHallModel", name := "rankSum", desc := "()I" } : Jvm.MethodName)) ∈ lw_tbl := z_in8 (List.mem_of_getElem? (i := 11) rfl)
theorem w5_139 : (Jvm.Cond.methodLink "StandingsHallLaw" (215 : Nat) ({ cls := "StandingsHallLaw", name := "wouldGain", desc := "(LStandingsHall;III[J)I" } : Jvm.MethodName)) ∈ lw_tbl := z_in5 (List.mem_of_getElem? (i := 139) rfl)
theorem w8_15 : (Jvm.Cond.methodLink "StandingsHallLaw" (217 : Nat) ({ cls := "StandingsHallModel", name := "wouldGain", desc := "(III)I" } : Jvm.MethodName)) ∈ lw_tbl := z_in8 (List.mem_of_getElem? (i := 15) rfl)
theorem w5_146 : (Jvm.Cond.methodLink "StandingsHallLaw" (218 : Nat) ({ cls := "StandingsHallLaw", name := "needed", desc := "(LStandingsHall;II[J)I" } : Jvm.MethodName)) ∈ lw_tbl := z_in5 (List.mem_of_getElem? (i := 146) rfl)
theorem w8_19 : (Jvm.Cond.methodLink "StandingsHallLaw" (220 : Nat) ({ cls := "StandingsHallModel", name := "needed", desc := "(II)I" } : Jvm.MethodName)) ∈ lw_tbl := z_in8 (List.mem_of_getElem? (i := 19) rfl)
theorem w2_109 : (Jvm.Cond.methodLink "StandingsHallLaw" (221 : Nat) ({ cls := "StandingsHall", name := "above", desc := "(I)I" } : Jvm.MethodName)) ∈ lw_tbl := z_in2 (List.mem_of_getElem? (i := 109) rfl)
theorem w8_24 : (Jvm.Cond.methodLink "StandingsHallLaw" (224 : Nat) ({ cls := "StandingsHallModel", name := "above", desc := "(I)I" } : Jvm.MethodName)) ∈ lw_tbl := z_in8 (List.mem_of_getElem? (i := 24) rfl)
theorem w2_124 : (Jvm.Cond.methodLink "StandingsHallLaw" (225 : Nat) ({ cls := "StandingsHall", name := "with", desc := "(I)I" } : Jvm.MethodName)) ∈ lw_tbl := z_in2 (List.mem_of_getElem? (i := 124) rfl)
theorem w8_32 : (Jvm.Cond.methodLink "StandingsHallLaw" (228 : Nat) ({ cls := "StandingsHallModel", name := "with", desc := "(I)I" } : Jvm.MethodName)) ∈ lw_tbl := z_in8 (List.mem_of_getElem? (i := 32) rfl)
theorem w2_132 : (Jvm.Cond.methodLink "StandingsHallLaw" (229 : Nat) ({ cls := "StandingsHall", name := "withAt", desc := "(II)I" } : Jvm.MethodName)) ∈ lw_tbl := z_in2 (List.mem_of_getElem? (i := 132) rfl)
theorem w8_36 : (Jvm.Cond.methodLink "StandingsHallLaw" (232 : Nat) ({ cls := "StandingsHallModel", name := "withAt", desc := "(II)I" } : Jvm.MethodName)) ∈ lw_tbl := z_in8 (List.mem_of_getElem? (i := 36) rfl)
theorem w5_164 : (Jvm.Cond.methodLink "StandingsHallLaw" (233 : Nat) ({ cls := "StandingsHallLaw", name := "next", desc := "(LStandingsHall;I[J)I" } : Jvm.MethodName)) ∈ lw_tbl := z_in5 (List.mem_of_getElem? (i := 164) rfl)
theorem w8_40 : (Jvm.Cond.methodLink "StandingsHallLaw" (235 : Nat) ({ cls := "StandingsHallModel", name := "next", desc := "(I)I" } : Jvm.MethodName)) ∈ lw_tbl := z_in8 (List.mem_of_getElem? (i := 40) rfl)
theorem w5_188 : (Jvm.Cond.methodLink "StandingsHallLaw" (236 : Nat) ({ cls := "StandingsHallLaw", name := "between", desc := "(LStandingsHall;II[J)I" } : Jvm.MethodName)) ∈ lw_tbl := z_in5 (List.mem_of_getElem? (i := 188) rfl)
theorem w8_44 : (Jvm.Cond.methodLink "StandingsHallLaw" (238 : Nat) ({ cls := "StandingsHallModel", name := "between", desc := "(II)I" } : Jvm.MethodName)) ∈ lw_tbl := z_in8 (List.mem_of_getElem? (i := 44) rfl)
theorem w5_196 : (Jvm.Cond.methodLink "StandingsHallLaw" (239 : Nat) ({ cls := "StandingsHallLaw", name := "median", desc := "(LStandingsHall;Z[J)I" } : Jvm.MethodName)) ∈ lw_tbl := z_in5 (List.mem_of_getElem? (i := 196) rfl)
theorem w8_48 : (Jvm.Cond.methodLink "StandingsHallLaw" (242 : Nat) ({ cls := "StandingsHallModel", name := "median", desc := "(Z)I" } : Jvm.MethodName)) ∈ lw_tbl := z_in8 (List.mem_of_getElem? (i := 48) rfl)
theorem w5_208 : (Jvm.Cond.methodLink "StandingsHallLaw" (243 : Nat) ({ cls := "StandingsHallLaw", name := "quantile", desc := "(LStandingsHall;II[J)I" } : Jvm.MethodName)) ∈ lw_tbl := z_in5 (List.mem_of_getElem? (i := 208) rfl)
theorem w8_56 : (Jvm.Cond.methodLink "StandingsHallLaw" (245 : Nat) ({ cls := "StandingsHallModel", name := "quantile", desc := "(II)I" } : Jvm.MethodName)) ∈ lw_tbl := z_in8 (List.mem_of_getElem? (i := 56) rfl)
theorem w5_217 : (Jvm.Cond.methodLink "StandingsHallLaw" (246 : Nat) ({ cls := "StandingsHallLaw", name := "enter", desc := "(LStandingsHall;I[J)I" } : Jvm.MethodName)) ∈ lw_tbl := z_in5 (List.mem_of_getElem? (i := 217) rfl)
theorem w8_60 : (Jvm.Cond.methodLink "StandingsHallLaw" (248 : Nat) ({ cls := "StandingsHallModel", name := "enter", desc := "(I)I" } : Jvm.MethodName)) ∈ lw_tbl := z_in8 (List.mem_of_getElem? (i := 60) rfl)
theorem w5_231 : (Jvm.Cond.methodLink "StandingsHallLaw" (249 : Nat) ({ cls := "StandingsHallLaw", name := "challenge", desc := "(LStandingsHall;IIZ[J)I" } : Jvm.MethodName)) ∈ lw_tbl := z_in5 (List.mem_of_getElem? (i := 231) rfl)
theorem w8_64 : (Jvm.Cond.methodLink "StandingsHallLaw" (252 : Nat) ({ cls := "StandingsHallModel", name := "challenge", desc := "(IIZ)I" } : Jvm.MethodName)) ∈ lw_tbl := z_in8 (List.mem_of_getElem? (i := 64) rfl)
theorem w6_5 : (Jvm.Cond.methodLink "StandingsHallLaw" (253 : Nat) ({ cls := "StandingsHallLaw", name := "mayChallenge", desc := "(LStandingsHall;I[J)I" } : Jvm.MethodName)) ∈ lw_tbl := z_in6 (List.mem_of_getElem? (i := 5) rfl)
theorem w8_68 : (Jvm.Cond.methodLink "StandingsHallLaw" (255 : Nat) ({ cls := "StandingsHallModel", name := "mayChallenge", desc := "(I)I" } : Jvm.MethodName)) ∈ lw_tbl := z_in8 (List.mem_of_getElem? (i := 68) rfl)
theorem w6_12 : (Jvm.Cond.methodLink "StandingsHallLaw" (256 : Nat) ({ cls := "StandingsHallLaw", name := "setReach", desc := "(LStandingsHall;I[J)I" } : Jvm.MethodName)) ∈ lw_tbl := z_in6 (List.mem_of_getElem? (i := 12) rfl)
theorem w8_72 : (Jvm.Cond.methodLink "StandingsHallLaw" (258 : Nat) ({ cls := "StandingsHallModel", name := "setReach", desc := "(I)I" } : Jvm.MethodName)) ∈ lw_tbl := z_in8 (List.mem_of_getElem? (i := 72) rfl)
theorem w6_20 : (Jvm.Cond.methodLink "StandingsHallLaw" (259 : Nat) ({ cls := "StandingsHallLaw", name := "setPatience", desc := "(LStandingsHall;I[J)I" } : Jvm.MethodName)) ∈ lw_tbl := z_in6 (List.mem_of_getElem? (i := 20) rfl)
theorem w8_76 : (Jvm.Cond.methodLink "StandingsHallLaw" (261 : Nat) ({ cls := "StandingsHallModel", name := "setPatience", desc := "(I)I" } : Jvm.MethodName)) ∈ lw_tbl := z_in8 (List.mem_of_getElem? (i := 76) rfl)
theorem w6_28 : (Jvm.Cond.methodLink "StandingsHallLaw" (262 : Nat) ({ cls := "StandingsHallLaw", name := "ladderAt", desc := "(LStandingsHall;I[J)I" } : Jvm.MethodName)) ∈ lw_tbl := z_in6 (List.mem_of_getElem? (i := 28) rfl)
theorem w8_80 : (Jvm.Cond.methodLink "StandingsHallLaw" (264 : Nat) ({ cls := "StandingsHallModel", name := "ladderAt", desc := "(I)I" } : Jvm.MethodName)) ∈ lw_tbl := z_in8 (List.mem_of_getElem? (i := 80) rfl)
theorem w6_35 : (Jvm.Cond.methodLink "StandingsHallLaw" (265 : Nat) ({ cls := "StandingsHallLaw", name := "ladderPlace", desc := "(LStandingsHall;I[J)I" } : Jvm.MethodName)) ∈ lw_tbl := z_in6 (List.mem_of_getElem? (i := 35) rfl)
theorem w8_84 : (Jvm.Cond.methodLink "StandingsHallLaw" (267 : Nat) ({ cls := "StandingsHallModel", name := "ladderPlace", desc := "(I)I" } : Jvm.MethodName)) ∈ lw_tbl := z_in8 (List.mem_of_getElem? (i := 84) rfl)
theorem w6_42 : (Jvm.Cond.methodLink "StandingsHallLaw" (268 : Nat) ({ cls := "StandingsHallLaw", name := "endRound", desc := "(LStandingsHall;[J)I" } : Jvm.MethodName)) ∈ lw_tbl := z_in6 (List.mem_of_getElem? (i := 42) rfl)
theorem w8_88 : (Jvm.Cond.methodLink "StandingsHallLaw" (270 : Nat) ({ cls := "StandingsHallModel", name := "endRound", desc := "()I" } : Jvm.MethodName)) ∈ lw_tbl := z_in8 (List.mem_of_getElem? (i := 88) rfl)
theorem w2_136 : (Jvm.Cond.methodLink "StandingsHallLaw" (271 : Nat) ({ cls := "StandingsHall", name := "round", desc := "()I" } : Jvm.MethodName)) ∈ lw_tbl := z_in2 (List.mem_of_getElem? (i := 136) rfl)
theorem w8_100 : (Jvm.Cond.methodLink "StandingsHallLaw" (274 : Nat) ({ cls := "StandingsHallModel", name := "round", desc := "()I" } : Jvm.MethodName)) ∈ lw_tbl := z_in8 (List.mem_of_getElem? (i := 100) rfl)
theorem w6_65 : (Jvm.Cond.methodLink "StandingsHallLaw" (275 : Nat) ({ cls := "StandingsHallLaw", name := "gain", desc := "(LStandingsHall;I[J)I" } : Jvm.MethodName)) ∈ lw_tbl := z_in6 (List.mem_of_getElem? (i := 65) rfl)
theorem w8_104 : (Jvm.Cond.methodLink "StandingsHallLaw" (277 : Nat) ({ cls := "StandingsHallModel", name := "gain", desc := "(I)I" } : Jvm.MethodName)) ∈ lw_tbl := z_in8 (List.mem_of_getElem? (i := 104) rfl)
theorem w6_72 : (Jvm.Cond.methodLink "StandingsHallLaw" (278 : Nat) ({ cls := "StandingsHallLaw", name := "form", desc := "(LStandingsHall;III[J)I" } : Jvm.MethodName)) ∈ lw_tbl := z_in6 (List.mem_of_getElem? (i := 72) rfl)
theorem w8_108 : (Jvm.Cond.methodLink "StandingsHallLaw" (280 : Nat) ({ cls := "StandingsHallModel", name := "form", desc := "(III)I" } : Jvm.MethodName)) ∈ lw_tbl := z_in8 (List.mem_of_getElem? (i := 108) rfl)
theorem w6_92 : (Jvm.Cond.methodLink "StandingsHallLaw" (281 : Nat) ({ cls := "StandingsHallLaw", name := "inForm", desc := "(LStandingsHall;II[J)I" } : Jvm.MethodName)) ∈ lw_tbl := z_in6 (List.mem_of_getElem? (i := 92) rfl)
theorem w8_119 : (Jvm.Cond.methodLink "StandingsHallLaw" (283 : Nat) ({ cls := "StandingsHallModel", name := "inForm", desc := "(II)I" } : Jvm.MethodName)) ∈ lw_tbl := z_in8 (List.mem_of_getElem? (i := 119) rfl)
theorem w6_99 : (Jvm.Cond.methodLink "StandingsHallLaw" (284 : Nat) ({ cls := "StandingsHallLaw", name := "placeThen", desc := "(LStandingsHall;II[J)I" } : Jvm.MethodName)) ∈ lw_tbl := z_in6 (List.mem_of_getElem? (i := 99) rfl)
theorem w8_123 : (Jvm.Cond.methodLink "StandingsHallLaw" (286 : Nat) ({ cls := "StandingsHallModel", name := "placeThen", desc := "(II)I" } : Jvm.MethodName)) ∈ lw_tbl := z_in8 (List.mem_of_getElem? (i := 123) rfl)
theorem w6_116 : (Jvm.Cond.methodLink "StandingsHallLaw" (287 : Nat) ({ cls := "StandingsHallLaw", name := "climb", desc := "(LStandingsHall;I[J)I" } : Jvm.MethodName)) ∈ lw_tbl := z_in6 (List.mem_of_getElem? (i := 116) rfl)
theorem w8_135 : (Jvm.Cond.methodLink "StandingsHallLaw" (289 : Nat) ({ cls := "StandingsHallModel", name := "climb", desc := "(I)I" } : Jvm.MethodName)) ∈ lw_tbl := z_in8 (List.mem_of_getElem? (i := 135) rfl)
theorem w6_123 : (Jvm.Cond.methodLink "StandingsHallLaw" (290 : Nat) ({ cls := "StandingsHallLaw", name := "best", desc := "(LStandingsHall;I[J)I" } : Jvm.MethodName)) ∈ lw_tbl := z_in6 (List.mem_of_getElem? (i := 123) rfl)
theorem w8_139 : (Jvm.Cond.methodLink "StandingsHallLaw" (292 : Nat) ({ cls := "StandingsHallModel", name := "best", desc := "(I)I" } : Jvm.MethodName)) ∈ lw_tbl := z_in8 (List.mem_of_getElem? (i := 139) rfl)
theorem w6_134 : (Jvm.Cond.methodLink "StandingsHallLaw" (293 : Nat) ({ cls := "StandingsHallLaw", name := "members", desc := "(LStandingsHall;I[J)I" } : Jvm.MethodName)) ∈ lw_tbl := z_in6 (List.mem_of_getElem? (i := 134) rfl)
theorem w8_151 : (Jvm.Cond.methodLink "StandingsHallLaw" (295 : Nat) ({ cls := "StandingsHallModel", name := "members", desc := "(I)I" } : Jvm.MethodName)) ∈ lw_tbl := z_in8 (List.mem_of_getElem? (i := 151) rfl)
theorem w6_145 : (Jvm.Cond.methodLink "StandingsHallLaw" (296 : Nat) ({ cls := "StandingsHallLaw", name := "teamScore", desc := "(LStandingsHall;I[J)I" } : Jvm.MethodName)) ∈ lw_tbl := z_in6 (List.mem_of_getElem? (i := 145) rfl)
theorem w8_155 : (Jvm.Cond.methodLink "StandingsHallLaw" (298 : Nat) ({ cls := "StandingsHallModel", name := "teamScore", desc := "(I)I" } : Jvm.MethodName)) ∈ lw_tbl := z_in8 (List.mem_of_getElem? (i := 155) rfl)
theorem w6_156 : (Jvm.Cond.methodLink "StandingsHallLaw" (299 : Nat) ({ cls := "StandingsHallLaw", name := "groupAt", desc := "(LStandingsHall;I[J)I" } : Jvm.MethodName)) ∈ lw_tbl := z_in6 (List.mem_of_getElem? (i := 156) rfl)
theorem w8_163 : (Jvm.Cond.methodLink "StandingsHallLaw" (301 : Nat) ({ cls := "StandingsHallModel", name := "groupAt", desc := "(I)I" } : Jvm.MethodName)) ∈ lw_tbl := z_in8 (List.mem_of_getElem? (i := 163) rfl)
theorem w6_171 : (Jvm.Cond.methodLink "StandingsHallLaw" (302 : Nat) ({ cls := "StandingsHallLaw", name := "inversions", desc := "(LStandingsHall;II[J)I" } : Jvm.MethodName)) ∈ lw_tbl := z_in6 (List.mem_of_getElem? (i := 171) rfl)
theorem w8_171 : (Jvm.Cond.methodLink "StandingsHallLaw" (304 : Nat) ({ cls := "StandingsHallModel", name := "inversions", desc := "(II)I" } : Jvm.MethodName)) ∈ lw_tbl := z_in8 (List.mem_of_getElem? (i := 171) rfl)
theorem w6_191 : (Jvm.Cond.methodLink "StandingsHallLaw" (305 : Nat) ({ cls := "StandingsHallLaw", name := "swaps", desc := "(LStandingsHall;II[J)I" } : Jvm.MethodName)) ∈ lw_tbl := z_in6 (List.mem_of_getElem? (i := 191) rfl)
theorem w8_183 : (Jvm.Cond.methodLink "StandingsHallLaw" (307 : Nat) ({ cls := "StandingsHallModel", name := "swaps", desc := "(II)I" } : Jvm.MethodName)) ∈ lw_tbl := z_in8 (List.mem_of_getElem? (i := 183) rfl)
theorem w2_140 : (Jvm.Cond.methodLink "StandingsHallLaw" (308 : Nat) ({ cls := "StandingsHall", name := "meanPoints", desc := "()D" } : Jvm.MethodName)) ∈ lw_tbl := z_in2 (List.mem_of_getElem? (i := 140) rfl)
theorem w8_187 : (Jvm.Cond.methodLink "StandingsHallLaw" (312 : Nat) ({ cls := "StandingsHallModel", name := "meanPoints", desc := "()D" } : Jvm.MethodName)) ∈ lw_tbl := z_in8 (List.mem_of_getElem? (i := 187) rfl)
theorem w6_202 : (Jvm.Cond.methodLink "StandingsHallLaw" (313 : Nat) ({ cls := "StandingsHallLaw", name := "beats", desc := "(LStandingsHall;I[D)I" } : Jvm.MethodName)) ∈ lw_tbl := z_in6 (List.mem_of_getElem? (i := 202) rfl)
theorem w8_191 : (Jvm.Cond.methodLink "StandingsHallLaw" (316 : Nat) ({ cls := "StandingsHallModel", name := "beats", desc := "(I)F" } : Jvm.MethodName)) ∈ lw_tbl := z_in8 (List.mem_of_getElem? (i := 191) rfl)
theorem w2_145 : (Jvm.Cond.methodLink "StandingsHallLaw" (317 : Nat) ({ cls := "StandingsHall", name := "errors", desc := "()I" } : Jvm.MethodName)) ∈ lw_tbl := z_in2 (List.mem_of_getElem? (i := 145) rfl)
theorem w8_195 : (Jvm.Cond.methodLink "StandingsHallLaw" (320 : Nat) ({ cls := "StandingsHallModel", name := "errors", desc := "()I" } : Jvm.MethodName)) ∈ lw_tbl := z_in8 (List.mem_of_getElem? (i := 195) rfl)
theorem w2_213 : (Jvm.Cond.classLink "StandingsHallLaw" (13 : Nat) "java/lang/IllegalStateException") ∈ lw_tbl := z_in2 (List.mem_of_getElem? (i := 213) rfl)
theorem w3_58 : (Jvm.Cond.classLink "StandingsHallLaw" (19 : Nat) "java/lang/IllegalArgumentException") ∈ lw_tbl := z_in3 (List.mem_of_getElem? (i := 58) rfl)
theorem w4_219 : (Jvm.Cond.classLink "StandingsHallLaw" (25 : Nat) "java/lang/IndexOutOfBoundsException") ∈ lw_tbl := z_in4 (List.mem_of_getElem? (i := 219) rfl)
theorem w5_167 : (Jvm.Cond.classLink "StandingsHallLaw" (68 : Nat) "java/util/NoSuchElementException") ∈ lw_tbl := z_in5 (List.mem_of_getElem? (i := 167) rfl)
theorem w3_112 : (Jvm.Cond.castable "java/lang/IllegalArgumentException" "java/lang/IllegalArgumentException") ∈ lw_tbl := z_in3 (List.mem_of_getElem? (i := 112) rfl)
theorem w2_224 : (Jvm.Cond.castable "java/lang/IllegalStateException" "java/lang/IllegalStateException") ∈ lw_tbl := z_in2 (List.mem_of_getElem? (i := 224) rfl)
theorem w3_148 : (Jvm.Cond.castable "java/lang/IndexOutOfBoundsException" "java/lang/IndexOutOfBoundsException") ∈ lw_tbl := z_in3 (List.mem_of_getElem? (i := 148) rfl)
theorem w5_174 : (Jvm.Cond.castable "java/util/NoSuchElementException" "java/util/NoSuchElementException") ∈ lw_tbl := z_in5 (List.mem_of_getElem? (i := 174) rfl)
theorem w8_199 : (Jvm.Cond.arrayClass Jvm.ClassFile.FieldType.long) ∈ lw_tbl := z_in8 (List.mem_of_getElem? (i := 199) rfl)
theorem w8_200 : (Jvm.Cond.arrayClass Jvm.ClassFile.FieldType.double) ∈ lw_tbl := z_in8 (List.mem_of_getElem? (i := 200) rfl)
def mL_append : z_M := (yL_append, cL_append, 8, some .int)
def hL_append : List (Nat × Nat × Nat × Nat) := [(0, 16, 19, 13)]
theorem tL_append : z_mtH mL_append hL_append 7 := ⟨w2_212, w1_0, ⟨by decide, by decide⟩, by decide +kernel, by decide⟩
theorem pL_append : plainName mL_append.1.cls = true := by decide +kernel
theorem sL_append : Cond.static mL_append.1 ∈ lw_tbl := w2_211
def mL_setOrder : z_M := (yL_setOrder, cL_setOrder, 3, some .int)
def hL_setOrder : List (Nat × Nat × Nat × Nat) := [(0, 8, 11, 19)]
theorem tL_setOrder : z_mtH mL_setOrder hL_setOrder 2 := ⟨w3_57, w1_0, ⟨by decide, by decide⟩, by decide +kernel, by decide⟩
theorem pL_setOrder : plainName mL_setOrder.1.cls = true := by decide +kernel
theorem sL_setOrder : Cond.static mL_setOrder.1 ∈ lw_tbl := w3_56
def mL_criterion : z_M := (yL_criterion, cL_criterion, 5, some .int)
def hL_criterion : List (Nat × Nat × Nat × Nat) := [(0, 10, 13, 25), (0, 10, 17, 19)]
theorem tL_criterion : z_mtH mL_criterion hL_criterion 4 := ⟨w4_218, w1_0, ⟨by decide, by decide⟩, by decide +kernel, by decide⟩
theorem pL_criterion : plainName mL_criterion.1.cls = true := by decide +kernel
theorem sL_criterion : Cond.static mL_criterion.1 ∈ lw_tbl := w4_217
def mL_come : z_M := (yL_come, cL_come, 4, some .int)
def hL_come : List (Nat × Nat × Nat × Nat) := [(0, 9, 12, 19), (0, 9, 15, 13)]
theorem tL_come : z_mtH mL_come hL_come 3 := ⟨w4_235, w1_0, ⟨by decide, by decide⟩, by decide +kernel, by decide⟩
theorem pL_come : plainName mL_come.1.cls = true := by decide +kernel
theorem sL_come : Cond.static mL_come.1 ∈ lw_tbl := w4_234
def mL_leave : z_M := (yL_leave, cL_leave, 4, some .int)
def hL_leave : List (Nat × Nat × Nat × Nat) := [(0, 9, 12, 25)]
theorem tL_leave : z_mtH mL_leave hL_leave 3 := ⟨w5_22, w1_0, ⟨by decide, by decide⟩, by decide +kernel, by decide⟩
theorem pL_leave : plainName mL_leave.1.cls = true := by decide +kernel
theorem sL_leave : Cond.static mL_leave.1 ∈ lw_tbl := w5_21
def mL_score : z_M := (yL_score, cL_score, 6, some .int)
def hL_score : List (Nat × Nat × Nat × Nat) := [(0, 12, 15, 25), (0, 12, 19, 19)]
theorem tL_score : z_mtH mL_score hL_score 5 := ⟨w5_57, w1_0, ⟨by decide, by decide⟩, by decide +kernel, by decide⟩
theorem pL_score : plainName mL_score.1.cls = true := by decide +kernel
theorem sL_score : Cond.static mL_score.1 ∈ lw_tbl := w5_56
def mL_setScore : z_M := (yL_setScore, cL_setScore, 6, some .int)
def hL_setScore : List (Nat × Nat × Nat × Nat) := [(0, 12, 15, 25), (0, 12, 19, 19)]
theorem tL_setScore : z_mtH mL_setScore hL_setScore 5 := ⟨w5_84, w1_0, ⟨by decide, by decide⟩, by decide +kernel, by decide⟩
theorem pL_setScore : plainName mL_setScore.1.cls = true := by decide +kernel
theorem sL_setScore : Cond.static mL_setScore.1 ∈ lw_tbl := w5_83
def mL_scoreOf : z_M := (yL_scoreOf, cL_scoreOf, 5, some .int)
def hL_scoreOf : List (Nat × Nat × Nat × Nat) := [(0, 10, 13, 25), (0, 10, 17, 19)]
theorem tL_scoreOf : z_mtH mL_scoreOf hL_scoreOf 4 := ⟨w5_91, w1_0, ⟨by decide, by decide⟩, by decide +kernel, by decide⟩
theorem pL_scoreOf : plainName mL_scoreOf.1.cls = true := by decide +kernel
theorem sL_scoreOf : Cond.static mL_scoreOf.1 ∈ lw_tbl := w5_90
def mL_groupOf : z_M := (yL_groupOf, cL_groupOf, 4, some .int)
def hL_groupOf : List (Nat × Nat × Nat × Nat) := [(0, 9, 12, 25)]
theorem tL_groupOf : z_mtH mL_groupOf hL_groupOf 3 := ⟨w5_98, w1_0, ⟨by decide, by decide⟩, by decide +kernel, by decide⟩
theorem pL_groupOf : plainName mL_groupOf.1.cls = true := by decide +kernel
theorem sL_groupOf : Cond.static mL_groupOf.1 ∈ lw_tbl := w5_97
def mL_at : z_M := (yL_at, cL_at, 4, some .int)
def hL_at : List (Nat × Nat × Nat × Nat) := [(0, 9, 12, 25)]
theorem tL_at : z_mtH mL_at hL_at 3 := ⟨w5_105, w1_0, ⟨by decide, by decide⟩, by decide +kernel, by decide⟩
theorem pL_at : plainName mL_at.1.cls = true := by decide +kernel
theorem sL_at : Cond.static mL_at.1 ∈ lw_tbl := w5_104
def mL_place : z_M := (yL_place, cL_place, 4, some .int)
def hL_place : List (Nat × Nat × Nat × Nat) := [(0, 9, 12, 25)]
theorem tL_place : z_mtH mL_place hL_place 3 := ⟨w5_113, w1_0, ⟨by decide, by decide⟩, by decide +kernel, by decide⟩
theorem pL_place : plainName mL_place.1.cls = true := by decide +kernel
theorem sL_place : Cond.static mL_place.1 ∈ lw_tbl := w5_112
def mL_rank : z_M := (yL_rank, cL_rank, 5, some .int)
def hL_rank : List (Nat × Nat × Nat × Nat) := [(0, 10, 13, 25), (0, 10, 17, 19)]
theorem tL_rank : z_mtH mL_rank hL_rank 4 := ⟨w5_120, w1_0, ⟨by decide, by decide⟩, by decide +kernel, by decide⟩
theorem pL_rank : plainName mL_rank.1.cls = true := by decide +kernel
theorem sL_rank : Cond.static mL_rank.1 ∈ lw_tbl := w5_119
def mL_alike : z_M := (yL_alike, cL_alike, 4, some .int)
def hL_alike : List (Nat × Nat × Nat × Nat) := [(0, 9, 12, 25)]
theorem tL_alike : z_mtH mL_alike hL_alike 3 := ⟨w5_133, w1_0, ⟨by decide, by decide⟩, by decide +kernel, by decide⟩
theorem pL_alike : plainName mL_alike.1.cls = true := by decide +kernel
theorem sL_alike : Cond.static mL_alike.1 ∈ lw_tbl := w5_132
def mL_wouldGain : z_M := (yL_wouldGain, cL_wouldGain, 6, some .int)
def hL_wouldGain : List (Nat × Nat × Nat × Nat) := [(0, 12, 15, 25), (0, 12, 19, 19)]
theorem tL_wouldGain : z_mtH mL_wouldGain hL_wouldGain 5 := ⟨w5_141, w1_0, ⟨by decide, by decide⟩, by decide +kernel, by decide⟩
theorem pL_wouldGain : plainName mL_wouldGain.1.cls = true := by decide +kernel
theorem sL_wouldGain : Cond.static mL_wouldGain.1 ∈ lw_tbl := w5_140
def mL_needed : z_M := (yL_needed, cL_needed, 5, some .int)
def hL_needed : List (Nat × Nat × Nat × Nat) := [(0, 10, 13, 25), (0, 10, 17, 19)]
theorem tL_needed : z_mtH mL_needed hL_needed 4 := ⟨w5_148, w1_0, ⟨by decide, by decide⟩, by decide +kernel, by decide⟩
theorem pL_needed : plainName mL_needed.1.cls = true := by decide +kernel
theorem sL_needed : Cond.static mL_needed.1 ∈ lw_tbl := w5_147
def mL_next : z_M := (yL_next, cL_next, 4, some .int)
def hL_next : List (Nat × Nat × Nat × Nat) := [(0, 9, 12, 68)]
theorem tL_next : z_mtH mL_next hL_next 3 := ⟨w5_166, w1_0, ⟨by decide, by decide⟩, by decide +kernel, by decide⟩
theorem pL_next : plainName mL_next.1.cls = true := by decide +kernel
theorem sL_next : Cond.static mL_next.1 ∈ lw_tbl := w5_165
def mL_between : z_M := (yL_between, cL_between, 5, some .int)
def hL_between : List (Nat × Nat × Nat × Nat) := [(0, 10, 13, 19)]
theorem tL_between : z_mtH mL_between hL_between 4 := ⟨w5_190, w1_0, ⟨by decide, by decide⟩, by decide +kernel, by decide⟩
theorem pL_between : plainName mL_between.1.cls = true := by decide +kernel
theorem sL_between : Cond.static mL_between.1 ∈ lw_tbl := w5_189
def mL_median : z_M := (yL_median, cL_median, 4, some .int)
def hL_median : List (Nat × Nat × Nat × Nat) := [(0, 9, 12, 68)]
theorem tL_median : z_mtH mL_median hL_median 3 := ⟨w5_198, w1_0, ⟨by decide, by decide⟩, by decide +kernel, by decide⟩
theorem pL_median : plainName mL_median.1.cls = true := by decide +kernel
theorem sL_median : Cond.static mL_median.1 ∈ lw_tbl := w5_197
def mL_quantile : z_M := (yL_quantile, cL_quantile, 5, some .int)
def hL_quantile : List (Nat × Nat × Nat × Nat) := [(0, 10, 13, 19), (0, 10, 17, 68)]
theorem tL_quantile : z_mtH mL_quantile hL_quantile 4 := ⟨w5_210, w1_0, ⟨by decide, by decide⟩, by decide +kernel, by decide⟩
theorem pL_quantile : plainName mL_quantile.1.cls = true := by decide +kernel
theorem sL_quantile : Cond.static mL_quantile.1 ∈ lw_tbl := w5_209
def mL_enter : z_M := (yL_enter, cL_enter, 4, some .int)
def hL_enter : List (Nat × Nat × Nat × Nat) := [(0, 9, 12, 25), (0, 9, 15, 13)]
theorem tL_enter : z_mtH mL_enter hL_enter 3 := ⟨w5_219, w1_0, ⟨by decide, by decide⟩, by decide +kernel, by decide⟩
theorem pL_enter : plainName mL_enter.1.cls = true := by decide +kernel
theorem sL_enter : Cond.static mL_enter.1 ∈ lw_tbl := w5_218
def mL_challenge : z_M := (yL_challenge, cL_challenge, 6, some .int)
def hL_challenge : List (Nat × Nat × Nat × Nat) := [(0, 12, 15, 25), (0, 12, 19, 13)]
theorem tL_challenge : z_mtH mL_challenge hL_challenge 5 := ⟨w5_233, w1_0, ⟨by decide, by decide⟩, by decide +kernel, by decide⟩
theorem pL_challenge : plainName mL_challenge.1.cls = true := by decide +kernel
theorem sL_challenge : Cond.static mL_challenge.1 ∈ lw_tbl := w5_232
def mL_mayChallenge : z_M := (yL_mayChallenge, cL_mayChallenge, 4, some .int)
def hL_mayChallenge : List (Nat × Nat × Nat × Nat) := [(0, 9, 12, 25)]
theorem tL_mayChallenge : z_mtH mL_mayChallenge hL_mayChallenge 3 := ⟨w6_7, w1_0, ⟨by decide, by decide⟩, by decide +kernel, by decide⟩
theorem pL_mayChallenge : plainName mL_mayChallenge.1.cls = true := by decide +kernel
theorem sL_mayChallenge : Cond.static mL_mayChallenge.1 ∈ lw_tbl := w6_6
def mL_setReach : z_M := (yL_setReach, cL_setReach, 4, some .int)
def hL_setReach : List (Nat × Nat × Nat × Nat) := [(0, 9, 12, 19)]
theorem tL_setReach : z_mtH mL_setReach hL_setReach 3 := ⟨w6_14, w1_0, ⟨by decide, by decide⟩, by decide +kernel, by decide⟩
theorem pL_setReach : plainName mL_setReach.1.cls = true := by decide +kernel
theorem sL_setReach : Cond.static mL_setReach.1 ∈ lw_tbl := w6_13
def mL_setPatience : z_M := (yL_setPatience, cL_setPatience, 4, some .int)
def hL_setPatience : List (Nat × Nat × Nat × Nat) := [(0, 9, 12, 19)]
theorem tL_setPatience : z_mtH mL_setPatience hL_setPatience 3 := ⟨w6_22, w1_0, ⟨by decide, by decide⟩, by decide +kernel, by decide⟩
theorem pL_setPatience : plainName mL_setPatience.1.cls = true := by decide +kernel
theorem sL_setPatience : Cond.static mL_setPatience.1 ∈ lw_tbl := w6_21
def mL_ladderAt : z_M := (yL_ladderAt, cL_ladderAt, 4, some .int)
def hL_ladderAt : List (Nat × Nat × Nat × Nat) := [(0, 9, 12, 25)]
theorem tL_ladderAt : z_mtH mL_ladderAt hL_ladderAt 3 := ⟨w6_30, w1_0, ⟨by decide, by decide⟩, by decide +kernel, by decide⟩
theorem pL_ladderAt : plainName mL_ladderAt.1.cls = true := by decide +kernel
theorem sL_ladderAt : Cond.static mL_ladderAt.1 ∈ lw_tbl := w6_29
def mL_ladderPlace : z_M := (yL_ladderPlace, cL_ladderPlace, 4, some .int)
def hL_ladderPlace : List (Nat × Nat × Nat × Nat) := [(0, 9, 12, 25)]
theorem tL_ladderPlace : z_mtH mL_ladderPlace hL_ladderPlace 3 := ⟨w6_37, w1_0, ⟨by decide, by decide⟩, by decide +kernel, by decide⟩
theorem pL_ladderPlace : plainName mL_ladderPlace.1.cls = true := by decide +kernel
theorem sL_ladderPlace : Cond.static mL_ladderPlace.1 ∈ lw_tbl := w6_36
def mL_endRound : z_M := (yL_endRound, cL_endRound, 3, some .int)
def hL_endRound : List (Nat × Nat × Nat × Nat) := [(0, 8, 11, 13)]
theorem tL_endRound : z_mtH mL_endRound hL_endRound 2 := ⟨w6_44, w1_0, ⟨by decide, by decide⟩, by decide +kernel, by decide⟩
theorem pL_endRound : plainName mL_endRound.1.cls = true := by decide +kernel
theorem sL_endRound : Cond.static mL_endRound.1 ∈ lw_tbl := w6_43
def mL_gain : z_M := (yL_gain, cL_gain, 4, some .int)
def hL_gain : List (Nat × Nat × Nat × Nat) := [(0, 9, 12, 25)]
theorem tL_gain : z_mtH mL_gain hL_gain 3 := ⟨w6_67, w1_0, ⟨by decide, by decide⟩, by decide +kernel, by decide⟩
theorem pL_gain : plainName mL_gain.1.cls = true := by decide +kernel
theorem sL_gain : Cond.static mL_gain.1 ∈ lw_tbl := w6_66
def mL_form : z_M := (yL_form, cL_form, 6, some .int)
def hL_form : List (Nat × Nat × Nat × Nat) := [(0, 12, 15, 25), (0, 12, 19, 19)]
theorem tL_form : z_mtH mL_form hL_form 5 := ⟨w6_74, w1_0, ⟨by decide, by decide⟩, by decide +kernel, by decide⟩
theorem pL_form : plainName mL_form.1.cls = true := by decide +kernel
theorem sL_form : Cond.static mL_form.1 ∈ lw_tbl := w6_73
def mL_inForm : z_M := (yL_inForm, cL_inForm, 5, some .int)
def hL_inForm : List (Nat × Nat × Nat × Nat) := [(0, 10, 13, 19), (0, 10, 17, 68)]
theorem tL_inForm : z_mtH mL_inForm hL_inForm 4 := ⟨w6_94, w1_0, ⟨by decide, by decide⟩, by decide +kernel, by decide⟩
theorem pL_inForm : plainName mL_inForm.1.cls = true := by decide +kernel
theorem sL_inForm : Cond.static mL_inForm.1 ∈ lw_tbl := w6_93
def mL_placeThen : z_M := (yL_placeThen, cL_placeThen, 5, some .int)
def hL_placeThen : List (Nat × Nat × Nat × Nat) := [(0, 10, 13, 68), (0, 10, 17, 19)]
theorem tL_placeThen : z_mtH mL_placeThen hL_placeThen 4 := ⟨w6_101, w1_0, ⟨by decide, by decide⟩, by decide +kernel, by decide⟩
theorem pL_placeThen : plainName mL_placeThen.1.cls = true := by decide +kernel
theorem sL_placeThen : Cond.static mL_placeThen.1 ∈ lw_tbl := w6_100
def mL_climb : z_M := (yL_climb, cL_climb, 4, some .int)
def hL_climb : List (Nat × Nat × Nat × Nat) := [(0, 9, 12, 68)]
theorem tL_climb : z_mtH mL_climb hL_climb 3 := ⟨w6_118, w1_0, ⟨by decide, by decide⟩, by decide +kernel, by decide⟩
theorem pL_climb : plainName mL_climb.1.cls = true := by decide +kernel
theorem sL_climb : Cond.static mL_climb.1 ∈ lw_tbl := w6_117
def mL_best : z_M := (yL_best, cL_best, 4, some .int)
def hL_best : List (Nat × Nat × Nat × Nat) := [(0, 9, 12, 19)]
theorem tL_best : z_mtH mL_best hL_best 3 := ⟨w6_125, w1_0, ⟨by decide, by decide⟩, by decide +kernel, by decide⟩
theorem pL_best : plainName mL_best.1.cls = true := by decide +kernel
theorem sL_best : Cond.static mL_best.1 ∈ lw_tbl := w6_124
def mL_members : z_M := (yL_members, cL_members, 4, some .int)
def hL_members : List (Nat × Nat × Nat × Nat) := [(0, 9, 12, 19)]
theorem tL_members : z_mtH mL_members hL_members 3 := ⟨w6_136, w1_0, ⟨by decide, by decide⟩, by decide +kernel, by decide⟩
theorem pL_members : plainName mL_members.1.cls = true := by decide +kernel
theorem sL_members : Cond.static mL_members.1 ∈ lw_tbl := w6_135
def mL_teamScore : z_M := (yL_teamScore, cL_teamScore, 4, some .int)
def hL_teamScore : List (Nat × Nat × Nat × Nat) := [(0, 9, 12, 19)]
theorem tL_teamScore : z_mtH mL_teamScore hL_teamScore 3 := ⟨w6_147, w1_0, ⟨by decide, by decide⟩, by decide +kernel, by decide⟩
theorem pL_teamScore : plainName mL_teamScore.1.cls = true := by decide +kernel
theorem sL_teamScore : Cond.static mL_teamScore.1 ∈ lw_tbl := w6_146
def mL_groupAt : z_M := (yL_groupAt, cL_groupAt, 4, some .int)
def hL_groupAt : List (Nat × Nat × Nat × Nat) := [(0, 9, 12, 25)]
theorem tL_groupAt : z_mtH mL_groupAt hL_groupAt 3 := ⟨w6_158, w1_0, ⟨by decide, by decide⟩, by decide +kernel, by decide⟩
theorem pL_groupAt : plainName mL_groupAt.1.cls = true := by decide +kernel
theorem sL_groupAt : Cond.static mL_groupAt.1 ∈ lw_tbl := w6_157
def mL_inversions : z_M := (yL_inversions, cL_inversions, 5, some .int)
def hL_inversions : List (Nat × Nat × Nat × Nat) := [(0, 10, 13, 68)]
theorem tL_inversions : z_mtH mL_inversions hL_inversions 4 := ⟨w6_173, w1_0, ⟨by decide, by decide⟩, by decide +kernel, by decide⟩
theorem pL_inversions : plainName mL_inversions.1.cls = true := by decide +kernel
theorem sL_inversions : Cond.static mL_inversions.1 ∈ lw_tbl := w6_172
def mL_swaps : z_M := (yL_swaps, cL_swaps, 5, some .int)
def hL_swaps : List (Nat × Nat × Nat × Nat) := [(0, 10, 13, 68)]
theorem tL_swaps : z_mtH mL_swaps hL_swaps 4 := ⟨w6_193, w1_0, ⟨by decide, by decide⟩, by decide +kernel, by decide⟩
theorem pL_swaps : plainName mL_swaps.1.cls = true := by decide +kernel
theorem sL_swaps : Cond.static mL_swaps.1 ∈ lw_tbl := w6_192
def mL_beats : z_M := (yL_beats, cL_beats, 4, some .int)
def hL_beats : List (Nat × Nat × Nat × Nat) := [(0, 9, 12, 25)]
theorem tL_beats : z_mtH mL_beats hL_beats 3 := ⟨w6_204, w1_0, ⟨by decide, by decide⟩, by decide +kernel, by decide⟩
theorem pL_beats : plainName mL_beats.1.cls = true := by decide +kernel
theorem sL_beats : Cond.static mL_beats.1 ∈ lw_tbl := w6_203
def mL_law : z_M := (yL_law, code, 10, some .boolean)
theorem kL_13 : Cond.classLink "StandingsHallLaw" 13 "java/lang/IllegalStateException" ∈ lw_tbl := w2_213
theorem kL_19 : Cond.classLink "StandingsHallLaw" 19 "java/lang/IllegalArgumentException" ∈ lw_tbl := w3_58
theorem kL_25 : Cond.classLink "StandingsHallLaw" 25 "java/lang/IndexOutOfBoundsException" ∈ lw_tbl := w4_219
theorem kL_68 : Cond.classLink "StandingsHallLaw" 68 "java/util/NoSuchElementException" ∈ lw_tbl := w5_167
theorem kc_IllegalArgument : Cond.castable "java/lang/IllegalArgumentException" "java/lang/IllegalArgumentException" ∈ lw_tbl := w3_112
theorem kc_IllegalState : Cond.castable "java/lang/IllegalStateException" "java/lang/IllegalStateException" ∈ lw_tbl := w2_224
theorem kc_IndexOutOfBounds : Cond.castable "java/lang/IndexOutOfBoundsException" "java/lang/IndexOutOfBoundsException" ∈ lw_tbl := w3_148
theorem kc_NoSuchElement : Cond.castable "java/util/NoSuchElementException" "java/util/NoSuchElementException" ∈ lw_tbl := w5_174
theorem wAL : Cond.arrayClass .long ∈ lw_tbl := w8_199
theorem wAD : Cond.arrayClass .double ∈ lw_tbl := w8_200
def DL_append : List (Nat × Instr × Nat) := [(0, .aload 6, 2), (2, .iconst 0, 1), (3, .aload_n 0, 1), (4, .iload_n 1, 1), (5, .iload_n 2, 1), (6, .iload_n 3, 1), (7, .iload 4, 2), (9, .iload 5, 2), (11, .invokevirtual 7, 3), (14, .i2l, 1), (15, .lastore, 1), (16, .goto 7, 3), (19, .astore 7, 2), (21, .iconst 1, 1), (22, .ireturn, 1), (23, .iconst 0, 1), (24, .ireturn, 1)]
theorem DL_append_ok : DL_append.all (fun q => decide (decode mL_append.2.1 q.1 = .ok q.2)) = true := by decide +kernel
theorem eL_append_0 : z_ad mL_append 0 6 2 := Or.inr ⟨z_D DL_append_ok 0 rfl, rfl⟩
theorem eL_append_2 : z_co mL_append 2 (0) 3 := Or.inl ⟨z_D DL_append_ok 1 rfl, rfl⟩
theorem eL_append_3 : z_ad mL_append 3 0 4 := Or.inl ⟨0, z_D DL_append_ok 2 rfl, rfl, rfl⟩
theorem eL_append_4 : z_ld mL_append 4 1 5 := Or.inl ⟨1, z_D DL_append_ok 3 rfl, rfl, rfl⟩
theorem eL_append_5 : z_ld mL_append 5 2 6 := Or.inl ⟨2, z_D DL_append_ok 4 rfl, rfl, rfl⟩
theorem eL_append_6 : z_ld mL_append 6 3 7 := Or.inl ⟨3, z_D DL_append_ok 5 rfl, rfl, rfl⟩
theorem eL_append_7 : z_ld mL_append 7 4 9 := Or.inr ⟨z_D DL_append_ok 6 rfl, rfl⟩
theorem eL_append_9 : z_ld mL_append 9 5 11 := Or.inr ⟨z_D DL_append_ok 7 rfl, rfl⟩
theorem eL_append_11 : z_at mL_append 11 (.invokevirtual 7) 3 14 ∧ z_lk mL_append.1.cls 7 mX7_append.1 ∧ z_mt mX7_append 5 ∧ z_mv mX7_append 7 := ⟨⟨z_D DL_append_ok 8 rfl, rfl⟩, Or.inl w2_214, tX7_append, vX7_append⟩
theorem eL_append_14 : z_at mL_append 14 (.i2l) 1 15 := ⟨z_D DL_append_ok 9 rfl, rfl⟩
theorem eL_append_15 : z_at mL_append 15 (.lastore) 1 16 := ⟨z_D DL_append_ok 10 rfl, rfl⟩
theorem eL_append_16 : z_br mL_append 16 (.goto 7) (7) 19 23 := ⟨z_D DL_append_ok 11 rfl, rfl, by decide⟩
theorem eL_append_19 : z_asd mL_append 19 7 21 := ⟨Or.inr ⟨z_D DL_append_ok 12 rfl, rfl⟩, by decide⟩
theorem eL_append_21 : z_co mL_append 21 (1) 22 := Or.inl ⟨z_D DL_append_ok 13 rfl, rfl⟩
theorem eL_append_22 : z_at mL_append 22 (.ireturn) 1 23 := ⟨z_D DL_append_ok 14 rfl, rfl⟩
theorem eL_append_23 : z_co mL_append 23 (0) 24 := Or.inl ⟨z_D DL_append_ok 15 rfl, rfl⟩
theorem eL_append_24 : z_at mL_append 24 (.ireturn) 1 25 := ⟨z_D DL_append_ok 16 rfl, rfl⟩
def DL_setOrder : List (Nat × Instr × Nat) := [(0, .aload_n 1, 1), (1, .iconst 0, 1), (2, .aload_n 0, 1), (3, .invokevirtual 15, 3), (6, .i2l, 1), (7, .lastore, 1), (8, .goto 6, 3), (11, .astore_n 2, 1), (12, .iconst 1, 1), (13, .ireturn, 1), (14, .iconst 0, 1), (15, .ireturn, 1)]
theorem DL_setOrder_ok : DL_setOrder.all (fun q => decide (decode mL_setOrder.2.1 q.1 = .ok q.2)) = true := by decide +kernel
theorem eL_setOrder_0 : z_ad mL_setOrder 0 1 1 := Or.inl ⟨1, z_D DL_setOrder_ok 0 rfl, rfl, rfl⟩
theorem eL_setOrder_1 : z_co mL_setOrder 1 (0) 2 := Or.inl ⟨z_D DL_setOrder_ok 1 rfl, rfl⟩
theorem eL_setOrder_2 : z_ad mL_setOrder 2 0 3 := Or.inl ⟨0, z_D DL_setOrder_ok 2 rfl, rfl, rfl⟩
theorem eL_setOrder_3 : z_at mL_setOrder 3 (.invokevirtual 15) 3 6 ∧ z_lk mL_setOrder.1.cls 15 mX7_setOrder.1 ∧ z_mt mX7_setOrder 0 ∧ z_mv mX7_setOrder 7 := ⟨⟨z_D DL_setOrder_ok 3 rfl, rfl⟩, Or.inl w3_59, tX7_setOrder, vX7_setOrder⟩
theorem eL_setOrder_6 : z_at mL_setOrder 6 (.i2l) 1 7 := ⟨z_D DL_setOrder_ok 4 rfl, rfl⟩
theorem eL_setOrder_7 : z_at mL_setOrder 7 (.lastore) 1 8 := ⟨z_D DL_setOrder_ok 5 rfl, rfl⟩
theorem eL_setOrder_8 : z_br mL_setOrder 8 (.goto 6) (6) 11 14 := ⟨z_D DL_setOrder_ok 6 rfl, rfl, by decide⟩
theorem eL_setOrder_11 : z_asd mL_setOrder 11 2 12 := ⟨Or.inl ⟨2, z_D DL_setOrder_ok 7 rfl, rfl, rfl⟩, by decide⟩
theorem eL_setOrder_12 : z_co mL_setOrder 12 (1) 13 := Or.inl ⟨z_D DL_setOrder_ok 8 rfl, rfl⟩
theorem eL_setOrder_13 : z_at mL_setOrder 13 (.ireturn) 1 14 := ⟨z_D DL_setOrder_ok 9 rfl, rfl⟩
theorem eL_setOrder_14 : z_co mL_setOrder 14 (0) 15 := Or.inl ⟨z_D DL_setOrder_ok 10 rfl, rfl⟩
theorem eL_setOrder_15 : z_at mL_setOrder 15 (.ireturn) 1 16 := ⟨z_D DL_setOrder_ok 11 rfl, rfl⟩
def DL_criterion : List (Nat × Instr × Nat) := [(0, .aload_n 3, 1), (1, .iconst 0, 1), (2, .aload_n 0, 1), (3, .iload_n 1, 1), (4, .iload_n 2, 1), (5, .invokevirtual 21, 3), (8, .i2l, 1), (9, .lastore, 1), (10, .goto 11, 3), (13, .astore 4, 2), (15, .iconst 1, 1), (16, .ireturn, 1), (17, .astore 4, 2), (19, .iconst 2, 1), (20, .ireturn, 1), (21, .iconst 0, 1), (22, .ireturn, 1)]
theorem DL_criterion_ok : DL_criterion.all (fun q => decide (decode mL_criterion.2.1 q.1 = .ok q.2)) = true := by decide +kernel
theorem eL_criterion_0 : z_ad mL_criterion 0 3 1 := Or.inl ⟨3, z_D DL_criterion_ok 0 rfl, rfl, rfl⟩
theorem eL_criterion_1 : z_co mL_criterion 1 (0) 2 := Or.inl ⟨z_D DL_criterion_ok 1 rfl, rfl⟩
theorem eL_criterion_2 : z_ad mL_criterion 2 0 3 := Or.inl ⟨0, z_D DL_criterion_ok 2 rfl, rfl, rfl⟩
theorem eL_criterion_3 : z_ld mL_criterion 3 1 4 := Or.inl ⟨1, z_D DL_criterion_ok 3 rfl, rfl, rfl⟩
theorem eL_criterion_4 : z_ld mL_criterion 4 2 5 := Or.inl ⟨2, z_D DL_criterion_ok 4 rfl, rfl, rfl⟩
theorem eL_criterion_5 : z_at mL_criterion 5 (.invokevirtual 21) 3 8 ∧ z_lk mL_criterion.1.cls 21 mX7_criterion.1 ∧ z_mt mX7_criterion 2 ∧ z_mv mX7_criterion 7 := ⟨⟨z_D DL_criterion_ok 5 rfl, rfl⟩, Or.inl w4_220, tX7_criterion, vX7_criterion⟩
theorem eL_criterion_8 : z_at mL_criterion 8 (.i2l) 1 9 := ⟨z_D DL_criterion_ok 6 rfl, rfl⟩
theorem eL_criterion_9 : z_at mL_criterion 9 (.lastore) 1 10 := ⟨z_D DL_criterion_ok 7 rfl, rfl⟩
theorem eL_criterion_10 : z_br mL_criterion 10 (.goto 11) (11) 13 21 := ⟨z_D DL_criterion_ok 8 rfl, rfl, by decide⟩
theorem eL_criterion_13 : z_asd mL_criterion 13 4 15 := ⟨Or.inr ⟨z_D DL_criterion_ok 9 rfl, rfl⟩, by decide⟩
theorem eL_criterion_15 : z_co mL_criterion 15 (1) 16 := Or.inl ⟨z_D DL_criterion_ok 10 rfl, rfl⟩
theorem eL_criterion_16 : z_at mL_criterion 16 (.ireturn) 1 17 := ⟨z_D DL_criterion_ok 11 rfl, rfl⟩
theorem eL_criterion_17 : z_asd mL_criterion 17 4 19 := ⟨Or.inr ⟨z_D DL_criterion_ok 12 rfl, rfl⟩, by decide⟩
theorem eL_criterion_19 : z_co mL_criterion 19 (2) 20 := Or.inl ⟨z_D DL_criterion_ok 13 rfl, rfl⟩
theorem eL_criterion_20 : z_at mL_criterion 20 (.ireturn) 1 21 := ⟨z_D DL_criterion_ok 14 rfl, rfl⟩
theorem eL_criterion_21 : z_co mL_criterion 21 (0) 22 := Or.inl ⟨z_D DL_criterion_ok 15 rfl, rfl⟩
theorem eL_criterion_22 : z_at mL_criterion 22 (.ireturn) 1 23 := ⟨z_D DL_criterion_ok 16 rfl, rfl⟩
def DL_come : List (Nat × Instr × Nat) := [(0, .aload_n 2, 1), (1, .iconst 0, 1), (2, .aload_n 0, 1), (3, .iload_n 1, 1), (4, .invokevirtual 27, 3), (7, .i2l, 1), (8, .lastore, 1), (9, .goto 9, 3), (12, .astore_n 3, 1), (13, .iconst 1, 1), (14, .ireturn, 1), (15, .astore_n 3, 1), (16, .iconst 2, 1), (17, .ireturn, 1), (18, .iconst 0, 1), (19, .ireturn, 1)]
theorem DL_come_ok : DL_come.all (fun q => decide (decode mL_come.2.1 q.1 = .ok q.2)) = true := by decide +kernel
theorem eL_come_0 : z_ad mL_come 0 2 1 := Or.inl ⟨2, z_D DL_come_ok 0 rfl, rfl, rfl⟩
theorem eL_come_1 : z_co mL_come 1 (0) 2 := Or.inl ⟨z_D DL_come_ok 1 rfl, rfl⟩
theorem eL_come_2 : z_ad mL_come 2 0 3 := Or.inl ⟨0, z_D DL_come_ok 2 rfl, rfl, rfl⟩
theorem eL_come_3 : z_ld mL_come 3 1 4 := Or.inl ⟨1, z_D DL_come_ok 3 rfl, rfl, rfl⟩
theorem eL_come_4 : z_at mL_come 4 (.invokevirtual 27) 3 7 ∧ z_lk mL_come.1.cls 27 mX7_come.1 ∧ z_mt mX7_come 1 ∧ z_mv mX7_come 7 := ⟨⟨z_D DL_come_ok 4 rfl, rfl⟩, Or.inl w4_236, tX7_come, vX7_come⟩
theorem eL_come_7 : z_at mL_come 7 (.i2l) 1 8 := ⟨z_D DL_come_ok 5 rfl, rfl⟩
theorem eL_come_8 : z_at mL_come 8 (.lastore) 1 9 := ⟨z_D DL_come_ok 6 rfl, rfl⟩
theorem eL_come_9 : z_br mL_come 9 (.goto 9) (9) 12 18 := ⟨z_D DL_come_ok 7 rfl, rfl, by decide⟩
theorem eL_come_12 : z_asd mL_come 12 3 13 := ⟨Or.inl ⟨3, z_D DL_come_ok 8 rfl, rfl, rfl⟩, by decide⟩
theorem eL_come_13 : z_co mL_come 13 (1) 14 := Or.inl ⟨z_D DL_come_ok 9 rfl, rfl⟩
theorem eL_come_14 : z_at mL_come 14 (.ireturn) 1 15 := ⟨z_D DL_come_ok 10 rfl, rfl⟩
theorem eL_come_15 : z_asd mL_come 15 3 16 := ⟨Or.inl ⟨3, z_D DL_come_ok 11 rfl, rfl, rfl⟩, by decide⟩
theorem eL_come_16 : z_co mL_come 16 (2) 17 := Or.inl ⟨z_D DL_come_ok 12 rfl, rfl⟩
theorem eL_come_17 : z_at mL_come 17 (.ireturn) 1 18 := ⟨z_D DL_come_ok 13 rfl, rfl⟩
theorem eL_come_18 : z_co mL_come 18 (0) 19 := Or.inl ⟨z_D DL_come_ok 14 rfl, rfl⟩
theorem eL_come_19 : z_at mL_come 19 (.ireturn) 1 20 := ⟨z_D DL_come_ok 15 rfl, rfl⟩
def DL_leave : List (Nat × Instr × Nat) := [(0, .aload_n 2, 1), (1, .iconst 0, 1), (2, .aload_n 0, 1), (3, .iload_n 1, 1), (4, .invokevirtual 31, 3), (7, .i2l, 1), (8, .lastore, 1), (9, .goto 6, 3), (12, .astore_n 3, 1), (13, .iconst 1, 1), (14, .ireturn, 1), (15, .iconst 0, 1), (16, .ireturn, 1)]
theorem DL_leave_ok : DL_leave.all (fun q => decide (decode mL_leave.2.1 q.1 = .ok q.2)) = true := by decide +kernel
theorem eL_leave_0 : z_ad mL_leave 0 2 1 := Or.inl ⟨2, z_D DL_leave_ok 0 rfl, rfl, rfl⟩
theorem eL_leave_1 : z_co mL_leave 1 (0) 2 := Or.inl ⟨z_D DL_leave_ok 1 rfl, rfl⟩
theorem eL_leave_2 : z_ad mL_leave 2 0 3 := Or.inl ⟨0, z_D DL_leave_ok 2 rfl, rfl, rfl⟩
theorem eL_leave_3 : z_ld mL_leave 3 1 4 := Or.inl ⟨1, z_D DL_leave_ok 3 rfl, rfl, rfl⟩
theorem eL_leave_4 : z_at mL_leave 4 (.invokevirtual 31) 3 7 ∧ z_lk mL_leave.1.cls 31 mX7_leave.1 ∧ z_mt mX7_leave 1 ∧ z_mv mX7_leave 7 := ⟨⟨z_D DL_leave_ok 4 rfl, rfl⟩, Or.inl w5_23, tX7_leave, vX7_leave⟩
theorem eL_leave_7 : z_at mL_leave 7 (.i2l) 1 8 := ⟨z_D DL_leave_ok 5 rfl, rfl⟩
theorem eL_leave_8 : z_at mL_leave 8 (.lastore) 1 9 := ⟨z_D DL_leave_ok 6 rfl, rfl⟩
theorem eL_leave_9 : z_br mL_leave 9 (.goto 6) (6) 12 15 := ⟨z_D DL_leave_ok 7 rfl, rfl, by decide⟩
theorem eL_leave_12 : z_asd mL_leave 12 3 13 := ⟨Or.inl ⟨3, z_D DL_leave_ok 8 rfl, rfl, rfl⟩, by decide⟩
theorem eL_leave_13 : z_co mL_leave 13 (1) 14 := Or.inl ⟨z_D DL_leave_ok 9 rfl, rfl⟩
theorem eL_leave_14 : z_at mL_leave 14 (.ireturn) 1 15 := ⟨z_D DL_leave_ok 10 rfl, rfl⟩
theorem eL_leave_15 : z_co mL_leave 15 (0) 16 := Or.inl ⟨z_D DL_leave_ok 11 rfl, rfl⟩
theorem eL_leave_16 : z_at mL_leave 16 (.ireturn) 1 17 := ⟨z_D DL_leave_ok 12 rfl, rfl⟩
def DL_score : List (Nat × Instr × Nat) := [(0, .aload 4, 2), (2, .iconst 0, 1), (3, .aload_n 0, 1), (4, .iload_n 1, 1), (5, .iload_n 2, 1), (6, .iload_n 3, 1), (7, .invokevirtual 34, 3), (10, .i2l, 1), (11, .lastore, 1), (12, .goto 11, 3), (15, .astore 5, 2), (17, .iconst 1, 1), (18, .ireturn, 1), (19, .astore 5, 2), (21, .iconst 2, 1), (22, .ireturn, 1), (23, .iconst 0, 1), (24, .ireturn, 1)]
theorem DL_score_ok : DL_score.all (fun q => decide (decode mL_score.2.1 q.1 = .ok q.2)) = true := by decide +kernel
theorem eL_score_0 : z_ad mL_score 0 4 2 := Or.inr ⟨z_D DL_score_ok 0 rfl, rfl⟩
theorem eL_score_2 : z_co mL_score 2 (0) 3 := Or.inl ⟨z_D DL_score_ok 1 rfl, rfl⟩
theorem eL_score_3 : z_ad mL_score 3 0 4 := Or.inl ⟨0, z_D DL_score_ok 2 rfl, rfl, rfl⟩
theorem eL_score_4 : z_ld mL_score 4 1 5 := Or.inl ⟨1, z_D DL_score_ok 3 rfl, rfl, rfl⟩
theorem eL_score_5 : z_ld mL_score 5 2 6 := Or.inl ⟨2, z_D DL_score_ok 4 rfl, rfl, rfl⟩
theorem eL_score_6 : z_ld mL_score 6 3 7 := Or.inl ⟨3, z_D DL_score_ok 5 rfl, rfl, rfl⟩
theorem eL_score_7 : z_at mL_score 7 (.invokevirtual 34) 3 10 ∧ z_lk mL_score.1.cls 34 mX7_score.1 ∧ z_mt mX7_score 3 ∧ z_mv mX7_score 7 := ⟨⟨z_D DL_score_ok 6 rfl, rfl⟩, Or.inl w5_58, tX7_score, vX7_score⟩
theorem eL_score_10 : z_at mL_score 10 (.i2l) 1 11 := ⟨z_D DL_score_ok 7 rfl, rfl⟩
theorem eL_score_11 : z_at mL_score 11 (.lastore) 1 12 := ⟨z_D DL_score_ok 8 rfl, rfl⟩
theorem eL_score_12 : z_br mL_score 12 (.goto 11) (11) 15 23 := ⟨z_D DL_score_ok 9 rfl, rfl, by decide⟩
theorem eL_score_15 : z_asd mL_score 15 5 17 := ⟨Or.inr ⟨z_D DL_score_ok 10 rfl, rfl⟩, by decide⟩
theorem eL_score_17 : z_co mL_score 17 (1) 18 := Or.inl ⟨z_D DL_score_ok 11 rfl, rfl⟩
theorem eL_score_18 : z_at mL_score 18 (.ireturn) 1 19 := ⟨z_D DL_score_ok 12 rfl, rfl⟩
theorem eL_score_19 : z_asd mL_score 19 5 21 := ⟨Or.inr ⟨z_D DL_score_ok 13 rfl, rfl⟩, by decide⟩
theorem eL_score_21 : z_co mL_score 21 (2) 22 := Or.inl ⟨z_D DL_score_ok 14 rfl, rfl⟩
theorem eL_score_22 : z_at mL_score 22 (.ireturn) 1 23 := ⟨z_D DL_score_ok 15 rfl, rfl⟩
theorem eL_score_23 : z_co mL_score 23 (0) 24 := Or.inl ⟨z_D DL_score_ok 16 rfl, rfl⟩
theorem eL_score_24 : z_at mL_score 24 (.ireturn) 1 25 := ⟨z_D DL_score_ok 17 rfl, rfl⟩
def DL_setScore : List (Nat × Instr × Nat) := [(0, .aload 4, 2), (2, .iconst 0, 1), (3, .aload_n 0, 1), (4, .iload_n 1, 1), (5, .iload_n 2, 1), (6, .iload_n 3, 1), (7, .invokevirtual 38, 3), (10, .i2l, 1), (11, .lastore, 1), (12, .goto 11, 3), (15, .astore 5, 2), (17, .iconst 1, 1), (18, .ireturn, 1), (19, .astore 5, 2), (21, .iconst 2, 1), (22, .ireturn, 1), (23, .iconst 0, 1), (24, .ireturn, 1)]
theorem DL_setScore_ok : DL_setScore.all (fun q => decide (decode mL_setScore.2.1 q.1 = .ok q.2)) = true := by decide +kernel
theorem eL_setScore_0 : z_ad mL_setScore 0 4 2 := Or.inr ⟨z_D DL_setScore_ok 0 rfl, rfl⟩
theorem eL_setScore_2 : z_co mL_setScore 2 (0) 3 := Or.inl ⟨z_D DL_setScore_ok 1 rfl, rfl⟩
theorem eL_setScore_3 : z_ad mL_setScore 3 0 4 := Or.inl ⟨0, z_D DL_setScore_ok 2 rfl, rfl, rfl⟩
theorem eL_setScore_4 : z_ld mL_setScore 4 1 5 := Or.inl ⟨1, z_D DL_setScore_ok 3 rfl, rfl, rfl⟩
theorem eL_setScore_5 : z_ld mL_setScore 5 2 6 := Or.inl ⟨2, z_D DL_setScore_ok 4 rfl, rfl, rfl⟩
theorem eL_setScore_6 : z_ld mL_setScore 6 3 7 := Or.inl ⟨3, z_D DL_setScore_ok 5 rfl, rfl, rfl⟩
theorem eL_setScore_7 : z_at mL_setScore 7 (.invokevirtual 38) 3 10 ∧ z_lk mL_setScore.1.cls 38 mX7_setScore.1 ∧ z_mt mX7_setScore 3 ∧ z_mv mX7_setScore 7 := ⟨⟨z_D DL_setScore_ok 6 rfl, rfl⟩, Or.inl w5_85, tX7_setScore, vX7_setScore⟩
theorem eL_setScore_10 : z_at mL_setScore 10 (.i2l) 1 11 := ⟨z_D DL_setScore_ok 7 rfl, rfl⟩
theorem eL_setScore_11 : z_at mL_setScore 11 (.lastore) 1 12 := ⟨z_D DL_setScore_ok 8 rfl, rfl⟩
theorem eL_setScore_12 : z_br mL_setScore 12 (.goto 11) (11) 15 23 := ⟨z_D DL_setScore_ok 9 rfl, rfl, by decide⟩
theorem eL_setScore_15 : z_asd mL_setScore 15 5 17 := ⟨Or.inr ⟨z_D DL_setScore_ok 10 rfl, rfl⟩, by decide⟩
theorem eL_setScore_17 : z_co mL_setScore 17 (1) 18 := Or.inl ⟨z_D DL_setScore_ok 11 rfl, rfl⟩
theorem eL_setScore_18 : z_at mL_setScore 18 (.ireturn) 1 19 := ⟨z_D DL_setScore_ok 12 rfl, rfl⟩
theorem eL_setScore_19 : z_asd mL_setScore 19 5 21 := ⟨Or.inr ⟨z_D DL_setScore_ok 13 rfl, rfl⟩, by decide⟩
theorem eL_setScore_21 : z_co mL_setScore 21 (2) 22 := Or.inl ⟨z_D DL_setScore_ok 14 rfl, rfl⟩
theorem eL_setScore_22 : z_at mL_setScore 22 (.ireturn) 1 23 := ⟨z_D DL_setScore_ok 15 rfl, rfl⟩
theorem eL_setScore_23 : z_co mL_setScore 23 (0) 24 := Or.inl ⟨z_D DL_setScore_ok 16 rfl, rfl⟩
theorem eL_setScore_24 : z_at mL_setScore 24 (.ireturn) 1 25 := ⟨z_D DL_setScore_ok 17 rfl, rfl⟩
def DL_scoreOf : List (Nat × Instr × Nat) := [(0, .aload_n 3, 1), (1, .iconst 0, 1), (2, .aload_n 0, 1), (3, .iload_n 1, 1), (4, .iload_n 2, 1), (5, .invokevirtual 41, 3), (8, .i2l, 1), (9, .lastore, 1), (10, .goto 11, 3), (13, .astore 4, 2), (15, .iconst 1, 1), (16, .ireturn, 1), (17, .astore 4, 2), (19, .iconst 2, 1), (20, .ireturn, 1), (21, .iconst 0, 1), (22, .ireturn, 1)]
theorem DL_scoreOf_ok : DL_scoreOf.all (fun q => decide (decode mL_scoreOf.2.1 q.1 = .ok q.2)) = true := by decide +kernel
theorem eL_scoreOf_0 : z_ad mL_scoreOf 0 3 1 := Or.inl ⟨3, z_D DL_scoreOf_ok 0 rfl, rfl, rfl⟩
theorem eL_scoreOf_1 : z_co mL_scoreOf 1 (0) 2 := Or.inl ⟨z_D DL_scoreOf_ok 1 rfl, rfl⟩
theorem eL_scoreOf_2 : z_ad mL_scoreOf 2 0 3 := Or.inl ⟨0, z_D DL_scoreOf_ok 2 rfl, rfl, rfl⟩
theorem eL_scoreOf_3 : z_ld mL_scoreOf 3 1 4 := Or.inl ⟨1, z_D DL_scoreOf_ok 3 rfl, rfl, rfl⟩
theorem eL_scoreOf_4 : z_ld mL_scoreOf 4 2 5 := Or.inl ⟨2, z_D DL_scoreOf_ok 4 rfl, rfl, rfl⟩
theorem eL_scoreOf_5 : z_at mL_scoreOf 5 (.invokevirtual 41) 3 8 ∧ z_lk mL_scoreOf.1.cls 41 mX7_scoreOf.1 ∧ z_mt mX7_scoreOf 2 ∧ z_mv mX7_scoreOf 7 := ⟨⟨z_D DL_scoreOf_ok 5 rfl, rfl⟩, Or.inl w5_92, tX7_scoreOf, vX7_scoreOf⟩
theorem eL_scoreOf_8 : z_at mL_scoreOf 8 (.i2l) 1 9 := ⟨z_D DL_scoreOf_ok 6 rfl, rfl⟩
theorem eL_scoreOf_9 : z_at mL_scoreOf 9 (.lastore) 1 10 := ⟨z_D DL_scoreOf_ok 7 rfl, rfl⟩
theorem eL_scoreOf_10 : z_br mL_scoreOf 10 (.goto 11) (11) 13 21 := ⟨z_D DL_scoreOf_ok 8 rfl, rfl, by decide⟩
theorem eL_scoreOf_13 : z_asd mL_scoreOf 13 4 15 := ⟨Or.inr ⟨z_D DL_scoreOf_ok 9 rfl, rfl⟩, by decide⟩
theorem eL_scoreOf_15 : z_co mL_scoreOf 15 (1) 16 := Or.inl ⟨z_D DL_scoreOf_ok 10 rfl, rfl⟩
theorem eL_scoreOf_16 : z_at mL_scoreOf 16 (.ireturn) 1 17 := ⟨z_D DL_scoreOf_ok 11 rfl, rfl⟩
theorem eL_scoreOf_17 : z_asd mL_scoreOf 17 4 19 := ⟨Or.inr ⟨z_D DL_scoreOf_ok 12 rfl, rfl⟩, by decide⟩
theorem eL_scoreOf_19 : z_co mL_scoreOf 19 (2) 20 := Or.inl ⟨z_D DL_scoreOf_ok 13 rfl, rfl⟩
theorem eL_scoreOf_20 : z_at mL_scoreOf 20 (.ireturn) 1 21 := ⟨z_D DL_scoreOf_ok 14 rfl, rfl⟩
theorem eL_scoreOf_21 : z_co mL_scoreOf 21 (0) 22 := Or.inl ⟨z_D DL_scoreOf_ok 15 rfl, rfl⟩
theorem eL_scoreOf_22 : z_at mL_scoreOf 22 (.ireturn) 1 23 := ⟨z_D DL_scoreOf_ok 16 rfl, rfl⟩
def DL_groupOf : List (Nat × Instr × Nat) := [(0, .aload_n 2, 1), (1, .iconst 0, 1), (2, .aload_n 0, 1), (3, .iload_n 1, 1), (4, .invokevirtual 44, 3), (7, .i2l, 1), (8, .lastore, 1), (9, .goto 6, 3), (12, .astore_n 3, 1), (13, .iconst 1, 1), (14, .ireturn, 1), (15, .iconst 0, 1), (16, .ireturn, 1)]
theorem DL_groupOf_ok : DL_groupOf.all (fun q => decide (decode mL_groupOf.2.1 q.1 = .ok q.2)) = true := by decide +kernel
theorem eL_groupOf_0 : z_ad mL_groupOf 0 2 1 := Or.inl ⟨2, z_D DL_groupOf_ok 0 rfl, rfl, rfl⟩
theorem eL_groupOf_1 : z_co mL_groupOf 1 (0) 2 := Or.inl ⟨z_D DL_groupOf_ok 1 rfl, rfl⟩
theorem eL_groupOf_2 : z_ad mL_groupOf 2 0 3 := Or.inl ⟨0, z_D DL_groupOf_ok 2 rfl, rfl, rfl⟩
theorem eL_groupOf_3 : z_ld mL_groupOf 3 1 4 := Or.inl ⟨1, z_D DL_groupOf_ok 3 rfl, rfl, rfl⟩
theorem eL_groupOf_4 : z_at mL_groupOf 4 (.invokevirtual 44) 3 7 ∧ z_lk mL_groupOf.1.cls 44 mX7_groupOf.1 ∧ z_mt mX7_groupOf 1 ∧ z_mv mX7_groupOf 7 := ⟨⟨z_D DL_groupOf_ok 4 rfl, rfl⟩, Or.inl w5_99, tX7_groupOf, vX7_groupOf⟩
theorem eL_groupOf_7 : z_at mL_groupOf 7 (.i2l) 1 8 := ⟨z_D DL_groupOf_ok 5 rfl, rfl⟩
theorem eL_groupOf_8 : z_at mL_groupOf 8 (.lastore) 1 9 := ⟨z_D DL_groupOf_ok 6 rfl, rfl⟩
theorem eL_groupOf_9 : z_br mL_groupOf 9 (.goto 6) (6) 12 15 := ⟨z_D DL_groupOf_ok 7 rfl, rfl, by decide⟩
theorem eL_groupOf_12 : z_asd mL_groupOf 12 3 13 := ⟨Or.inl ⟨3, z_D DL_groupOf_ok 8 rfl, rfl, rfl⟩, by decide⟩
theorem eL_groupOf_13 : z_co mL_groupOf 13 (1) 14 := Or.inl ⟨z_D DL_groupOf_ok 9 rfl, rfl⟩
theorem eL_groupOf_14 : z_at mL_groupOf 14 (.ireturn) 1 15 := ⟨z_D DL_groupOf_ok 10 rfl, rfl⟩
theorem eL_groupOf_15 : z_co mL_groupOf 15 (0) 16 := Or.inl ⟨z_D DL_groupOf_ok 11 rfl, rfl⟩
theorem eL_groupOf_16 : z_at mL_groupOf 16 (.ireturn) 1 17 := ⟨z_D DL_groupOf_ok 12 rfl, rfl⟩
def DL_at : List (Nat × Instr × Nat) := [(0, .aload_n 2, 1), (1, .iconst 0, 1), (2, .aload_n 0, 1), (3, .iload_n 1, 1), (4, .invokevirtual 47, 3), (7, .i2l, 1), (8, .lastore, 1), (9, .goto 6, 3), (12, .astore_n 3, 1), (13, .iconst 1, 1), (14, .ireturn, 1), (15, .iconst 0, 1), (16, .ireturn, 1)]
theorem DL_at_ok : DL_at.all (fun q => decide (decode mL_at.2.1 q.1 = .ok q.2)) = true := by decide +kernel
theorem eL_at_0 : z_ad mL_at 0 2 1 := Or.inl ⟨2, z_D DL_at_ok 0 rfl, rfl, rfl⟩
theorem eL_at_1 : z_co mL_at 1 (0) 2 := Or.inl ⟨z_D DL_at_ok 1 rfl, rfl⟩
theorem eL_at_2 : z_ad mL_at 2 0 3 := Or.inl ⟨0, z_D DL_at_ok 2 rfl, rfl, rfl⟩
theorem eL_at_3 : z_ld mL_at 3 1 4 := Or.inl ⟨1, z_D DL_at_ok 3 rfl, rfl, rfl⟩
theorem eL_at_4 : z_at mL_at 4 (.invokevirtual 47) 3 7 ∧ z_lk mL_at.1.cls 47 mX7_at.1 ∧ z_mt mX7_at 1 ∧ z_mv mX7_at 7 := ⟨⟨z_D DL_at_ok 4 rfl, rfl⟩, Or.inl w5_106, tX7_at, vX7_at⟩
theorem eL_at_7 : z_at mL_at 7 (.i2l) 1 8 := ⟨z_D DL_at_ok 5 rfl, rfl⟩
theorem eL_at_8 : z_at mL_at 8 (.lastore) 1 9 := ⟨z_D DL_at_ok 6 rfl, rfl⟩
theorem eL_at_9 : z_br mL_at 9 (.goto 6) (6) 12 15 := ⟨z_D DL_at_ok 7 rfl, rfl, by decide⟩
theorem eL_at_12 : z_asd mL_at 12 3 13 := ⟨Or.inl ⟨3, z_D DL_at_ok 8 rfl, rfl, rfl⟩, by decide⟩
theorem eL_at_13 : z_co mL_at 13 (1) 14 := Or.inl ⟨z_D DL_at_ok 9 rfl, rfl⟩
theorem eL_at_14 : z_at mL_at 14 (.ireturn) 1 15 := ⟨z_D DL_at_ok 10 rfl, rfl⟩
theorem eL_at_15 : z_co mL_at 15 (0) 16 := Or.inl ⟨z_D DL_at_ok 11 rfl, rfl⟩
theorem eL_at_16 : z_at mL_at 16 (.ireturn) 1 17 := ⟨z_D DL_at_ok 12 rfl, rfl⟩
def DL_place : List (Nat × Instr × Nat) := [(0, .aload_n 2, 1), (1, .iconst 0, 1), (2, .aload_n 0, 1), (3, .iload_n 1, 1), (4, .invokevirtual 50, 3), (7, .i2l, 1), (8, .lastore, 1), (9, .goto 6, 3), (12, .astore_n 3, 1), (13, .iconst 1, 1), (14, .ireturn, 1), (15, .iconst 0, 1), (16, .ireturn, 1)]
theorem DL_place_ok : DL_place.all (fun q => decide (decode mL_place.2.1 q.1 = .ok q.2)) = true := by decide +kernel
theorem eL_place_0 : z_ad mL_place 0 2 1 := Or.inl ⟨2, z_D DL_place_ok 0 rfl, rfl, rfl⟩
theorem eL_place_1 : z_co mL_place 1 (0) 2 := Or.inl ⟨z_D DL_place_ok 1 rfl, rfl⟩
theorem eL_place_2 : z_ad mL_place 2 0 3 := Or.inl ⟨0, z_D DL_place_ok 2 rfl, rfl, rfl⟩
theorem eL_place_3 : z_ld mL_place 3 1 4 := Or.inl ⟨1, z_D DL_place_ok 3 rfl, rfl, rfl⟩
theorem eL_place_4 : z_at mL_place 4 (.invokevirtual 50) 3 7 ∧ z_lk mL_place.1.cls 50 mX7_place.1 ∧ z_mt mX7_place 1 ∧ z_mv mX7_place 7 := ⟨⟨z_D DL_place_ok 4 rfl, rfl⟩, Or.inl w5_114, tX7_place, vX7_place⟩
theorem eL_place_7 : z_at mL_place 7 (.i2l) 1 8 := ⟨z_D DL_place_ok 5 rfl, rfl⟩
theorem eL_place_8 : z_at mL_place 8 (.lastore) 1 9 := ⟨z_D DL_place_ok 6 rfl, rfl⟩
theorem eL_place_9 : z_br mL_place 9 (.goto 6) (6) 12 15 := ⟨z_D DL_place_ok 7 rfl, rfl, by decide⟩
theorem eL_place_12 : z_asd mL_place 12 3 13 := ⟨Or.inl ⟨3, z_D DL_place_ok 8 rfl, rfl, rfl⟩, by decide⟩
theorem eL_place_13 : z_co mL_place 13 (1) 14 := Or.inl ⟨z_D DL_place_ok 9 rfl, rfl⟩
theorem eL_place_14 : z_at mL_place 14 (.ireturn) 1 15 := ⟨z_D DL_place_ok 10 rfl, rfl⟩
theorem eL_place_15 : z_co mL_place 15 (0) 16 := Or.inl ⟨z_D DL_place_ok 11 rfl, rfl⟩
theorem eL_place_16 : z_at mL_place 16 (.ireturn) 1 17 := ⟨z_D DL_place_ok 12 rfl, rfl⟩
def DL_rank : List (Nat × Instr × Nat) := [(0, .aload_n 3, 1), (1, .iconst 0, 1), (2, .aload_n 0, 1), (3, .iload_n 1, 1), (4, .iload_n 2, 1), (5, .invokevirtual 53, 3), (8, .i2l, 1), (9, .lastore, 1), (10, .goto 11, 3), (13, .astore 4, 2), (15, .iconst 1, 1), (16, .ireturn, 1), (17, .astore 4, 2), (19, .iconst 2, 1), (20, .ireturn, 1), (21, .iconst 0, 1), (22, .ireturn, 1)]
theorem DL_rank_ok : DL_rank.all (fun q => decide (decode mL_rank.2.1 q.1 = .ok q.2)) = true := by decide +kernel
theorem eL_rank_0 : z_ad mL_rank 0 3 1 := Or.inl ⟨3, z_D DL_rank_ok 0 rfl, rfl, rfl⟩
theorem eL_rank_1 : z_co mL_rank 1 (0) 2 := Or.inl ⟨z_D DL_rank_ok 1 rfl, rfl⟩
theorem eL_rank_2 : z_ad mL_rank 2 0 3 := Or.inl ⟨0, z_D DL_rank_ok 2 rfl, rfl, rfl⟩
theorem eL_rank_3 : z_ld mL_rank 3 1 4 := Or.inl ⟨1, z_D DL_rank_ok 3 rfl, rfl, rfl⟩
theorem eL_rank_4 : z_ld mL_rank 4 2 5 := Or.inl ⟨2, z_D DL_rank_ok 4 rfl, rfl, rfl⟩
theorem eL_rank_5 : z_at mL_rank 5 (.invokevirtual 53) 3 8 ∧ z_lk mL_rank.1.cls 53 mX7_rank.1 ∧ z_mt mX7_rank 2 ∧ z_mv mX7_rank 7 := ⟨⟨z_D DL_rank_ok 5 rfl, rfl⟩, Or.inl w5_121, tX7_rank, vX7_rank⟩
theorem eL_rank_8 : z_at mL_rank 8 (.i2l) 1 9 := ⟨z_D DL_rank_ok 6 rfl, rfl⟩
theorem eL_rank_9 : z_at mL_rank 9 (.lastore) 1 10 := ⟨z_D DL_rank_ok 7 rfl, rfl⟩
theorem eL_rank_10 : z_br mL_rank 10 (.goto 11) (11) 13 21 := ⟨z_D DL_rank_ok 8 rfl, rfl, by decide⟩
theorem eL_rank_13 : z_asd mL_rank 13 4 15 := ⟨Or.inr ⟨z_D DL_rank_ok 9 rfl, rfl⟩, by decide⟩
theorem eL_rank_15 : z_co mL_rank 15 (1) 16 := Or.inl ⟨z_D DL_rank_ok 10 rfl, rfl⟩
theorem eL_rank_16 : z_at mL_rank 16 (.ireturn) 1 17 := ⟨z_D DL_rank_ok 11 rfl, rfl⟩
theorem eL_rank_17 : z_asd mL_rank 17 4 19 := ⟨Or.inr ⟨z_D DL_rank_ok 12 rfl, rfl⟩, by decide⟩
theorem eL_rank_19 : z_co mL_rank 19 (2) 20 := Or.inl ⟨z_D DL_rank_ok 13 rfl, rfl⟩
theorem eL_rank_20 : z_at mL_rank 20 (.ireturn) 1 21 := ⟨z_D DL_rank_ok 14 rfl, rfl⟩
theorem eL_rank_21 : z_co mL_rank 21 (0) 22 := Or.inl ⟨z_D DL_rank_ok 15 rfl, rfl⟩
theorem eL_rank_22 : z_at mL_rank 22 (.ireturn) 1 23 := ⟨z_D DL_rank_ok 16 rfl, rfl⟩
def DL_alike : List (Nat × Instr × Nat) := [(0, .aload_n 2, 1), (1, .iconst 0, 1), (2, .aload_n 0, 1), (3, .iload_n 1, 1), (4, .invokevirtual 56, 3), (7, .i2l, 1), (8, .lastore, 1), (9, .goto 6, 3), (12, .astore_n 3, 1), (13, .iconst 1, 1), (14, .ireturn, 1), (15, .iconst 0, 1), (16, .ireturn, 1)]
theorem DL_alike_ok : DL_alike.all (fun q => decide (decode mL_alike.2.1 q.1 = .ok q.2)) = true := by decide +kernel
theorem eL_alike_0 : z_ad mL_alike 0 2 1 := Or.inl ⟨2, z_D DL_alike_ok 0 rfl, rfl, rfl⟩
theorem eL_alike_1 : z_co mL_alike 1 (0) 2 := Or.inl ⟨z_D DL_alike_ok 1 rfl, rfl⟩
theorem eL_alike_2 : z_ad mL_alike 2 0 3 := Or.inl ⟨0, z_D DL_alike_ok 2 rfl, rfl, rfl⟩
theorem eL_alike_3 : z_ld mL_alike 3 1 4 := Or.inl ⟨1, z_D DL_alike_ok 3 rfl, rfl, rfl⟩
theorem eL_alike_4 : z_at mL_alike 4 (.invokevirtual 56) 3 7 ∧ z_lk mL_alike.1.cls 56 mX7_alike.1 ∧ z_mt mX7_alike 1 ∧ z_mv mX7_alike 7 := ⟨⟨z_D DL_alike_ok 4 rfl, rfl⟩, Or.inl w5_134, tX7_alike, vX7_alike⟩
theorem eL_alike_7 : z_at mL_alike 7 (.i2l) 1 8 := ⟨z_D DL_alike_ok 5 rfl, rfl⟩
theorem eL_alike_8 : z_at mL_alike 8 (.lastore) 1 9 := ⟨z_D DL_alike_ok 6 rfl, rfl⟩
theorem eL_alike_9 : z_br mL_alike 9 (.goto 6) (6) 12 15 := ⟨z_D DL_alike_ok 7 rfl, rfl, by decide⟩
theorem eL_alike_12 : z_asd mL_alike 12 3 13 := ⟨Or.inl ⟨3, z_D DL_alike_ok 8 rfl, rfl, rfl⟩, by decide⟩
theorem eL_alike_13 : z_co mL_alike 13 (1) 14 := Or.inl ⟨z_D DL_alike_ok 9 rfl, rfl⟩
theorem eL_alike_14 : z_at mL_alike 14 (.ireturn) 1 15 := ⟨z_D DL_alike_ok 10 rfl, rfl⟩
theorem eL_alike_15 : z_co mL_alike 15 (0) 16 := Or.inl ⟨z_D DL_alike_ok 11 rfl, rfl⟩
theorem eL_alike_16 : z_at mL_alike 16 (.ireturn) 1 17 := ⟨z_D DL_alike_ok 12 rfl, rfl⟩
def DL_wouldGain : List (Nat × Instr × Nat) := [(0, .aload 4, 2), (2, .iconst 0, 1), (3, .aload_n 0, 1), (4, .iload_n 1, 1), (5, .iload_n 2, 1), (6, .iload_n 3, 1), (7, .invokevirtual 59, 3), (10, .i2l, 1), (11, .lastore, 1), (12, .goto 11, 3), (15, .astore 5, 2), (17, .iconst 1, 1), (18, .ireturn, 1), (19, .astore 5, 2), (21, .iconst 2, 1), (22, .ireturn, 1), (23, .iconst 0, 1), (24, .ireturn, 1)]
theorem DL_wouldGain_ok : DL_wouldGain.all (fun q => decide (decode mL_wouldGain.2.1 q.1 = .ok q.2)) = true := by decide +kernel
theorem eL_wouldGain_0 : z_ad mL_wouldGain 0 4 2 := Or.inr ⟨z_D DL_wouldGain_ok 0 rfl, rfl⟩
theorem eL_wouldGain_2 : z_co mL_wouldGain 2 (0) 3 := Or.inl ⟨z_D DL_wouldGain_ok 1 rfl, rfl⟩
theorem eL_wouldGain_3 : z_ad mL_wouldGain 3 0 4 := Or.inl ⟨0, z_D DL_wouldGain_ok 2 rfl, rfl, rfl⟩
theorem eL_wouldGain_4 : z_ld mL_wouldGain 4 1 5 := Or.inl ⟨1, z_D DL_wouldGain_ok 3 rfl, rfl, rfl⟩
theorem eL_wouldGain_5 : z_ld mL_wouldGain 5 2 6 := Or.inl ⟨2, z_D DL_wouldGain_ok 4 rfl, rfl, rfl⟩
theorem eL_wouldGain_6 : z_ld mL_wouldGain 6 3 7 := Or.inl ⟨3, z_D DL_wouldGain_ok 5 rfl, rfl, rfl⟩
theorem eL_wouldGain_7 : z_at mL_wouldGain 7 (.invokevirtual 59) 3 10 ∧ z_lk mL_wouldGain.1.cls 59 mX7_wouldGain.1 ∧ z_mt mX7_wouldGain 3 ∧ z_mv mX7_wouldGain 7 := ⟨⟨z_D DL_wouldGain_ok 6 rfl, rfl⟩, Or.inl w5_142, tX7_wouldGain, vX7_wouldGain⟩
theorem eL_wouldGain_10 : z_at mL_wouldGain 10 (.i2l) 1 11 := ⟨z_D DL_wouldGain_ok 7 rfl, rfl⟩
theorem eL_wouldGain_11 : z_at mL_wouldGain 11 (.lastore) 1 12 := ⟨z_D DL_wouldGain_ok 8 rfl, rfl⟩
theorem eL_wouldGain_12 : z_br mL_wouldGain 12 (.goto 11) (11) 15 23 := ⟨z_D DL_wouldGain_ok 9 rfl, rfl, by decide⟩
theorem eL_wouldGain_15 : z_asd mL_wouldGain 15 5 17 := ⟨Or.inr ⟨z_D DL_wouldGain_ok 10 rfl, rfl⟩, by decide⟩
theorem eL_wouldGain_17 : z_co mL_wouldGain 17 (1) 18 := Or.inl ⟨z_D DL_wouldGain_ok 11 rfl, rfl⟩
theorem eL_wouldGain_18 : z_at mL_wouldGain 18 (.ireturn) 1 19 := ⟨z_D DL_wouldGain_ok 12 rfl, rfl⟩
theorem eL_wouldGain_19 : z_asd mL_wouldGain 19 5 21 := ⟨Or.inr ⟨z_D DL_wouldGain_ok 13 rfl, rfl⟩, by decide⟩
theorem eL_wouldGain_21 : z_co mL_wouldGain 21 (2) 22 := Or.inl ⟨z_D DL_wouldGain_ok 14 rfl, rfl⟩
theorem eL_wouldGain_22 : z_at mL_wouldGain 22 (.ireturn) 1 23 := ⟨z_D DL_wouldGain_ok 15 rfl, rfl⟩
theorem eL_wouldGain_23 : z_co mL_wouldGain 23 (0) 24 := Or.inl ⟨z_D DL_wouldGain_ok 16 rfl, rfl⟩
theorem eL_wouldGain_24 : z_at mL_wouldGain 24 (.ireturn) 1 25 := ⟨z_D DL_wouldGain_ok 17 rfl, rfl⟩
def DL_needed : List (Nat × Instr × Nat) := [(0, .aload_n 3, 1), (1, .iconst 0, 1), (2, .aload_n 0, 1), (3, .iload_n 1, 1), (4, .iload_n 2, 1), (5, .invokevirtual 62, 3), (8, .i2l, 1), (9, .lastore, 1), (10, .goto 11, 3), (13, .astore 4, 2), (15, .iconst 1, 1), (16, .ireturn, 1), (17, .astore 4, 2), (19, .iconst 2, 1), (20, .ireturn, 1), (21, .iconst 0, 1), (22, .ireturn, 1)]
theorem DL_needed_ok : DL_needed.all (fun q => decide (decode mL_needed.2.1 q.1 = .ok q.2)) = true := by decide +kernel
theorem eL_needed_0 : z_ad mL_needed 0 3 1 := Or.inl ⟨3, z_D DL_needed_ok 0 rfl, rfl, rfl⟩
theorem eL_needed_1 : z_co mL_needed 1 (0) 2 := Or.inl ⟨z_D DL_needed_ok 1 rfl, rfl⟩
theorem eL_needed_2 : z_ad mL_needed 2 0 3 := Or.inl ⟨0, z_D DL_needed_ok 2 rfl, rfl, rfl⟩
theorem eL_needed_3 : z_ld mL_needed 3 1 4 := Or.inl ⟨1, z_D DL_needed_ok 3 rfl, rfl, rfl⟩
theorem eL_needed_4 : z_ld mL_needed 4 2 5 := Or.inl ⟨2, z_D DL_needed_ok 4 rfl, rfl, rfl⟩
theorem eL_needed_5 : z_at mL_needed 5 (.invokevirtual 62) 3 8 ∧ z_lk mL_needed.1.cls 62 mX7_needed.1 ∧ z_mt mX7_needed 2 ∧ z_mv mX7_needed 7 := ⟨⟨z_D DL_needed_ok 5 rfl, rfl⟩, Or.inl w5_149, tX7_needed, vX7_needed⟩
theorem eL_needed_8 : z_at mL_needed 8 (.i2l) 1 9 := ⟨z_D DL_needed_ok 6 rfl, rfl⟩
theorem eL_needed_9 : z_at mL_needed 9 (.lastore) 1 10 := ⟨z_D DL_needed_ok 7 rfl, rfl⟩
theorem eL_needed_10 : z_br mL_needed 10 (.goto 11) (11) 13 21 := ⟨z_D DL_needed_ok 8 rfl, rfl, by decide⟩
theorem eL_needed_13 : z_asd mL_needed 13 4 15 := ⟨Or.inr ⟨z_D DL_needed_ok 9 rfl, rfl⟩, by decide⟩
theorem eL_needed_15 : z_co mL_needed 15 (1) 16 := Or.inl ⟨z_D DL_needed_ok 10 rfl, rfl⟩
theorem eL_needed_16 : z_at mL_needed 16 (.ireturn) 1 17 := ⟨z_D DL_needed_ok 11 rfl, rfl⟩
theorem eL_needed_17 : z_asd mL_needed 17 4 19 := ⟨Or.inr ⟨z_D DL_needed_ok 12 rfl, rfl⟩, by decide⟩
theorem eL_needed_19 : z_co mL_needed 19 (2) 20 := Or.inl ⟨z_D DL_needed_ok 13 rfl, rfl⟩
theorem eL_needed_20 : z_at mL_needed 20 (.ireturn) 1 21 := ⟨z_D DL_needed_ok 14 rfl, rfl⟩
theorem eL_needed_21 : z_co mL_needed 21 (0) 22 := Or.inl ⟨z_D DL_needed_ok 15 rfl, rfl⟩
theorem eL_needed_22 : z_at mL_needed 22 (.ireturn) 1 23 := ⟨z_D DL_needed_ok 16 rfl, rfl⟩
def DL_next : List (Nat × Instr × Nat) := [(0, .aload_n 2, 1), (1, .iconst 0, 1), (2, .aload_n 0, 1), (3, .iload_n 1, 1), (4, .invokevirtual 65, 3), (7, .i2l, 1), (8, .lastore, 1), (9, .goto 6, 3), (12, .astore_n 3, 1), (13, .iconst 1, 1), (14, .ireturn, 1), (15, .iconst 0, 1), (16, .ireturn, 1)]
theorem DL_next_ok : DL_next.all (fun q => decide (decode mL_next.2.1 q.1 = .ok q.2)) = true := by decide +kernel
theorem eL_next_0 : z_ad mL_next 0 2 1 := Or.inl ⟨2, z_D DL_next_ok 0 rfl, rfl, rfl⟩
theorem eL_next_1 : z_co mL_next 1 (0) 2 := Or.inl ⟨z_D DL_next_ok 1 rfl, rfl⟩
theorem eL_next_2 : z_ad mL_next 2 0 3 := Or.inl ⟨0, z_D DL_next_ok 2 rfl, rfl, rfl⟩
theorem eL_next_3 : z_ld mL_next 3 1 4 := Or.inl ⟨1, z_D DL_next_ok 3 rfl, rfl, rfl⟩
theorem eL_next_4 : z_at mL_next 4 (.invokevirtual 65) 3 7 ∧ z_lk mL_next.1.cls 65 mX7_next.1 ∧ z_mt mX7_next 1 ∧ z_mv mX7_next 7 := ⟨⟨z_D DL_next_ok 4 rfl, rfl⟩, Or.inl w5_168, tX7_next, vX7_next⟩
theorem eL_next_7 : z_at mL_next 7 (.i2l) 1 8 := ⟨z_D DL_next_ok 5 rfl, rfl⟩
theorem eL_next_8 : z_at mL_next 8 (.lastore) 1 9 := ⟨z_D DL_next_ok 6 rfl, rfl⟩
theorem eL_next_9 : z_br mL_next 9 (.goto 6) (6) 12 15 := ⟨z_D DL_next_ok 7 rfl, rfl, by decide⟩
theorem eL_next_12 : z_asd mL_next 12 3 13 := ⟨Or.inl ⟨3, z_D DL_next_ok 8 rfl, rfl, rfl⟩, by decide⟩
theorem eL_next_13 : z_co mL_next 13 (1) 14 := Or.inl ⟨z_D DL_next_ok 9 rfl, rfl⟩
theorem eL_next_14 : z_at mL_next 14 (.ireturn) 1 15 := ⟨z_D DL_next_ok 10 rfl, rfl⟩
theorem eL_next_15 : z_co mL_next 15 (0) 16 := Or.inl ⟨z_D DL_next_ok 11 rfl, rfl⟩
theorem eL_next_16 : z_at mL_next 16 (.ireturn) 1 17 := ⟨z_D DL_next_ok 12 rfl, rfl⟩
def DL_between : List (Nat × Instr × Nat) := [(0, .aload_n 3, 1), (1, .iconst 0, 1), (2, .aload_n 0, 1), (3, .iload_n 1, 1), (4, .iload_n 2, 1), (5, .invokevirtual 70, 3), (8, .i2l, 1), (9, .lastore, 1), (10, .goto 7, 3), (13, .astore 4, 2), (15, .iconst 1, 1), (16, .ireturn, 1), (17, .iconst 0, 1), (18, .ireturn, 1)]
theorem DL_between_ok : DL_between.all (fun q => decide (decode mL_between.2.1 q.1 = .ok q.2)) = true := by decide +kernel
theorem eL_between_0 : z_ad mL_between 0 3 1 := Or.inl ⟨3, z_D DL_between_ok 0 rfl, rfl, rfl⟩
theorem eL_between_1 : z_co mL_between 1 (0) 2 := Or.inl ⟨z_D DL_between_ok 1 rfl, rfl⟩
theorem eL_between_2 : z_ad mL_between 2 0 3 := Or.inl ⟨0, z_D DL_between_ok 2 rfl, rfl, rfl⟩
theorem eL_between_3 : z_ld mL_between 3 1 4 := Or.inl ⟨1, z_D DL_between_ok 3 rfl, rfl, rfl⟩
theorem eL_between_4 : z_ld mL_between 4 2 5 := Or.inl ⟨2, z_D DL_between_ok 4 rfl, rfl, rfl⟩
theorem eL_between_5 : z_at mL_between 5 (.invokevirtual 70) 3 8 ∧ z_lk mL_between.1.cls 70 mX7_between.1 ∧ z_mt mX7_between 2 ∧ z_mv mX7_between 7 := ⟨⟨z_D DL_between_ok 5 rfl, rfl⟩, Or.inl w5_191, tX7_between, vX7_between⟩
theorem eL_between_8 : z_at mL_between 8 (.i2l) 1 9 := ⟨z_D DL_between_ok 6 rfl, rfl⟩
theorem eL_between_9 : z_at mL_between 9 (.lastore) 1 10 := ⟨z_D DL_between_ok 7 rfl, rfl⟩
theorem eL_between_10 : z_br mL_between 10 (.goto 7) (7) 13 17 := ⟨z_D DL_between_ok 8 rfl, rfl, by decide⟩
theorem eL_between_13 : z_asd mL_between 13 4 15 := ⟨Or.inr ⟨z_D DL_between_ok 9 rfl, rfl⟩, by decide⟩
theorem eL_between_15 : z_co mL_between 15 (1) 16 := Or.inl ⟨z_D DL_between_ok 10 rfl, rfl⟩
theorem eL_between_16 : z_at mL_between 16 (.ireturn) 1 17 := ⟨z_D DL_between_ok 11 rfl, rfl⟩
theorem eL_between_17 : z_co mL_between 17 (0) 18 := Or.inl ⟨z_D DL_between_ok 12 rfl, rfl⟩
theorem eL_between_18 : z_at mL_between 18 (.ireturn) 1 19 := ⟨z_D DL_between_ok 13 rfl, rfl⟩
def DL_median : List (Nat × Instr × Nat) := [(0, .aload_n 2, 1), (1, .iconst 0, 1), (2, .aload_n 0, 1), (3, .iload_n 1, 1), (4, .invokevirtual 73, 3), (7, .i2l, 1), (8, .lastore, 1), (9, .goto 6, 3), (12, .astore_n 3, 1), (13, .iconst 1, 1), (14, .ireturn, 1), (15, .iconst 0, 1), (16, .ireturn, 1)]
theorem DL_median_ok : DL_median.all (fun q => decide (decode mL_median.2.1 q.1 = .ok q.2)) = true := by decide +kernel
theorem eL_median_0 : z_ad mL_median 0 2 1 := Or.inl ⟨2, z_D DL_median_ok 0 rfl, rfl, rfl⟩
theorem eL_median_1 : z_co mL_median 1 (0) 2 := Or.inl ⟨z_D DL_median_ok 1 rfl, rfl⟩
theorem eL_median_2 : z_ad mL_median 2 0 3 := Or.inl ⟨0, z_D DL_median_ok 2 rfl, rfl, rfl⟩
theorem eL_median_3 : z_ld mL_median 3 1 4 := Or.inl ⟨1, z_D DL_median_ok 3 rfl, rfl, rfl⟩
theorem eL_median_4 : z_at mL_median 4 (.invokevirtual 73) 3 7 ∧ z_lk mL_median.1.cls 73 mX7_median.1 ∧ z_mt mX7_median 1 ∧ z_mv mX7_median 7 := ⟨⟨z_D DL_median_ok 4 rfl, rfl⟩, Or.inl w5_199, tX7_median, vX7_median⟩
theorem eL_median_7 : z_at mL_median 7 (.i2l) 1 8 := ⟨z_D DL_median_ok 5 rfl, rfl⟩
theorem eL_median_8 : z_at mL_median 8 (.lastore) 1 9 := ⟨z_D DL_median_ok 6 rfl, rfl⟩
theorem eL_median_9 : z_br mL_median 9 (.goto 6) (6) 12 15 := ⟨z_D DL_median_ok 7 rfl, rfl, by decide⟩
theorem eL_median_12 : z_asd mL_median 12 3 13 := ⟨Or.inl ⟨3, z_D DL_median_ok 8 rfl, rfl, rfl⟩, by decide⟩
theorem eL_median_13 : z_co mL_median 13 (1) 14 := Or.inl ⟨z_D DL_median_ok 9 rfl, rfl⟩
theorem eL_median_14 : z_at mL_median 14 (.ireturn) 1 15 := ⟨z_D DL_median_ok 10 rfl, rfl⟩
theorem eL_median_15 : z_co mL_median 15 (0) 16 := Or.inl ⟨z_D DL_median_ok 11 rfl, rfl⟩
theorem eL_median_16 : z_at mL_median 16 (.ireturn) 1 17 := ⟨z_D DL_median_ok 12 rfl, rfl⟩
def DL_quantile : List (Nat × Instr × Nat) := [(0, .aload_n 3, 1), (1, .iconst 0, 1), (2, .aload_n 0, 1), (3, .iload_n 1, 1), (4, .iload_n 2, 1), (5, .invokevirtual 77, 3), (8, .i2l, 1), (9, .lastore, 1), (10, .goto 11, 3), (13, .astore 4, 2), (15, .iconst 1, 1), (16, .ireturn, 1), (17, .astore 4, 2), (19, .iconst 2, 1), (20, .ireturn, 1), (21, .iconst 0, 1), (22, .ireturn, 1)]
theorem DL_quantile_ok : DL_quantile.all (fun q => decide (decode mL_quantile.2.1 q.1 = .ok q.2)) = true := by decide +kernel
theorem eL_quantile_0 : z_ad mL_quantile 0 3 1 := Or.inl ⟨3, z_D DL_quantile_ok 0 rfl, rfl, rfl⟩
theorem eL_quantile_1 : z_co mL_quantile 1 (0) 2 := Or.inl ⟨z_D DL_quantile_ok 1 rfl, rfl⟩
theorem eL_quantile_2 : z_ad mL_quantile 2 0 3 := Or.inl ⟨0, z_D DL_quantile_ok 2 rfl, rfl, rfl⟩
theorem eL_quantile_3 : z_ld mL_quantile 3 1 4 := Or.inl ⟨1, z_D DL_quantile_ok 3 rfl, rfl, rfl⟩
theorem eL_quantile_4 : z_ld mL_quantile 4 2 5 := Or.inl ⟨2, z_D DL_quantile_ok 4 rfl, rfl, rfl⟩
theorem eL_quantile_5 : z_at mL_quantile 5 (.invokevirtual 77) 3 8 ∧ z_lk mL_quantile.1.cls 77 mX7_quantile.1 ∧ z_mt mX7_quantile 2 ∧ z_mv mX7_quantile 7 := ⟨⟨z_D DL_quantile_ok 5 rfl, rfl⟩, Or.inl w5_211, tX7_quantile, vX7_quantile⟩
theorem eL_quantile_8 : z_at mL_quantile 8 (.i2l) 1 9 := ⟨z_D DL_quantile_ok 6 rfl, rfl⟩
theorem eL_quantile_9 : z_at mL_quantile 9 (.lastore) 1 10 := ⟨z_D DL_quantile_ok 7 rfl, rfl⟩
theorem eL_quantile_10 : z_br mL_quantile 10 (.goto 11) (11) 13 21 := ⟨z_D DL_quantile_ok 8 rfl, rfl, by decide⟩
theorem eL_quantile_13 : z_asd mL_quantile 13 4 15 := ⟨Or.inr ⟨z_D DL_quantile_ok 9 rfl, rfl⟩, by decide⟩
theorem eL_quantile_15 : z_co mL_quantile 15 (1) 16 := Or.inl ⟨z_D DL_quantile_ok 10 rfl, rfl⟩
theorem eL_quantile_16 : z_at mL_quantile 16 (.ireturn) 1 17 := ⟨z_D DL_quantile_ok 11 rfl, rfl⟩
theorem eL_quantile_17 : z_asd mL_quantile 17 4 19 := ⟨Or.inr ⟨z_D DL_quantile_ok 12 rfl, rfl⟩, by decide⟩
theorem eL_quantile_19 : z_co mL_quantile 19 (2) 20 := Or.inl ⟨z_D DL_quantile_ok 13 rfl, rfl⟩
theorem eL_quantile_20 : z_at mL_quantile 20 (.ireturn) 1 21 := ⟨z_D DL_quantile_ok 14 rfl, rfl⟩
theorem eL_quantile_21 : z_co mL_quantile 21 (0) 22 := Or.inl ⟨z_D DL_quantile_ok 15 rfl, rfl⟩
theorem eL_quantile_22 : z_at mL_quantile 22 (.ireturn) 1 23 := ⟨z_D DL_quantile_ok 16 rfl, rfl⟩
def DL_enter : List (Nat × Instr × Nat) := [(0, .aload_n 2, 1), (1, .iconst 0, 1), (2, .aload_n 0, 1), (3, .iload_n 1, 1), (4, .invokevirtual 80, 3), (7, .i2l, 1), (8, .lastore, 1), (9, .goto 9, 3), (12, .astore_n 3, 1), (13, .iconst 1, 1), (14, .ireturn, 1), (15, .astore_n 3, 1), (16, .iconst 2, 1), (17, .ireturn, 1), (18, .iconst 0, 1), (19, .ireturn, 1)]
theorem DL_enter_ok : DL_enter.all (fun q => decide (decode mL_enter.2.1 q.1 = .ok q.2)) = true := by decide +kernel
theorem eL_enter_0 : z_ad mL_enter 0 2 1 := Or.inl ⟨2, z_D DL_enter_ok 0 rfl, rfl, rfl⟩
theorem eL_enter_1 : z_co mL_enter 1 (0) 2 := Or.inl ⟨z_D DL_enter_ok 1 rfl, rfl⟩
theorem eL_enter_2 : z_ad mL_enter 2 0 3 := Or.inl ⟨0, z_D DL_enter_ok 2 rfl, rfl, rfl⟩
theorem eL_enter_3 : z_ld mL_enter 3 1 4 := Or.inl ⟨1, z_D DL_enter_ok 3 rfl, rfl, rfl⟩
theorem eL_enter_4 : z_at mL_enter 4 (.invokevirtual 80) 3 7 ∧ z_lk mL_enter.1.cls 80 mX7_enter.1 ∧ z_mt mX7_enter 1 ∧ z_mv mX7_enter 7 := ⟨⟨z_D DL_enter_ok 4 rfl, rfl⟩, Or.inl w5_220, tX7_enter, vX7_enter⟩
theorem eL_enter_7 : z_at mL_enter 7 (.i2l) 1 8 := ⟨z_D DL_enter_ok 5 rfl, rfl⟩
theorem eL_enter_8 : z_at mL_enter 8 (.lastore) 1 9 := ⟨z_D DL_enter_ok 6 rfl, rfl⟩
theorem eL_enter_9 : z_br mL_enter 9 (.goto 9) (9) 12 18 := ⟨z_D DL_enter_ok 7 rfl, rfl, by decide⟩
theorem eL_enter_12 : z_asd mL_enter 12 3 13 := ⟨Or.inl ⟨3, z_D DL_enter_ok 8 rfl, rfl, rfl⟩, by decide⟩
theorem eL_enter_13 : z_co mL_enter 13 (1) 14 := Or.inl ⟨z_D DL_enter_ok 9 rfl, rfl⟩
theorem eL_enter_14 : z_at mL_enter 14 (.ireturn) 1 15 := ⟨z_D DL_enter_ok 10 rfl, rfl⟩
theorem eL_enter_15 : z_asd mL_enter 15 3 16 := ⟨Or.inl ⟨3, z_D DL_enter_ok 11 rfl, rfl, rfl⟩, by decide⟩
theorem eL_enter_16 : z_co mL_enter 16 (2) 17 := Or.inl ⟨z_D DL_enter_ok 12 rfl, rfl⟩
theorem eL_enter_17 : z_at mL_enter 17 (.ireturn) 1 18 := ⟨z_D DL_enter_ok 13 rfl, rfl⟩
theorem eL_enter_18 : z_co mL_enter 18 (0) 19 := Or.inl ⟨z_D DL_enter_ok 14 rfl, rfl⟩
theorem eL_enter_19 : z_at mL_enter 19 (.ireturn) 1 20 := ⟨z_D DL_enter_ok 15 rfl, rfl⟩
def DL_challenge : List (Nat × Instr × Nat) := [(0, .aload 4, 2), (2, .iconst 0, 1), (3, .aload_n 0, 1), (4, .iload_n 1, 1), (5, .iload_n 2, 1), (6, .iload_n 3, 1), (7, .invokevirtual 83, 3), (10, .i2l, 1), (11, .lastore, 1), (12, .goto 11, 3), (15, .astore 5, 2), (17, .iconst 1, 1), (18, .ireturn, 1), (19, .astore 5, 2), (21, .iconst 2, 1), (22, .ireturn, 1), (23, .iconst 0, 1), (24, .ireturn, 1)]
theorem DL_challenge_ok : DL_challenge.all (fun q => decide (decode mL_challenge.2.1 q.1 = .ok q.2)) = true := by decide +kernel
theorem eL_challenge_0 : z_ad mL_challenge 0 4 2 := Or.inr ⟨z_D DL_challenge_ok 0 rfl, rfl⟩
theorem eL_challenge_2 : z_co mL_challenge 2 (0) 3 := Or.inl ⟨z_D DL_challenge_ok 1 rfl, rfl⟩
theorem eL_challenge_3 : z_ad mL_challenge 3 0 4 := Or.inl ⟨0, z_D DL_challenge_ok 2 rfl, rfl, rfl⟩
theorem eL_challenge_4 : z_ld mL_challenge 4 1 5 := Or.inl ⟨1, z_D DL_challenge_ok 3 rfl, rfl, rfl⟩
theorem eL_challenge_5 : z_ld mL_challenge 5 2 6 := Or.inl ⟨2, z_D DL_challenge_ok 4 rfl, rfl, rfl⟩
theorem eL_challenge_6 : z_ld mL_challenge 6 3 7 := Or.inl ⟨3, z_D DL_challenge_ok 5 rfl, rfl, rfl⟩
theorem eL_challenge_7 : z_at mL_challenge 7 (.invokevirtual 83) 3 10 ∧ z_lk mL_challenge.1.cls 83 mX7_challenge.1 ∧ z_mt mX7_challenge 3 ∧ z_mv mX7_challenge 7 := ⟨⟨z_D DL_challenge_ok 6 rfl, rfl⟩, Or.inl w5_234, tX7_challenge, vX7_challenge⟩
theorem eL_challenge_10 : z_at mL_challenge 10 (.i2l) 1 11 := ⟨z_D DL_challenge_ok 7 rfl, rfl⟩
theorem eL_challenge_11 : z_at mL_challenge 11 (.lastore) 1 12 := ⟨z_D DL_challenge_ok 8 rfl, rfl⟩
theorem eL_challenge_12 : z_br mL_challenge 12 (.goto 11) (11) 15 23 := ⟨z_D DL_challenge_ok 9 rfl, rfl, by decide⟩
theorem eL_challenge_15 : z_asd mL_challenge 15 5 17 := ⟨Or.inr ⟨z_D DL_challenge_ok 10 rfl, rfl⟩, by decide⟩
theorem eL_challenge_17 : z_co mL_challenge 17 (1) 18 := Or.inl ⟨z_D DL_challenge_ok 11 rfl, rfl⟩
theorem eL_challenge_18 : z_at mL_challenge 18 (.ireturn) 1 19 := ⟨z_D DL_challenge_ok 12 rfl, rfl⟩
theorem eL_challenge_19 : z_asd mL_challenge 19 5 21 := ⟨Or.inr ⟨z_D DL_challenge_ok 13 rfl, rfl⟩, by decide⟩
theorem eL_challenge_21 : z_co mL_challenge 21 (2) 22 := Or.inl ⟨z_D DL_challenge_ok 14 rfl, rfl⟩
theorem eL_challenge_22 : z_at mL_challenge 22 (.ireturn) 1 23 := ⟨z_D DL_challenge_ok 15 rfl, rfl⟩
theorem eL_challenge_23 : z_co mL_challenge 23 (0) 24 := Or.inl ⟨z_D DL_challenge_ok 16 rfl, rfl⟩
theorem eL_challenge_24 : z_at mL_challenge 24 (.ireturn) 1 25 := ⟨z_D DL_challenge_ok 17 rfl, rfl⟩
def DL_mayChallenge : List (Nat × Instr × Nat) := [(0, .aload_n 2, 1), (1, .iconst 0, 1), (2, .aload_n 0, 1), (3, .iload_n 1, 1), (4, .invokevirtual 87, 3), (7, .i2l, 1), (8, .lastore, 1), (9, .goto 6, 3), (12, .astore_n 3, 1), (13, .iconst 1, 1), (14, .ireturn, 1), (15, .iconst 0, 1), (16, .ireturn, 1)]
theorem DL_mayChallenge_ok : DL_mayChallenge.all (fun q => decide (decode mL_mayChallenge.2.1 q.1 = .ok q.2)) = true := by decide +kernel
theorem eL_mayChallenge_0 : z_ad mL_mayChallenge 0 2 1 := Or.inl ⟨2, z_D DL_mayChallenge_ok 0 rfl, rfl, rfl⟩
theorem eL_mayChallenge_1 : z_co mL_mayChallenge 1 (0) 2 := Or.inl ⟨z_D DL_mayChallenge_ok 1 rfl, rfl⟩
theorem eL_mayChallenge_2 : z_ad mL_mayChallenge 2 0 3 := Or.inl ⟨0, z_D DL_mayChallenge_ok 2 rfl, rfl, rfl⟩
theorem eL_mayChallenge_3 : z_ld mL_mayChallenge 3 1 4 := Or.inl ⟨1, z_D DL_mayChallenge_ok 3 rfl, rfl, rfl⟩
theorem eL_mayChallenge_4 : z_at mL_mayChallenge 4 (.invokevirtual 87) 3 7 ∧ z_lk mL_mayChallenge.1.cls 87 mX7_mayChallenge.1 ∧ z_mt mX7_mayChallenge 1 ∧ z_mv mX7_mayChallenge 7 := ⟨⟨z_D DL_mayChallenge_ok 4 rfl, rfl⟩, Or.inl w6_8, tX7_mayChallenge, vX7_mayChallenge⟩
theorem eL_mayChallenge_7 : z_at mL_mayChallenge 7 (.i2l) 1 8 := ⟨z_D DL_mayChallenge_ok 5 rfl, rfl⟩
theorem eL_mayChallenge_8 : z_at mL_mayChallenge 8 (.lastore) 1 9 := ⟨z_D DL_mayChallenge_ok 6 rfl, rfl⟩
theorem eL_mayChallenge_9 : z_br mL_mayChallenge 9 (.goto 6) (6) 12 15 := ⟨z_D DL_mayChallenge_ok 7 rfl, rfl, by decide⟩
theorem eL_mayChallenge_12 : z_asd mL_mayChallenge 12 3 13 := ⟨Or.inl ⟨3, z_D DL_mayChallenge_ok 8 rfl, rfl, rfl⟩, by decide⟩
theorem eL_mayChallenge_13 : z_co mL_mayChallenge 13 (1) 14 := Or.inl ⟨z_D DL_mayChallenge_ok 9 rfl, rfl⟩
theorem eL_mayChallenge_14 : z_at mL_mayChallenge 14 (.ireturn) 1 15 := ⟨z_D DL_mayChallenge_ok 10 rfl, rfl⟩
theorem eL_mayChallenge_15 : z_co mL_mayChallenge 15 (0) 16 := Or.inl ⟨z_D DL_mayChallenge_ok 11 rfl, rfl⟩
theorem eL_mayChallenge_16 : z_at mL_mayChallenge 16 (.ireturn) 1 17 := ⟨z_D DL_mayChallenge_ok 12 rfl, rfl⟩
def DL_setReach : List (Nat × Instr × Nat) := [(0, .aload_n 2, 1), (1, .iconst 0, 1), (2, .aload_n 0, 1), (3, .iload_n 1, 1), (4, .invokevirtual 90, 3), (7, .i2l, 1), (8, .lastore, 1), (9, .goto 6, 3), (12, .astore_n 3, 1), (13, .iconst 1, 1), (14, .ireturn, 1), (15, .iconst 0, 1), (16, .ireturn, 1)]
theorem DL_setReach_ok : DL_setReach.all (fun q => decide (decode mL_setReach.2.1 q.1 = .ok q.2)) = true := by decide +kernel
theorem eL_setReach_0 : z_ad mL_setReach 0 2 1 := Or.inl ⟨2, z_D DL_setReach_ok 0 rfl, rfl, rfl⟩
theorem eL_setReach_1 : z_co mL_setReach 1 (0) 2 := Or.inl ⟨z_D DL_setReach_ok 1 rfl, rfl⟩
theorem eL_setReach_2 : z_ad mL_setReach 2 0 3 := Or.inl ⟨0, z_D DL_setReach_ok 2 rfl, rfl, rfl⟩
theorem eL_setReach_3 : z_ld mL_setReach 3 1 4 := Or.inl ⟨1, z_D DL_setReach_ok 3 rfl, rfl, rfl⟩
theorem eL_setReach_4 : z_at mL_setReach 4 (.invokevirtual 90) 3 7 ∧ z_lk mL_setReach.1.cls 90 mX7_setReach.1 ∧ z_mt mX7_setReach 1 ∧ z_mv mX7_setReach 7 := ⟨⟨z_D DL_setReach_ok 4 rfl, rfl⟩, Or.inl w6_15, tX7_setReach, vX7_setReach⟩
theorem eL_setReach_7 : z_at mL_setReach 7 (.i2l) 1 8 := ⟨z_D DL_setReach_ok 5 rfl, rfl⟩
theorem eL_setReach_8 : z_at mL_setReach 8 (.lastore) 1 9 := ⟨z_D DL_setReach_ok 6 rfl, rfl⟩
theorem eL_setReach_9 : z_br mL_setReach 9 (.goto 6) (6) 12 15 := ⟨z_D DL_setReach_ok 7 rfl, rfl, by decide⟩
theorem eL_setReach_12 : z_asd mL_setReach 12 3 13 := ⟨Or.inl ⟨3, z_D DL_setReach_ok 8 rfl, rfl, rfl⟩, by decide⟩
theorem eL_setReach_13 : z_co mL_setReach 13 (1) 14 := Or.inl ⟨z_D DL_setReach_ok 9 rfl, rfl⟩
theorem eL_setReach_14 : z_at mL_setReach 14 (.ireturn) 1 15 := ⟨z_D DL_setReach_ok 10 rfl, rfl⟩
theorem eL_setReach_15 : z_co mL_setReach 15 (0) 16 := Or.inl ⟨z_D DL_setReach_ok 11 rfl, rfl⟩
theorem eL_setReach_16 : z_at mL_setReach 16 (.ireturn) 1 17 := ⟨z_D DL_setReach_ok 12 rfl, rfl⟩
def DL_setPatience : List (Nat × Instr × Nat) := [(0, .aload_n 2, 1), (1, .iconst 0, 1), (2, .aload_n 0, 1), (3, .iload_n 1, 1), (4, .invokevirtual 93, 3), (7, .i2l, 1), (8, .lastore, 1), (9, .goto 6, 3), (12, .astore_n 3, 1), (13, .iconst 1, 1), (14, .ireturn, 1), (15, .iconst 0, 1), (16, .ireturn, 1)]
theorem DL_setPatience_ok : DL_setPatience.all (fun q => decide (decode mL_setPatience.2.1 q.1 = .ok q.2)) = true := by decide +kernel
theorem eL_setPatience_0 : z_ad mL_setPatience 0 2 1 := Or.inl ⟨2, z_D DL_setPatience_ok 0 rfl, rfl, rfl⟩
theorem eL_setPatience_1 : z_co mL_setPatience 1 (0) 2 := Or.inl ⟨z_D DL_setPatience_ok 1 rfl, rfl⟩
theorem eL_setPatience_2 : z_ad mL_setPatience 2 0 3 := Or.inl ⟨0, z_D DL_setPatience_ok 2 rfl, rfl, rfl⟩
theorem eL_setPatience_3 : z_ld mL_setPatience 3 1 4 := Or.inl ⟨1, z_D DL_setPatience_ok 3 rfl, rfl, rfl⟩
theorem eL_setPatience_4 : z_at mL_setPatience 4 (.invokevirtual 93) 3 7 ∧ z_lk mL_setPatience.1.cls 93 mX7_setPatience.1 ∧ z_mt mX7_setPatience 1 ∧ z_mv mX7_setPatience 7 := ⟨⟨z_D DL_setPatience_ok 4 rfl, rfl⟩, Or.inl w6_23, tX7_setPatience, vX7_setPatience⟩
theorem eL_setPatience_7 : z_at mL_setPatience 7 (.i2l) 1 8 := ⟨z_D DL_setPatience_ok 5 rfl, rfl⟩
theorem eL_setPatience_8 : z_at mL_setPatience 8 (.lastore) 1 9 := ⟨z_D DL_setPatience_ok 6 rfl, rfl⟩
theorem eL_setPatience_9 : z_br mL_setPatience 9 (.goto 6) (6) 12 15 := ⟨z_D DL_setPatience_ok 7 rfl, rfl, by decide⟩
theorem eL_setPatience_12 : z_asd mL_setPatience 12 3 13 := ⟨Or.inl ⟨3, z_D DL_setPatience_ok 8 rfl, rfl, rfl⟩, by decide⟩
theorem eL_setPatience_13 : z_co mL_setPatience 13 (1) 14 := Or.inl ⟨z_D DL_setPatience_ok 9 rfl, rfl⟩
theorem eL_setPatience_14 : z_at mL_setPatience 14 (.ireturn) 1 15 := ⟨z_D DL_setPatience_ok 10 rfl, rfl⟩
theorem eL_setPatience_15 : z_co mL_setPatience 15 (0) 16 := Or.inl ⟨z_D DL_setPatience_ok 11 rfl, rfl⟩
theorem eL_setPatience_16 : z_at mL_setPatience 16 (.ireturn) 1 17 := ⟨z_D DL_setPatience_ok 12 rfl, rfl⟩
def DL_ladderAt : List (Nat × Instr × Nat) := [(0, .aload_n 2, 1), (1, .iconst 0, 1), (2, .aload_n 0, 1), (3, .iload_n 1, 1), (4, .invokevirtual 96, 3), (7, .i2l, 1), (8, .lastore, 1), (9, .goto 6, 3), (12, .astore_n 3, 1), (13, .iconst 1, 1), (14, .ireturn, 1), (15, .iconst 0, 1), (16, .ireturn, 1)]
theorem DL_ladderAt_ok : DL_ladderAt.all (fun q => decide (decode mL_ladderAt.2.1 q.1 = .ok q.2)) = true := by decide +kernel
theorem eL_ladderAt_0 : z_ad mL_ladderAt 0 2 1 := Or.inl ⟨2, z_D DL_ladderAt_ok 0 rfl, rfl, rfl⟩
theorem eL_ladderAt_1 : z_co mL_ladderAt 1 (0) 2 := Or.inl ⟨z_D DL_ladderAt_ok 1 rfl, rfl⟩
theorem eL_ladderAt_2 : z_ad mL_ladderAt 2 0 3 := Or.inl ⟨0, z_D DL_ladderAt_ok 2 rfl, rfl, rfl⟩
theorem eL_ladderAt_3 : z_ld mL_ladderAt 3 1 4 := Or.inl ⟨1, z_D DL_ladderAt_ok 3 rfl, rfl, rfl⟩
theorem eL_ladderAt_4 : z_at mL_ladderAt 4 (.invokevirtual 96) 3 7 ∧ z_lk mL_ladderAt.1.cls 96 mX7_ladderAt.1 ∧ z_mt mX7_ladderAt 1 ∧ z_mv mX7_ladderAt 7 := ⟨⟨z_D DL_ladderAt_ok 4 rfl, rfl⟩, Or.inl w6_31, tX7_ladderAt, vX7_ladderAt⟩
theorem eL_ladderAt_7 : z_at mL_ladderAt 7 (.i2l) 1 8 := ⟨z_D DL_ladderAt_ok 5 rfl, rfl⟩
theorem eL_ladderAt_8 : z_at mL_ladderAt 8 (.lastore) 1 9 := ⟨z_D DL_ladderAt_ok 6 rfl, rfl⟩
theorem eL_ladderAt_9 : z_br mL_ladderAt 9 (.goto 6) (6) 12 15 := ⟨z_D DL_ladderAt_ok 7 rfl, rfl, by decide⟩
theorem eL_ladderAt_12 : z_asd mL_ladderAt 12 3 13 := ⟨Or.inl ⟨3, z_D DL_ladderAt_ok 8 rfl, rfl, rfl⟩, by decide⟩
theorem eL_ladderAt_13 : z_co mL_ladderAt 13 (1) 14 := Or.inl ⟨z_D DL_ladderAt_ok 9 rfl, rfl⟩
theorem eL_ladderAt_14 : z_at mL_ladderAt 14 (.ireturn) 1 15 := ⟨z_D DL_ladderAt_ok 10 rfl, rfl⟩
theorem eL_ladderAt_15 : z_co mL_ladderAt 15 (0) 16 := Or.inl ⟨z_D DL_ladderAt_ok 11 rfl, rfl⟩
theorem eL_ladderAt_16 : z_at mL_ladderAt 16 (.ireturn) 1 17 := ⟨z_D DL_ladderAt_ok 12 rfl, rfl⟩
def DL_ladderPlace : List (Nat × Instr × Nat) := [(0, .aload_n 2, 1), (1, .iconst 0, 1), (2, .aload_n 0, 1), (3, .iload_n 1, 1), (4, .invokevirtual 99, 3), (7, .i2l, 1), (8, .lastore, 1), (9, .goto 6, 3), (12, .astore_n 3, 1), (13, .iconst 1, 1), (14, .ireturn, 1), (15, .iconst 0, 1), (16, .ireturn, 1)]
theorem DL_ladderPlace_ok : DL_ladderPlace.all (fun q => decide (decode mL_ladderPlace.2.1 q.1 = .ok q.2)) = true := by decide +kernel
theorem eL_ladderPlace_0 : z_ad mL_ladderPlace 0 2 1 := Or.inl ⟨2, z_D DL_ladderPlace_ok 0 rfl, rfl, rfl⟩
theorem eL_ladderPlace_1 : z_co mL_ladderPlace 1 (0) 2 := Or.inl ⟨z_D DL_ladderPlace_ok 1 rfl, rfl⟩
theorem eL_ladderPlace_2 : z_ad mL_ladderPlace 2 0 3 := Or.inl ⟨0, z_D DL_ladderPlace_ok 2 rfl, rfl, rfl⟩
theorem eL_ladderPlace_3 : z_ld mL_ladderPlace 3 1 4 := Or.inl ⟨1, z_D DL_ladderPlace_ok 3 rfl, rfl, rfl⟩
theorem eL_ladderPlace_4 : z_at mL_ladderPlace 4 (.invokevirtual 99) 3 7 ∧ z_lk mL_ladderPlace.1.cls 99 mX7_ladderPlace.1 ∧ z_mt mX7_ladderPlace 1 ∧ z_mv mX7_ladderPlace 7 := ⟨⟨z_D DL_ladderPlace_ok 4 rfl, rfl⟩, Or.inl w6_38, tX7_ladderPlace, vX7_ladderPlace⟩
theorem eL_ladderPlace_7 : z_at mL_ladderPlace 7 (.i2l) 1 8 := ⟨z_D DL_ladderPlace_ok 5 rfl, rfl⟩
theorem eL_ladderPlace_8 : z_at mL_ladderPlace 8 (.lastore) 1 9 := ⟨z_D DL_ladderPlace_ok 6 rfl, rfl⟩
theorem eL_ladderPlace_9 : z_br mL_ladderPlace 9 (.goto 6) (6) 12 15 := ⟨z_D DL_ladderPlace_ok 7 rfl, rfl, by decide⟩
theorem eL_ladderPlace_12 : z_asd mL_ladderPlace 12 3 13 := ⟨Or.inl ⟨3, z_D DL_ladderPlace_ok 8 rfl, rfl, rfl⟩, by decide⟩
theorem eL_ladderPlace_13 : z_co mL_ladderPlace 13 (1) 14 := Or.inl ⟨z_D DL_ladderPlace_ok 9 rfl, rfl⟩
theorem eL_ladderPlace_14 : z_at mL_ladderPlace 14 (.ireturn) 1 15 := ⟨z_D DL_ladderPlace_ok 10 rfl, rfl⟩
theorem eL_ladderPlace_15 : z_co mL_ladderPlace 15 (0) 16 := Or.inl ⟨z_D DL_ladderPlace_ok 11 rfl, rfl⟩
theorem eL_ladderPlace_16 : z_at mL_ladderPlace 16 (.ireturn) 1 17 := ⟨z_D DL_ladderPlace_ok 12 rfl, rfl⟩
def DL_endRound : List (Nat × Instr × Nat) := [(0, .aload_n 1, 1), (1, .iconst 0, 1), (2, .aload_n 0, 1), (3, .invokevirtual 102, 3), (6, .i2l, 1), (7, .lastore, 1), (8, .goto 6, 3), (11, .astore_n 2, 1), (12, .iconst 1, 1), (13, .ireturn, 1), (14, .iconst 0, 1), (15, .ireturn, 1)]
theorem DL_endRound_ok : DL_endRound.all (fun q => decide (decode mL_endRound.2.1 q.1 = .ok q.2)) = true := by decide +kernel
theorem eL_endRound_0 : z_ad mL_endRound 0 1 1 := Or.inl ⟨1, z_D DL_endRound_ok 0 rfl, rfl, rfl⟩
theorem eL_endRound_1 : z_co mL_endRound 1 (0) 2 := Or.inl ⟨z_D DL_endRound_ok 1 rfl, rfl⟩
theorem eL_endRound_2 : z_ad mL_endRound 2 0 3 := Or.inl ⟨0, z_D DL_endRound_ok 2 rfl, rfl, rfl⟩
theorem eL_endRound_3 : z_at mL_endRound 3 (.invokevirtual 102) 3 6 ∧ z_lk mL_endRound.1.cls 102 mX7_endRound.1 ∧ z_mt mX7_endRound 0 ∧ z_mv mX7_endRound 7 := ⟨⟨z_D DL_endRound_ok 3 rfl, rfl⟩, Or.inl w6_45, tX7_endRound, vX7_endRound⟩
theorem eL_endRound_6 : z_at mL_endRound 6 (.i2l) 1 7 := ⟨z_D DL_endRound_ok 4 rfl, rfl⟩
theorem eL_endRound_7 : z_at mL_endRound 7 (.lastore) 1 8 := ⟨z_D DL_endRound_ok 5 rfl, rfl⟩
theorem eL_endRound_8 : z_br mL_endRound 8 (.goto 6) (6) 11 14 := ⟨z_D DL_endRound_ok 6 rfl, rfl, by decide⟩
theorem eL_endRound_11 : z_asd mL_endRound 11 2 12 := ⟨Or.inl ⟨2, z_D DL_endRound_ok 7 rfl, rfl, rfl⟩, by decide⟩
theorem eL_endRound_12 : z_co mL_endRound 12 (1) 13 := Or.inl ⟨z_D DL_endRound_ok 8 rfl, rfl⟩
theorem eL_endRound_13 : z_at mL_endRound 13 (.ireturn) 1 14 := ⟨z_D DL_endRound_ok 9 rfl, rfl⟩
theorem eL_endRound_14 : z_co mL_endRound 14 (0) 15 := Or.inl ⟨z_D DL_endRound_ok 10 rfl, rfl⟩
theorem eL_endRound_15 : z_at mL_endRound 15 (.ireturn) 1 16 := ⟨z_D DL_endRound_ok 11 rfl, rfl⟩
def DL_gain : List (Nat × Instr × Nat) := [(0, .aload_n 2, 1), (1, .iconst 0, 1), (2, .aload_n 0, 1), (3, .iload_n 1, 1), (4, .invokevirtual 105, 3), (7, .i2l, 1), (8, .lastore, 1), (9, .goto 6, 3), (12, .astore_n 3, 1), (13, .iconst 1, 1), (14, .ireturn, 1), (15, .iconst 0, 1), (16, .ireturn, 1)]
theorem DL_gain_ok : DL_gain.all (fun q => decide (decode mL_gain.2.1 q.1 = .ok q.2)) = true := by decide +kernel
theorem eL_gain_0 : z_ad mL_gain 0 2 1 := Or.inl ⟨2, z_D DL_gain_ok 0 rfl, rfl, rfl⟩
theorem eL_gain_1 : z_co mL_gain 1 (0) 2 := Or.inl ⟨z_D DL_gain_ok 1 rfl, rfl⟩
theorem eL_gain_2 : z_ad mL_gain 2 0 3 := Or.inl ⟨0, z_D DL_gain_ok 2 rfl, rfl, rfl⟩
theorem eL_gain_3 : z_ld mL_gain 3 1 4 := Or.inl ⟨1, z_D DL_gain_ok 3 rfl, rfl, rfl⟩
theorem eL_gain_4 : z_at mL_gain 4 (.invokevirtual 105) 3 7 ∧ z_lk mL_gain.1.cls 105 mX7_gain.1 ∧ z_mt mX7_gain 1 ∧ z_mv mX7_gain 7 := ⟨⟨z_D DL_gain_ok 4 rfl, rfl⟩, Or.inl w6_68, tX7_gain, vX7_gain⟩
theorem eL_gain_7 : z_at mL_gain 7 (.i2l) 1 8 := ⟨z_D DL_gain_ok 5 rfl, rfl⟩
theorem eL_gain_8 : z_at mL_gain 8 (.lastore) 1 9 := ⟨z_D DL_gain_ok 6 rfl, rfl⟩
theorem eL_gain_9 : z_br mL_gain 9 (.goto 6) (6) 12 15 := ⟨z_D DL_gain_ok 7 rfl, rfl, by decide⟩
theorem eL_gain_12 : z_asd mL_gain 12 3 13 := ⟨Or.inl ⟨3, z_D DL_gain_ok 8 rfl, rfl, rfl⟩, by decide⟩
theorem eL_gain_13 : z_co mL_gain 13 (1) 14 := Or.inl ⟨z_D DL_gain_ok 9 rfl, rfl⟩
theorem eL_gain_14 : z_at mL_gain 14 (.ireturn) 1 15 := ⟨z_D DL_gain_ok 10 rfl, rfl⟩
theorem eL_gain_15 : z_co mL_gain 15 (0) 16 := Or.inl ⟨z_D DL_gain_ok 11 rfl, rfl⟩
theorem eL_gain_16 : z_at mL_gain 16 (.ireturn) 1 17 := ⟨z_D DL_gain_ok 12 rfl, rfl⟩
def DL_form : List (Nat × Instr × Nat) := [(0, .aload 4, 2), (2, .iconst 0, 1), (3, .aload_n 0, 1), (4, .iload_n 1, 1), (5, .iload_n 2, 1), (6, .iload_n 3, 1), (7, .invokevirtual 108, 3), (10, .i2l, 1), (11, .lastore, 1), (12, .goto 11, 3), (15, .astore 5, 2), (17, .iconst 1, 1), (18, .ireturn, 1), (19, .astore 5, 2), (21, .iconst 2, 1), (22, .ireturn, 1), (23, .iconst 0, 1), (24, .ireturn, 1)]
theorem DL_form_ok : DL_form.all (fun q => decide (decode mL_form.2.1 q.1 = .ok q.2)) = true := by decide +kernel
theorem eL_form_0 : z_ad mL_form 0 4 2 := Or.inr ⟨z_D DL_form_ok 0 rfl, rfl⟩
theorem eL_form_2 : z_co mL_form 2 (0) 3 := Or.inl ⟨z_D DL_form_ok 1 rfl, rfl⟩
theorem eL_form_3 : z_ad mL_form 3 0 4 := Or.inl ⟨0, z_D DL_form_ok 2 rfl, rfl, rfl⟩
theorem eL_form_4 : z_ld mL_form 4 1 5 := Or.inl ⟨1, z_D DL_form_ok 3 rfl, rfl, rfl⟩
theorem eL_form_5 : z_ld mL_form 5 2 6 := Or.inl ⟨2, z_D DL_form_ok 4 rfl, rfl, rfl⟩
theorem eL_form_6 : z_ld mL_form 6 3 7 := Or.inl ⟨3, z_D DL_form_ok 5 rfl, rfl, rfl⟩
theorem eL_form_7 : z_at mL_form 7 (.invokevirtual 108) 3 10 ∧ z_lk mL_form.1.cls 108 mX7_form.1 ∧ z_mt mX7_form 3 ∧ z_mv mX7_form 7 := ⟨⟨z_D DL_form_ok 6 rfl, rfl⟩, Or.inl w6_75, tX7_form, vX7_form⟩
theorem eL_form_10 : z_at mL_form 10 (.i2l) 1 11 := ⟨z_D DL_form_ok 7 rfl, rfl⟩
theorem eL_form_11 : z_at mL_form 11 (.lastore) 1 12 := ⟨z_D DL_form_ok 8 rfl, rfl⟩
theorem eL_form_12 : z_br mL_form 12 (.goto 11) (11) 15 23 := ⟨z_D DL_form_ok 9 rfl, rfl, by decide⟩
theorem eL_form_15 : z_asd mL_form 15 5 17 := ⟨Or.inr ⟨z_D DL_form_ok 10 rfl, rfl⟩, by decide⟩
theorem eL_form_17 : z_co mL_form 17 (1) 18 := Or.inl ⟨z_D DL_form_ok 11 rfl, rfl⟩
theorem eL_form_18 : z_at mL_form 18 (.ireturn) 1 19 := ⟨z_D DL_form_ok 12 rfl, rfl⟩
theorem eL_form_19 : z_asd mL_form 19 5 21 := ⟨Or.inr ⟨z_D DL_form_ok 13 rfl, rfl⟩, by decide⟩
theorem eL_form_21 : z_co mL_form 21 (2) 22 := Or.inl ⟨z_D DL_form_ok 14 rfl, rfl⟩
theorem eL_form_22 : z_at mL_form 22 (.ireturn) 1 23 := ⟨z_D DL_form_ok 15 rfl, rfl⟩
theorem eL_form_23 : z_co mL_form 23 (0) 24 := Or.inl ⟨z_D DL_form_ok 16 rfl, rfl⟩
theorem eL_form_24 : z_at mL_form 24 (.ireturn) 1 25 := ⟨z_D DL_form_ok 17 rfl, rfl⟩
def DL_inForm : List (Nat × Instr × Nat) := [(0, .aload_n 3, 1), (1, .iconst 0, 1), (2, .aload_n 0, 1), (3, .iload_n 1, 1), (4, .iload_n 2, 1), (5, .invokevirtual 111, 3), (8, .i2l, 1), (9, .lastore, 1), (10, .goto 11, 3), (13, .astore 4, 2), (15, .iconst 1, 1), (16, .ireturn, 1), (17, .astore 4, 2), (19, .iconst 2, 1), (20, .ireturn, 1), (21, .iconst 0, 1), (22, .ireturn, 1)]
theorem DL_inForm_ok : DL_inForm.all (fun q => decide (decode mL_inForm.2.1 q.1 = .ok q.2)) = true := by decide +kernel
theorem eL_inForm_0 : z_ad mL_inForm 0 3 1 := Or.inl ⟨3, z_D DL_inForm_ok 0 rfl, rfl, rfl⟩
theorem eL_inForm_1 : z_co mL_inForm 1 (0) 2 := Or.inl ⟨z_D DL_inForm_ok 1 rfl, rfl⟩
theorem eL_inForm_2 : z_ad mL_inForm 2 0 3 := Or.inl ⟨0, z_D DL_inForm_ok 2 rfl, rfl, rfl⟩
theorem eL_inForm_3 : z_ld mL_inForm 3 1 4 := Or.inl ⟨1, z_D DL_inForm_ok 3 rfl, rfl, rfl⟩
theorem eL_inForm_4 : z_ld mL_inForm 4 2 5 := Or.inl ⟨2, z_D DL_inForm_ok 4 rfl, rfl, rfl⟩
theorem eL_inForm_5 : z_at mL_inForm 5 (.invokevirtual 111) 3 8 ∧ z_lk mL_inForm.1.cls 111 mX7_inForm.1 ∧ z_mt mX7_inForm 2 ∧ z_mv mX7_inForm 7 := ⟨⟨z_D DL_inForm_ok 5 rfl, rfl⟩, Or.inl w6_95, tX7_inForm, vX7_inForm⟩
theorem eL_inForm_8 : z_at mL_inForm 8 (.i2l) 1 9 := ⟨z_D DL_inForm_ok 6 rfl, rfl⟩
theorem eL_inForm_9 : z_at mL_inForm 9 (.lastore) 1 10 := ⟨z_D DL_inForm_ok 7 rfl, rfl⟩
theorem eL_inForm_10 : z_br mL_inForm 10 (.goto 11) (11) 13 21 := ⟨z_D DL_inForm_ok 8 rfl, rfl, by decide⟩
theorem eL_inForm_13 : z_asd mL_inForm 13 4 15 := ⟨Or.inr ⟨z_D DL_inForm_ok 9 rfl, rfl⟩, by decide⟩
theorem eL_inForm_15 : z_co mL_inForm 15 (1) 16 := Or.inl ⟨z_D DL_inForm_ok 10 rfl, rfl⟩
theorem eL_inForm_16 : z_at mL_inForm 16 (.ireturn) 1 17 := ⟨z_D DL_inForm_ok 11 rfl, rfl⟩
theorem eL_inForm_17 : z_asd mL_inForm 17 4 19 := ⟨Or.inr ⟨z_D DL_inForm_ok 12 rfl, rfl⟩, by decide⟩
theorem eL_inForm_19 : z_co mL_inForm 19 (2) 20 := Or.inl ⟨z_D DL_inForm_ok 13 rfl, rfl⟩
theorem eL_inForm_20 : z_at mL_inForm 20 (.ireturn) 1 21 := ⟨z_D DL_inForm_ok 14 rfl, rfl⟩
theorem eL_inForm_21 : z_co mL_inForm 21 (0) 22 := Or.inl ⟨z_D DL_inForm_ok 15 rfl, rfl⟩
theorem eL_inForm_22 : z_at mL_inForm 22 (.ireturn) 1 23 := ⟨z_D DL_inForm_ok 16 rfl, rfl⟩
def DL_placeThen : List (Nat × Instr × Nat) := [(0, .aload_n 3, 1), (1, .iconst 0, 1), (2, .aload_n 0, 1), (3, .iload_n 1, 1), (4, .iload_n 2, 1), (5, .invokevirtual 114, 3), (8, .i2l, 1), (9, .lastore, 1), (10, .goto 11, 3), (13, .astore 4, 2), (15, .iconst 1, 1), (16, .ireturn, 1), (17, .astore 4, 2), (19, .iconst 2, 1), (20, .ireturn, 1), (21, .iconst 0, 1), (22, .ireturn, 1)]
theorem DL_placeThen_ok : DL_placeThen.all (fun q => decide (decode mL_placeThen.2.1 q.1 = .ok q.2)) = true := by decide +kernel
theorem eL_placeThen_0 : z_ad mL_placeThen 0 3 1 := Or.inl ⟨3, z_D DL_placeThen_ok 0 rfl, rfl, rfl⟩
theorem eL_placeThen_1 : z_co mL_placeThen 1 (0) 2 := Or.inl ⟨z_D DL_placeThen_ok 1 rfl, rfl⟩
theorem eL_placeThen_2 : z_ad mL_placeThen 2 0 3 := Or.inl ⟨0, z_D DL_placeThen_ok 2 rfl, rfl, rfl⟩
theorem eL_placeThen_3 : z_ld mL_placeThen 3 1 4 := Or.inl ⟨1, z_D DL_placeThen_ok 3 rfl, rfl, rfl⟩
theorem eL_placeThen_4 : z_ld mL_placeThen 4 2 5 := Or.inl ⟨2, z_D DL_placeThen_ok 4 rfl, rfl, rfl⟩
theorem eL_placeThen_5 : z_at mL_placeThen 5 (.invokevirtual 114) 3 8 ∧ z_lk mL_placeThen.1.cls 114 mX7_placeThen.1 ∧ z_mt mX7_placeThen 2 ∧ z_mv mX7_placeThen 7 := ⟨⟨z_D DL_placeThen_ok 5 rfl, rfl⟩, Or.inl w6_102, tX7_placeThen, vX7_placeThen⟩
theorem eL_placeThen_8 : z_at mL_placeThen 8 (.i2l) 1 9 := ⟨z_D DL_placeThen_ok 6 rfl, rfl⟩
theorem eL_placeThen_9 : z_at mL_placeThen 9 (.lastore) 1 10 := ⟨z_D DL_placeThen_ok 7 rfl, rfl⟩
theorem eL_placeThen_10 : z_br mL_placeThen 10 (.goto 11) (11) 13 21 := ⟨z_D DL_placeThen_ok 8 rfl, rfl, by decide⟩
theorem eL_placeThen_13 : z_asd mL_placeThen 13 4 15 := ⟨Or.inr ⟨z_D DL_placeThen_ok 9 rfl, rfl⟩, by decide⟩
theorem eL_placeThen_15 : z_co mL_placeThen 15 (1) 16 := Or.inl ⟨z_D DL_placeThen_ok 10 rfl, rfl⟩
theorem eL_placeThen_16 : z_at mL_placeThen 16 (.ireturn) 1 17 := ⟨z_D DL_placeThen_ok 11 rfl, rfl⟩
theorem eL_placeThen_17 : z_asd mL_placeThen 17 4 19 := ⟨Or.inr ⟨z_D DL_placeThen_ok 12 rfl, rfl⟩, by decide⟩
theorem eL_placeThen_19 : z_co mL_placeThen 19 (2) 20 := Or.inl ⟨z_D DL_placeThen_ok 13 rfl, rfl⟩
theorem eL_placeThen_20 : z_at mL_placeThen 20 (.ireturn) 1 21 := ⟨z_D DL_placeThen_ok 14 rfl, rfl⟩
theorem eL_placeThen_21 : z_co mL_placeThen 21 (0) 22 := Or.inl ⟨z_D DL_placeThen_ok 15 rfl, rfl⟩
theorem eL_placeThen_22 : z_at mL_placeThen 22 (.ireturn) 1 23 := ⟨z_D DL_placeThen_ok 16 rfl, rfl⟩
def DL_climb : List (Nat × Instr × Nat) := [(0, .aload_n 2, 1), (1, .iconst 0, 1), (2, .aload_n 0, 1), (3, .iload_n 1, 1), (4, .invokevirtual 117, 3), (7, .i2l, 1), (8, .lastore, 1), (9, .goto 6, 3), (12, .astore_n 3, 1), (13, .iconst 1, 1), (14, .ireturn, 1), (15, .iconst 0, 1), (16, .ireturn, 1)]
theorem DL_climb_ok : DL_climb.all (fun q => decide (decode mL_climb.2.1 q.1 = .ok q.2)) = true := by decide +kernel
theorem eL_climb_0 : z_ad mL_climb 0 2 1 := Or.inl ⟨2, z_D DL_climb_ok 0 rfl, rfl, rfl⟩
theorem eL_climb_1 : z_co mL_climb 1 (0) 2 := Or.inl ⟨z_D DL_climb_ok 1 rfl, rfl⟩
theorem eL_climb_2 : z_ad mL_climb 2 0 3 := Or.inl ⟨0, z_D DL_climb_ok 2 rfl, rfl, rfl⟩
theorem eL_climb_3 : z_ld mL_climb 3 1 4 := Or.inl ⟨1, z_D DL_climb_ok 3 rfl, rfl, rfl⟩
theorem eL_climb_4 : z_at mL_climb 4 (.invokevirtual 117) 3 7 ∧ z_lk mL_climb.1.cls 117 mX7_climb.1 ∧ z_mt mX7_climb 1 ∧ z_mv mX7_climb 7 := ⟨⟨z_D DL_climb_ok 4 rfl, rfl⟩, Or.inl w6_119, tX7_climb, vX7_climb⟩
theorem eL_climb_7 : z_at mL_climb 7 (.i2l) 1 8 := ⟨z_D DL_climb_ok 5 rfl, rfl⟩
theorem eL_climb_8 : z_at mL_climb 8 (.lastore) 1 9 := ⟨z_D DL_climb_ok 6 rfl, rfl⟩
theorem eL_climb_9 : z_br mL_climb 9 (.goto 6) (6) 12 15 := ⟨z_D DL_climb_ok 7 rfl, rfl, by decide⟩
theorem eL_climb_12 : z_asd mL_climb 12 3 13 := ⟨Or.inl ⟨3, z_D DL_climb_ok 8 rfl, rfl, rfl⟩, by decide⟩
theorem eL_climb_13 : z_co mL_climb 13 (1) 14 := Or.inl ⟨z_D DL_climb_ok 9 rfl, rfl⟩
theorem eL_climb_14 : z_at mL_climb 14 (.ireturn) 1 15 := ⟨z_D DL_climb_ok 10 rfl, rfl⟩
theorem eL_climb_15 : z_co mL_climb 15 (0) 16 := Or.inl ⟨z_D DL_climb_ok 11 rfl, rfl⟩
theorem eL_climb_16 : z_at mL_climb 16 (.ireturn) 1 17 := ⟨z_D DL_climb_ok 12 rfl, rfl⟩
def DL_best : List (Nat × Instr × Nat) := [(0, .aload_n 2, 1), (1, .iconst 0, 1), (2, .aload_n 0, 1), (3, .iload_n 1, 1), (4, .invokevirtual 120, 3), (7, .i2l, 1), (8, .lastore, 1), (9, .goto 6, 3), (12, .astore_n 3, 1), (13, .iconst 1, 1), (14, .ireturn, 1), (15, .iconst 0, 1), (16, .ireturn, 1)]
theorem DL_best_ok : DL_best.all (fun q => decide (decode mL_best.2.1 q.1 = .ok q.2)) = true := by decide +kernel
theorem eL_best_0 : z_ad mL_best 0 2 1 := Or.inl ⟨2, z_D DL_best_ok 0 rfl, rfl, rfl⟩
theorem eL_best_1 : z_co mL_best 1 (0) 2 := Or.inl ⟨z_D DL_best_ok 1 rfl, rfl⟩
theorem eL_best_2 : z_ad mL_best 2 0 3 := Or.inl ⟨0, z_D DL_best_ok 2 rfl, rfl, rfl⟩
theorem eL_best_3 : z_ld mL_best 3 1 4 := Or.inl ⟨1, z_D DL_best_ok 3 rfl, rfl, rfl⟩
theorem eL_best_4 : z_at mL_best 4 (.invokevirtual 120) 3 7 ∧ z_lk mL_best.1.cls 120 mX7_best.1 ∧ z_mt mX7_best 1 ∧ z_mv mX7_best 7 := ⟨⟨z_D DL_best_ok 4 rfl, rfl⟩, Or.inl w6_126, tX7_best, vX7_best⟩
theorem eL_best_7 : z_at mL_best 7 (.i2l) 1 8 := ⟨z_D DL_best_ok 5 rfl, rfl⟩
theorem eL_best_8 : z_at mL_best 8 (.lastore) 1 9 := ⟨z_D DL_best_ok 6 rfl, rfl⟩
theorem eL_best_9 : z_br mL_best 9 (.goto 6) (6) 12 15 := ⟨z_D DL_best_ok 7 rfl, rfl, by decide⟩
theorem eL_best_12 : z_asd mL_best 12 3 13 := ⟨Or.inl ⟨3, z_D DL_best_ok 8 rfl, rfl, rfl⟩, by decide⟩
theorem eL_best_13 : z_co mL_best 13 (1) 14 := Or.inl ⟨z_D DL_best_ok 9 rfl, rfl⟩
theorem eL_best_14 : z_at mL_best 14 (.ireturn) 1 15 := ⟨z_D DL_best_ok 10 rfl, rfl⟩
theorem eL_best_15 : z_co mL_best 15 (0) 16 := Or.inl ⟨z_D DL_best_ok 11 rfl, rfl⟩
theorem eL_best_16 : z_at mL_best 16 (.ireturn) 1 17 := ⟨z_D DL_best_ok 12 rfl, rfl⟩
def DL_members : List (Nat × Instr × Nat) := [(0, .aload_n 2, 1), (1, .iconst 0, 1), (2, .aload_n 0, 1), (3, .iload_n 1, 1), (4, .invokevirtual 123, 3), (7, .i2l, 1), (8, .lastore, 1), (9, .goto 6, 3), (12, .astore_n 3, 1), (13, .iconst 1, 1), (14, .ireturn, 1), (15, .iconst 0, 1), (16, .ireturn, 1)]
theorem DL_members_ok : DL_members.all (fun q => decide (decode mL_members.2.1 q.1 = .ok q.2)) = true := by decide +kernel
theorem eL_members_0 : z_ad mL_members 0 2 1 := Or.inl ⟨2, z_D DL_members_ok 0 rfl, rfl, rfl⟩
theorem eL_members_1 : z_co mL_members 1 (0) 2 := Or.inl ⟨z_D DL_members_ok 1 rfl, rfl⟩
theorem eL_members_2 : z_ad mL_members 2 0 3 := Or.inl ⟨0, z_D DL_members_ok 2 rfl, rfl, rfl⟩
theorem eL_members_3 : z_ld mL_members 3 1 4 := Or.inl ⟨1, z_D DL_members_ok 3 rfl, rfl, rfl⟩
theorem eL_members_4 : z_at mL_members 4 (.invokevirtual 123) 3 7 ∧ z_lk mL_members.1.cls 123 mX7_members.1 ∧ z_mt mX7_members 1 ∧ z_mv mX7_members 7 := ⟨⟨z_D DL_members_ok 4 rfl, rfl⟩, Or.inl w6_137, tX7_members, vX7_members⟩
theorem eL_members_7 : z_at mL_members 7 (.i2l) 1 8 := ⟨z_D DL_members_ok 5 rfl, rfl⟩
theorem eL_members_8 : z_at mL_members 8 (.lastore) 1 9 := ⟨z_D DL_members_ok 6 rfl, rfl⟩
theorem eL_members_9 : z_br mL_members 9 (.goto 6) (6) 12 15 := ⟨z_D DL_members_ok 7 rfl, rfl, by decide⟩
theorem eL_members_12 : z_asd mL_members 12 3 13 := ⟨Or.inl ⟨3, z_D DL_members_ok 8 rfl, rfl, rfl⟩, by decide⟩
theorem eL_members_13 : z_co mL_members 13 (1) 14 := Or.inl ⟨z_D DL_members_ok 9 rfl, rfl⟩
theorem eL_members_14 : z_at mL_members 14 (.ireturn) 1 15 := ⟨z_D DL_members_ok 10 rfl, rfl⟩
theorem eL_members_15 : z_co mL_members 15 (0) 16 := Or.inl ⟨z_D DL_members_ok 11 rfl, rfl⟩
theorem eL_members_16 : z_at mL_members 16 (.ireturn) 1 17 := ⟨z_D DL_members_ok 12 rfl, rfl⟩
def DL_teamScore : List (Nat × Instr × Nat) := [(0, .aload_n 2, 1), (1, .iconst 0, 1), (2, .aload_n 0, 1), (3, .iload_n 1, 1), (4, .invokevirtual 126, 3), (7, .i2l, 1), (8, .lastore, 1), (9, .goto 6, 3), (12, .astore_n 3, 1), (13, .iconst 1, 1), (14, .ireturn, 1), (15, .iconst 0, 1), (16, .ireturn, 1)]
theorem DL_teamScore_ok : DL_teamScore.all (fun q => decide (decode mL_teamScore.2.1 q.1 = .ok q.2)) = true := by decide +kernel
theorem eL_teamScore_0 : z_ad mL_teamScore 0 2 1 := Or.inl ⟨2, z_D DL_teamScore_ok 0 rfl, rfl, rfl⟩
theorem eL_teamScore_1 : z_co mL_teamScore 1 (0) 2 := Or.inl ⟨z_D DL_teamScore_ok 1 rfl, rfl⟩
theorem eL_teamScore_2 : z_ad mL_teamScore 2 0 3 := Or.inl ⟨0, z_D DL_teamScore_ok 2 rfl, rfl, rfl⟩
theorem eL_teamScore_3 : z_ld mL_teamScore 3 1 4 := Or.inl ⟨1, z_D DL_teamScore_ok 3 rfl, rfl, rfl⟩
theorem eL_teamScore_4 : z_at mL_teamScore 4 (.invokevirtual 126) 3 7 ∧ z_lk mL_teamScore.1.cls 126 mX7_teamScore.1 ∧ z_mt mX7_teamScore 1 ∧ z_mv mX7_teamScore 7 := ⟨⟨z_D DL_teamScore_ok 4 rfl, rfl⟩, Or.inl w6_148, tX7_teamScore, vX7_teamScore⟩
theorem eL_teamScore_7 : z_at mL_teamScore 7 (.i2l) 1 8 := ⟨z_D DL_teamScore_ok 5 rfl, rfl⟩
theorem eL_teamScore_8 : z_at mL_teamScore 8 (.lastore) 1 9 := ⟨z_D DL_teamScore_ok 6 rfl, rfl⟩
theorem eL_teamScore_9 : z_br mL_teamScore 9 (.goto 6) (6) 12 15 := ⟨z_D DL_teamScore_ok 7 rfl, rfl, by decide⟩
theorem eL_teamScore_12 : z_asd mL_teamScore 12 3 13 := ⟨Or.inl ⟨3, z_D DL_teamScore_ok 8 rfl, rfl, rfl⟩, by decide⟩
theorem eL_teamScore_13 : z_co mL_teamScore 13 (1) 14 := Or.inl ⟨z_D DL_teamScore_ok 9 rfl, rfl⟩
theorem eL_teamScore_14 : z_at mL_teamScore 14 (.ireturn) 1 15 := ⟨z_D DL_teamScore_ok 10 rfl, rfl⟩
theorem eL_teamScore_15 : z_co mL_teamScore 15 (0) 16 := Or.inl ⟨z_D DL_teamScore_ok 11 rfl, rfl⟩
theorem eL_teamScore_16 : z_at mL_teamScore 16 (.ireturn) 1 17 := ⟨z_D DL_teamScore_ok 12 rfl, rfl⟩
def DL_groupAt : List (Nat × Instr × Nat) := [(0, .aload_n 2, 1), (1, .iconst 0, 1), (2, .aload_n 0, 1), (3, .iload_n 1, 1), (4, .invokevirtual 129, 3), (7, .i2l, 1), (8, .lastore, 1), (9, .goto 6, 3), (12, .astore_n 3, 1), (13, .iconst 1, 1), (14, .ireturn, 1), (15, .iconst 0, 1), (16, .ireturn, 1)]
theorem DL_groupAt_ok : DL_groupAt.all (fun q => decide (decode mL_groupAt.2.1 q.1 = .ok q.2)) = true := by decide +kernel
theorem eL_groupAt_0 : z_ad mL_groupAt 0 2 1 := Or.inl ⟨2, z_D DL_groupAt_ok 0 rfl, rfl, rfl⟩
theorem eL_groupAt_1 : z_co mL_groupAt 1 (0) 2 := Or.inl ⟨z_D DL_groupAt_ok 1 rfl, rfl⟩
theorem eL_groupAt_2 : z_ad mL_groupAt 2 0 3 := Or.inl ⟨0, z_D DL_groupAt_ok 2 rfl, rfl, rfl⟩
theorem eL_groupAt_3 : z_ld mL_groupAt 3 1 4 := Or.inl ⟨1, z_D DL_groupAt_ok 3 rfl, rfl, rfl⟩
theorem eL_groupAt_4 : z_at mL_groupAt 4 (.invokevirtual 129) 3 7 ∧ z_lk mL_groupAt.1.cls 129 mX7_groupAt.1 ∧ z_mt mX7_groupAt 1 ∧ z_mv mX7_groupAt 7 := ⟨⟨z_D DL_groupAt_ok 4 rfl, rfl⟩, Or.inl w6_159, tX7_groupAt, vX7_groupAt⟩
theorem eL_groupAt_7 : z_at mL_groupAt 7 (.i2l) 1 8 := ⟨z_D DL_groupAt_ok 5 rfl, rfl⟩
theorem eL_groupAt_8 : z_at mL_groupAt 8 (.lastore) 1 9 := ⟨z_D DL_groupAt_ok 6 rfl, rfl⟩
theorem eL_groupAt_9 : z_br mL_groupAt 9 (.goto 6) (6) 12 15 := ⟨z_D DL_groupAt_ok 7 rfl, rfl, by decide⟩
theorem eL_groupAt_12 : z_asd mL_groupAt 12 3 13 := ⟨Or.inl ⟨3, z_D DL_groupAt_ok 8 rfl, rfl, rfl⟩, by decide⟩
theorem eL_groupAt_13 : z_co mL_groupAt 13 (1) 14 := Or.inl ⟨z_D DL_groupAt_ok 9 rfl, rfl⟩
theorem eL_groupAt_14 : z_at mL_groupAt 14 (.ireturn) 1 15 := ⟨z_D DL_groupAt_ok 10 rfl, rfl⟩
theorem eL_groupAt_15 : z_co mL_groupAt 15 (0) 16 := Or.inl ⟨z_D DL_groupAt_ok 11 rfl, rfl⟩
theorem eL_groupAt_16 : z_at mL_groupAt 16 (.ireturn) 1 17 := ⟨z_D DL_groupAt_ok 12 rfl, rfl⟩
def DL_inversions : List (Nat × Instr × Nat) := [(0, .aload_n 3, 1), (1, .iconst 0, 1), (2, .aload_n 0, 1), (3, .iload_n 1, 1), (4, .iload_n 2, 1), (5, .invokevirtual 132, 3), (8, .i2l, 1), (9, .lastore, 1), (10, .goto 7, 3), (13, .astore 4, 2), (15, .iconst 1, 1), (16, .ireturn, 1), (17, .iconst 0, 1), (18, .ireturn, 1)]
theorem DL_inversions_ok : DL_inversions.all (fun q => decide (decode mL_inversions.2.1 q.1 = .ok q.2)) = true := by decide +kernel
theorem eL_inversions_0 : z_ad mL_inversions 0 3 1 := Or.inl ⟨3, z_D DL_inversions_ok 0 rfl, rfl, rfl⟩
theorem eL_inversions_1 : z_co mL_inversions 1 (0) 2 := Or.inl ⟨z_D DL_inversions_ok 1 rfl, rfl⟩
theorem eL_inversions_2 : z_ad mL_inversions 2 0 3 := Or.inl ⟨0, z_D DL_inversions_ok 2 rfl, rfl, rfl⟩
theorem eL_inversions_3 : z_ld mL_inversions 3 1 4 := Or.inl ⟨1, z_D DL_inversions_ok 3 rfl, rfl, rfl⟩
theorem eL_inversions_4 : z_ld mL_inversions 4 2 5 := Or.inl ⟨2, z_D DL_inversions_ok 4 rfl, rfl, rfl⟩
theorem eL_inversions_5 : z_at mL_inversions 5 (.invokevirtual 132) 3 8 ∧ z_lk mL_inversions.1.cls 132 mX7_inversions.1 ∧ z_mt mX7_inversions 2 ∧ z_mv mX7_inversions 7 := ⟨⟨z_D DL_inversions_ok 5 rfl, rfl⟩, Or.inl w6_174, tX7_inversions, vX7_inversions⟩
theorem eL_inversions_8 : z_at mL_inversions 8 (.i2l) 1 9 := ⟨z_D DL_inversions_ok 6 rfl, rfl⟩
theorem eL_inversions_9 : z_at mL_inversions 9 (.lastore) 1 10 := ⟨z_D DL_inversions_ok 7 rfl, rfl⟩
theorem eL_inversions_10 : z_br mL_inversions 10 (.goto 7) (7) 13 17 := ⟨z_D DL_inversions_ok 8 rfl, rfl, by decide⟩
theorem eL_inversions_13 : z_asd mL_inversions 13 4 15 := ⟨Or.inr ⟨z_D DL_inversions_ok 9 rfl, rfl⟩, by decide⟩
theorem eL_inversions_15 : z_co mL_inversions 15 (1) 16 := Or.inl ⟨z_D DL_inversions_ok 10 rfl, rfl⟩
theorem eL_inversions_16 : z_at mL_inversions 16 (.ireturn) 1 17 := ⟨z_D DL_inversions_ok 11 rfl, rfl⟩
theorem eL_inversions_17 : z_co mL_inversions 17 (0) 18 := Or.inl ⟨z_D DL_inversions_ok 12 rfl, rfl⟩
theorem eL_inversions_18 : z_at mL_inversions 18 (.ireturn) 1 19 := ⟨z_D DL_inversions_ok 13 rfl, rfl⟩
def DL_swaps : List (Nat × Instr × Nat) := [(0, .aload_n 3, 1), (1, .iconst 0, 1), (2, .aload_n 0, 1), (3, .iload_n 1, 1), (4, .iload_n 2, 1), (5, .invokevirtual 135, 3), (8, .i2l, 1), (9, .lastore, 1), (10, .goto 7, 3), (13, .astore 4, 2), (15, .iconst 1, 1), (16, .ireturn, 1), (17, .iconst 0, 1), (18, .ireturn, 1)]
theorem DL_swaps_ok : DL_swaps.all (fun q => decide (decode mL_swaps.2.1 q.1 = .ok q.2)) = true := by decide +kernel
theorem eL_swaps_0 : z_ad mL_swaps 0 3 1 := Or.inl ⟨3, z_D DL_swaps_ok 0 rfl, rfl, rfl⟩
theorem eL_swaps_1 : z_co mL_swaps 1 (0) 2 := Or.inl ⟨z_D DL_swaps_ok 1 rfl, rfl⟩
theorem eL_swaps_2 : z_ad mL_swaps 2 0 3 := Or.inl ⟨0, z_D DL_swaps_ok 2 rfl, rfl, rfl⟩
theorem eL_swaps_3 : z_ld mL_swaps 3 1 4 := Or.inl ⟨1, z_D DL_swaps_ok 3 rfl, rfl, rfl⟩
theorem eL_swaps_4 : z_ld mL_swaps 4 2 5 := Or.inl ⟨2, z_D DL_swaps_ok 4 rfl, rfl, rfl⟩
theorem eL_swaps_5 : z_at mL_swaps 5 (.invokevirtual 135) 3 8 ∧ z_lk mL_swaps.1.cls 135 mX7_swaps.1 ∧ z_mt mX7_swaps 2 ∧ z_mv mX7_swaps 7 := ⟨⟨z_D DL_swaps_ok 5 rfl, rfl⟩, Or.inl w6_194, tX7_swaps, vX7_swaps⟩
theorem eL_swaps_8 : z_at mL_swaps 8 (.i2l) 1 9 := ⟨z_D DL_swaps_ok 6 rfl, rfl⟩
theorem eL_swaps_9 : z_at mL_swaps 9 (.lastore) 1 10 := ⟨z_D DL_swaps_ok 7 rfl, rfl⟩
theorem eL_swaps_10 : z_br mL_swaps 10 (.goto 7) (7) 13 17 := ⟨z_D DL_swaps_ok 8 rfl, rfl, by decide⟩
theorem eL_swaps_13 : z_asd mL_swaps 13 4 15 := ⟨Or.inr ⟨z_D DL_swaps_ok 9 rfl, rfl⟩, by decide⟩
theorem eL_swaps_15 : z_co mL_swaps 15 (1) 16 := Or.inl ⟨z_D DL_swaps_ok 10 rfl, rfl⟩
theorem eL_swaps_16 : z_at mL_swaps 16 (.ireturn) 1 17 := ⟨z_D DL_swaps_ok 11 rfl, rfl⟩
theorem eL_swaps_17 : z_co mL_swaps 17 (0) 18 := Or.inl ⟨z_D DL_swaps_ok 12 rfl, rfl⟩
theorem eL_swaps_18 : z_at mL_swaps 18 (.ireturn) 1 19 := ⟨z_D DL_swaps_ok 13 rfl, rfl⟩
def DL_beats : List (Nat × Instr × Nat) := [(0, .aload_n 2, 1), (1, .iconst 0, 1), (2, .aload_n 0, 1), (3, .iload_n 1, 1), (4, .invokevirtual 138, 3), (7, .f2d, 1), (8, .dastore, 1), (9, .goto 6, 3), (12, .astore_n 3, 1), (13, .iconst 1, 1), (14, .ireturn, 1), (15, .iconst 0, 1), (16, .ireturn, 1)]
theorem DL_beats_ok : DL_beats.all (fun q => decide (decode mL_beats.2.1 q.1 = .ok q.2)) = true := by decide +kernel
theorem eL_beats_0 : z_ad mL_beats 0 2 1 := Or.inl ⟨2, z_D DL_beats_ok 0 rfl, rfl, rfl⟩
theorem eL_beats_1 : z_co mL_beats 1 (0) 2 := Or.inl ⟨z_D DL_beats_ok 1 rfl, rfl⟩
theorem eL_beats_2 : z_ad mL_beats 2 0 3 := Or.inl ⟨0, z_D DL_beats_ok 2 rfl, rfl, rfl⟩
theorem eL_beats_3 : z_ld mL_beats 3 1 4 := Or.inl ⟨1, z_D DL_beats_ok 3 rfl, rfl, rfl⟩
theorem eL_beats_4 : z_at mL_beats 4 (.invokevirtual 138) 3 7 ∧ z_lk mL_beats.1.cls 138 mX7_beats.1 ∧ z_mt mX7_beats 1 ∧ z_mv mX7_beats 7 := ⟨⟨z_D DL_beats_ok 4 rfl, rfl⟩, Or.inl w6_205, tX7_beats, vX7_beats⟩
theorem eL_beats_7 : z_at mL_beats 7 (.f2d) 1 8 := ⟨z_D DL_beats_ok 5 rfl, rfl⟩
theorem eL_beats_8 : z_at mL_beats 8 (.dastore) 1 9 := ⟨z_D DL_beats_ok 6 rfl, rfl⟩
theorem eL_beats_9 : z_br mL_beats 9 (.goto 6) (6) 12 15 := ⟨z_D DL_beats_ok 7 rfl, rfl, by decide⟩
theorem eL_beats_12 : z_asd mL_beats 12 3 13 := ⟨Or.inl ⟨3, z_D DL_beats_ok 8 rfl, rfl, rfl⟩, by decide⟩
theorem eL_beats_13 : z_co mL_beats 13 (1) 14 := Or.inl ⟨z_D DL_beats_ok 9 rfl, rfl⟩
theorem eL_beats_14 : z_at mL_beats 14 (.ireturn) 1 15 := ⟨z_D DL_beats_ok 10 rfl, rfl⟩
theorem eL_beats_15 : z_co mL_beats 15 (0) 16 := Or.inl ⟨z_D DL_beats_ok 11 rfl, rfl⟩
theorem eL_beats_16 : z_at mL_beats 16 (.ireturn) 1 17 := ⟨z_D DL_beats_ok 12 rfl, rfl⟩
def DL_law : List (Nat × Instr × Nat) := [(0, .new 8, 3), (3, .dup, 1), (4, .invokespecial 142, 3), (7, .astore_n 1, 1), (8, .new 143, 3), (11, .dup, 1), (12, .invokespecial 145, 3), (15, .astore_n 2, 1), (16, .iconst 1, 1), (17, .newarray .long, 2), (19, .astore_n 3, 1), (20, .iconst 1, 1), (21, .newarray .double, 2), (23, .astore 4, 2), (25, .iconst 0, 1), (26, .istore 5, 2), (28, .iload 5, 2), (30, .aload_n 0, 1), (31, .arraylength, 1), (32, .bipush 6, 2), (34, .isub, 1), (35, .if_icmp .gt 2952, 3), (38, .aload_n 0, 1), (39, .iload 5, 2), (41, .iaload, 1), (42, .bipush 63, 2), (44, .iand, 1), (45, .tableswitch 2936 0 49 #[215, 319, 332, 376, 389, 457, 513, 569, 649, 729, 797, 853, 866, 922, 978, 1046, 1102, 1115, 1128, 1208, 1276, 1301, 1326, 1363, 1419, 1487, 1559, 1627, 1683, 1779, 1835, 1891, 1947, 2003, 2059, 2103, 2116, 2172, 2252, 2320, 2388, 2444, 2500, 2556, 2612, 2668, 2736, 2804, 2845, 2923], 215), (260, .aload_n 1, 1), (261, .aload_n 0, 1), (262, .iload 5, 2), (264, .iconst 1, 1), (265, .iadd, 1), (266, .iaload, 1), (267, .aload_n 0, 1), (268, .iload 5, 2), (270, .iconst 2, 1), (271, .iadd, 1), (272, .iaload, 1), (273, .aload_n 0, 1), (274, .iload 5, 2), (276, .iconst 3, 1), (277, .iadd, 1), (278, .iaload, 1), (279, .aload_n 0, 1), (280, .iload 5, 2), (282, .iconst 4, 1), (283, .iadd, 1), (284, .iaload, 1), (285, .aload_n 0, 1), (286, .iload 5, 2), (288, .iconst 5, 1), (289, .iadd, 1), (290, .iaload, 1), (291, .aload_n 3, 1), (292, .invokestatic 146, 3), (295, .istore 6, 2), (297, .aload_n 2, 1), (298, .aload_n 0, 1), (299, .iload 5, 2), (301, .iconst 1, 1), (302, .iadd, 1), (303, .iaload, 1), (304, .aload_n 0, 1), (305, .iload 5, 2), (307, .iconst 2, 1), (308, .iadd, 1), (309, .iaload, 1), (310, .aload_n 0, 1), (311, .iload 5, 2), (313, .iconst 3, 1), (314, .iadd, 1), (315, .iaload, 1), (316, .aload_n 0, 1), (317, .iload 5, 2), (319, .iconst 4, 1), (320, .iadd, 1), (321, .iaload, 1), (322, .aload_n 0, 1), (323, .iload 5, 2), (325, .iconst 5, 1), (326, .iadd, 1), (327, .iaload, 1), (328, .invokevirtual 151, 3), (331, .istore 7, 2), (333, .aload_n 2, 1), (334, .invokevirtual 152, 3), (337, .iload 6, 2), (339, .if_icmp .eq 5, 3), (342, .iconst 0, 1), (343, .ireturn, 1), (344, .iload 6, 2), (346, .ifCond .ne 15, 3), (349, .aload_n 3, 1), (350, .iconst 0, 1), (351, .laload, 1), (352, .iload 7, 2), (354, .i2l, 1), (355, .lcmp, 1), (356, .ifCond .eq 5, 3), (359, .iconst 0, 1), (360, .ireturn, 1), (361, .goto 2620, 3), (364, .aload_n 1, 1), (365, .invokevirtual 155, 3), (368, .aload_n 2, 1), (369, .invokevirtual 158, 3), (372, .if_icmp .eq 2609, 3), (375, .iconst 0, 1), (376, .ireturn, 1), (377, .aload_n 1, 1), (378, .aload_n 3, 1), (379, .invokestatic 159, 3), (382, .istore 6, 2), (384, .aload_n 2, 1), (385, .invokevirtual 162, 3), (388, .istore 7, 2), (390, .aload_n 2, 1), (391, .invokevirtual 152, 3), (394, .iload 6, 2), (396, .if_icmp .eq 5, 3), (399, .iconst 0, 1), (400, .ireturn, 1), (401, .iload 6, 2), (403, .ifCond .ne 15, 3), (406, .aload_n 3, 1), (407, .iconst 0, 1), (408, .laload, 1), (409, .iload 7, 2), (411, .i2l, 1), (412, .lcmp, 1), (413, .ifCond .eq 5, 3), (416, .iconst 0, 1), (417, .ireturn, 1), (418, .goto 2563, 3), (421, .aload_n 1, 1), (422, .invokevirtual 163, 3), (425, .aload_n 2, 1), (426, .invokevirtual 166, 3), (429, .if_icmp .eq 2552, 3), (432, .iconst 0, 1), (433, .ireturn, 1), (434, .aload_n 1, 1), (435, .aload_n 0, 1), (436, .iload 5, 2), (438, .iconst 1, 1), (439, .iadd, 1), (440, .iaload, 1), (441, .aload_n 0, 1), (442, .iload 5, 2), (444, .iconst 2, 1), (445, .iadd, 1), (446, .iaload, 1), (447, .aload_n 3, 1), (448, .invokestatic 167, 3), (451, .istore 6, 2), (453, .aload_n 2, 1), (454, .aload_n 0, 1), (455, .iload 5, 2), (457, .iconst 1, 1), (458, .iadd, 1), (459, .iaload, 1), (460, .aload_n 0, 1), (461, .iload 5, 2), (463, .iconst 2, 1), (464, .iadd, 1), (465, .iaload, 1), (466, .invokevirtual 170, 3), (469, .istore 7, 2), (471, .aload_n 2, 1), (472, .invokevirtual 152, 3), (475, .iload 6, 2), (477, .if_icmp .eq 5, 3), (480, .iconst 0, 1), (481, .ireturn, 1), (482, .iload 6, 2), (484, .ifCond .ne 15, 3), (487, .aload_n 3, 1), (488, .iconst 0, 1), (489, .laload, 1), (490, .iload 7, 2), (492, .i2l, 1), (493, .lcmp, 1), (494, .ifCond .eq 5, 3), (497, .iconst 0, 1), (498, .ireturn, 1), (499, .goto 2482, 3), (502, .aload_n 1, 1), (503, .aload_n 0, 1), (504, .iload 5, 2), (506, .iconst 1, 1), (507, .iadd, 1), (508, .iaload, 1), (509, .aload_n 3, 1), (510, .invokestatic 171, 3), (513, .istore 6, 2), (515, .aload_n 2, 1), (516, .aload_n 0, 1), (517, .iload 5, 2), (519, .iconst 1, 1), (520, .iadd, 1), (521, .iaload, 1), (522, .invokevirtual 174, 3), (525, .istore 7, 2), (527, .aload_n 2, 1), (528, .invokevirtual 152, 3), (531, .iload 6, 2), (533, .if_icmp .eq 5, 3), (536, .iconst 0, 1), (537, .ireturn, 1), (538, .iload 6, 2), (540, .ifCond .ne 15, 3), (543, .aload_n 3, 1), (544, .iconst 0, 1), (545, .laload, 1), (546, .iload 7, 2), (548, .i2l, 1), (549, .lcmp, 1), (550, .ifCond .eq 5, 3), (553, .iconst 0, 1), (554, .ireturn, 1), (555, .goto 2426, 3), (558, .aload_n 1, 1), (559, .aload_n 0, 1), (560, .iload 5, 2), (562, .iconst 1, 1), (563, .iadd, 1), (564, .iaload, 1), (565, .aload_n 3, 1), (566, .invokestatic 175, 3), (569, .istore 6, 2), (571, .aload_n 2, 1), (572, .aload_n 0, 1), (573, .iload 5, 2), (575, .iconst 1, 1), (576, .iadd, 1), (577, .iaload, 1), (578, .invokevirtual 177, 3), (581, .istore 7, 2), (583, .aload_n 2, 1), (584, .invokevirtual 152, 3), (587, .iload 6, 2), (589, .if_icmp .eq 5, 3), (592, .iconst 0, 1), (593, .ireturn, 1), (594, .iload 6, 2), (596, .ifCond .ne 15, 3), (599, .aload_n 3, 1), (600, .iconst 0, 1), (601, .laload, 1), (602, .iload 7, 2), (604, .i2l, 1), (605, .lcmp, 1), (606, .ifCond .eq 5, 3), (609, .iconst 0, 1), (610, .ireturn, 1), (611, .goto 2370, 3), (614, .aload_n 1, 1), (615, .aload_n 0, 1), (616, .iload 5, 2), (618, .iconst 1, 1), (619, .iadd, 1), (620, .iaload, 1), (621, .aload_n 0, 1), (622, .iload 5, 2), (624, .iconst 2, 1), (625, .iadd, 1), (626, .iaload, 1), (627, .aload_n 0, 1), (628, .iload 5, 2), (630, .iconst 3, 1), (631, .iadd, 1), (632, .iaload, 1), (633, .aload_n 3, 1), (634, .invokestatic 178, 3), (637, .istore 6, 2), (639, .aload_n 2, 1), (640, .aload_n 0, 1), (641, .iload 5, 2), (643, .iconst 1, 1), (644, .iadd, 1), (645, .iaload, 1), (646, .aload_n 0, 1), (647, .iload 5, 2), (649, .iconst 2, 1), (650, .iadd, 1), (651, .iaload, 1), (652, .aload_n 0, 1), (653, .iload 5, 2), (655, .iconst 3, 1), (656, .iadd, 1), (657, .iaload, 1), (658, .invokevirtual 181, 3), (661, .istore 7, 2), (663, .aload_n 2, 1), (664, .invokevirtual 152, 3), (667, .iload 6, 2), (669, .if_icmp .eq 5, 3), (672, .iconst 0, 1), (673, .ireturn, 1), (674, .iload 6, 2), (676, .ifCond .ne 15, 3), (679, .aload_n 3, 1), (680, .iconst 0, 1), (681, .laload, 1), (682, .iload 7, 2), (684, .i2l, 1), (685, .lcmp, 1), (686, .ifCond .eq 5, 3), (689, .iconst 0, 1), (690, .ireturn, 1), (691, .goto 2290, 3), (694, .aload_n 1, 1), (695, .aload_n 0, 1), (696, .iload 5, 2), (698, .iconst 1, 1), (699, .iadd, 1), (700, .iaload, 1), (701, .aload_n 0, 1), (702, .iload 5, 2), (704, .iconst 2, 1), (705, .iadd, 1), (706, .iaload, 1), (707, .aload_n 0, 1), (708, .iload 5, 2), (710, .iconst 3, 1), (711, .iadd, 1), (712, .iaload, 1), (713, .aload_n 3, 1), (714, .invokestatic 182, 3), (717, .istore 6, 2), (719, .aload_n 2, 1), (720, .aload_n 0, 1), (721, .iload 5, 2), (723, .iconst 1, 1), (724, .iadd, 1), (725, .iaload, 1), (726, .aload_n 0, 1), (727, .iload 5, 2), (729, .iconst 2, 1), (730, .iadd, 1), (731, .iaload, 1), (732, .aload_n 0, 1), (733, .iload 5, 2), (735, .iconst 3, 1), (736, .iadd, 1), (737, .iaload, 1), (738, .invokevirtual 184, 3), (741, .istore 7, 2), (743, .aload_n 2, 1), (744, .invokevirtual 152, 3), (747, .iload 6, 2), (749, .if_icmp .eq 5, 3), (752, .iconst 0, 1), (753, .ireturn, 1), (754, .iload 6, 2), (756, .ifCond .ne 15, 3), (759, .aload_n 3, 1), (760, .iconst 0, 1), (761, .laload, 1), (762, .iload 7, 2), (764, .i2l, 1), (765, .lcmp, 1), (766, .ifCond .eq 5, 3), (769, .iconst 0, 1), (770, .ireturn, 1), (771, .goto 2210, 3), (774, .aload_n 1, 1), (775, .aload_n 0, 1), (776, .iload 5, 2), (778, .iconst 1, 1), (779, .iadd, 1), (780, .iaload, 1), (781, .aload_n 0, 1), (782, .iload 5, 2), (784, .iconst 2, 1), (785, .iadd, 1), (786, .iaload, 1), (787, .aload_n 3, 1), (788, .invokestatic 185, 3), (791, .istore 6, 2), (793, .aload_n 2, 1), (794, .aload_n 0, 1), (795, .iload 5, 2), (797, .iconst 1, 1), (798, .iadd, 1), (799, .iaload, 1), (800, .aload_n 0, 1), (801, .iload 5, 2), (803, .iconst 2, 1), (804, .iadd, 1), (805, .iaload, 1), (806, .invokevirtual 187, 3), (809, .istore 7, 2), (811, .aload_n 2, 1), (812, .invokevirtual 152, 3), (815, .iload 6, 2), (817, .if_icmp .eq 5, 3), (820, .iconst 0, 1), (821, .ireturn, 1), (822, .iload 6, 2), (824, .ifCond .ne 15, 3), (827, .aload_n 3, 1), (828, .iconst 0, 1), (829, .laload, 1), (830, .iload 7, 2), (832, .i2l, 1), (833, .lcmp, 1), (834, .ifCond .eq 5, 3), (837, .iconst 0, 1), (838, .ireturn, 1), (839, .goto 2142, 3), (842, .aload_n 1, 1), (843, .aload_n 0, 1), (844, .iload 5, 2), (846, .iconst 1, 1), (847, .iadd, 1), (848, .iaload, 1), (849, .aload_n 3, 1), (850, .invokestatic 188, 3), (853, .istore 6, 2), (855, .aload_n 2, 1), (856, .aload_n 0, 1), (857, .iload 5, 2), (859, .iconst 1, 1), (860, .iadd, 1), (861, .iaload, 1), (862, .invokevirtual 190, 3), (865, .istore 7, 2), (867, .aload_n 2, 1), (868, .invokevirtual 152, 3), (871, .iload 6, 2), (873, .if_icmp .eq 5, 3), (876, .iconst 0, 1), (877, .ireturn, 1), (878, .iload 6, 2), (880, .ifCond .ne 15, 3), (883, .aload_n 3, 1), (884, .iconst 0, 1), (885, .laload, 1), (886, .iload 7, 2), (888, .i2l, 1), (889, .lcmp, 1), (890, .ifCond .eq 5, 3), (893, .iconst 0, 1), (894, .ireturn, 1), (895, .goto 2086, 3), (898, .aload_n 1, 1), (899, .invokevirtual 191, 3), (902, .aload_n 2, 1), (903, .invokevirtual 194, 3), (906, .if_icmp .eq 2075, 3), (909, .iconst 0, 1), (910, .ireturn, 1), (911, .aload_n 1, 1), (912, .aload_n 0, 1), (913, .iload 5, 2), (915, .iconst 1, 1), (916, .iadd, 1), (917, .iaload, 1), (918, .aload_n 3, 1), (919, .invokestatic 195, 3), (922, .istore 6, 2), (924, .aload_n 2, 1), (925, .aload_n 0, 1), (926, .iload 5, 2), (928, .iconst 1, 1), (929, .iadd, 1), (930, .iaload, 1), (931, .invokevirtual 197, 3), (934, .istore 7, 2), (936, .aload_n 2, 1), (937, .invokevirtual 152, 3), (940, .iload 6, 2), (942, .if_icmp .eq 5, 3), (945, .iconst 0, 1), (946, .ireturn, 1), (947, .iload 6, 2), (949, .ifCond .ne 15, 3), (952, .aload_n 3, 1), (953, .iconst 0, 1), (954, .laload, 1), (955, .iload 7, 2), (957, .i2l, 1), (958, .lcmp, 1), (959, .ifCond .eq 5, 3), (962, .iconst 0, 1), (963, .ireturn, 1), (964, .goto 2017, 3), (967, .aload_n 1, 1), (968, .aload_n 0, 1), (969, .iload 5, 2), (971, .iconst 1, 1), (972, .iadd, 1), (973, .iaload, 1), (974, .aload_n 3, 1), (975, .invokestatic 198, 3), (978, .istore 6, 2), (980, .aload_n 2, 1), (981, .aload_n 0, 1), (982, .iload 5, 2), (984, .iconst 1, 1), (985, .iadd, 1), (986, .iaload, 1), (987, .invokevirtual 200, 3), (990, .istore 7, 2), (992, .aload_n 2, 1), (993, .invokevirtual 152, 3), (996, .iload 6, 2), (998, .if_icmp .eq 5, 3), (1001, .iconst 0, 1), (1002, .ireturn, 1), (1003, .iload 6, 2), (1005, .ifCond .ne 15, 3), (1008, .aload_n 3, 1), (1009, .iconst 0, 1), (1010, .laload, 1), (1011, .iload 7, 2), (1013, .i2l, 1), (1014, .lcmp, 1), (1015, .ifCond .eq 5, 3), (1018, .iconst 0, 1), (1019, .ireturn, 1), (1020, .goto 1961, 3), (1023, .aload_n 1, 1), (1024, .aload_n 0, 1), (1025, .iload 5, 2), (1027, .iconst 1, 1), (1028, .iadd, 1), (1029, .iaload, 1), (1030, .aload_n 0, 1), (1031, .iload 5, 2), (1033, .iconst 2, 1), (1034, .iadd, 1), (1035, .iaload, 1), (1036, .aload_n 3, 1), (1037, .invokestatic 201, 3), (1040, .istore 6, 2), (1042, .aload_n 2, 1), (1043, .aload_n 0, 1), (1044, .iload 5, 2), (1046, .iconst 1, 1), (1047, .iadd, 1), (1048, .iaload, 1), (1049, .aload_n 0, 1), (1050, .iload 5, 2), (1052, .iconst 2, 1), (1053, .iadd, 1), (1054, .iaload, 1), (1055, .invokevirtual 203, 3), (1058, .istore 7, 2), (1060, .aload_n 2, 1), (1061, .invokevirtual 152, 3), (1064, .iload 6, 2), (1066, .if_icmp .eq 5, 3), (1069, .iconst 0, 1), (1070, .ireturn, 1), (1071, .iload 6, 2), (1073, .ifCond .ne 15, 3), (1076, .aload_n 3, 1), (1077, .iconst 0, 1), (1078, .laload, 1), (1079, .iload 7, 2), (1081, .i2l, 1), (1082, .lcmp, 1), (1083, .ifCond .eq 5, 3), (1086, .iconst 0, 1), (1087, .ireturn, 1), (1088, .goto 1893, 3), (1091, .aload_n 1, 1), (1092, .aload_n 0, 1), (1093, .iload 5, 2), (1095, .iconst 1, 1), (1096, .iadd, 1), (1097, .iaload, 1), (1098, .aload_n 3, 1), (1099, .invokestatic 204, 3), (1102, .istore 6, 2), (1104, .aload_n 2, 1), (1105, .aload_n 0, 1), (1106, .iload 5, 2), (1108, .iconst 1, 1), (1109, .iadd, 1), (1110, .iaload, 1), (1111, .invokevirtual 206, 3), (1114, .istore 7, 2), (1116, .aload_n 2, 1), (1117, .invokevirtual 152, 3), (1120, .iload 6, 2), (1122, .if_icmp .eq 5, 3), (1125, .iconst 0, 1), (1126, .ireturn, 1), (1127, .iload 6, 2), (1129, .ifCond .ne 15, 3), (1132, .aload_n 3, 1), (1133, .iconst 0, 1), (1134, .laload, 1), (1135, .iload 7, 2), (1137, .i2l, 1), (1138, .lcmp, 1), (1139, .ifCond .eq 5, 3), (1142, .iconst 0, 1), (1143, .ireturn, 1), (1144, .goto 1837, 3), (1147, .aload_n 1, 1), (1148, .invokevirtual 207, 3), (1151, .aload_n 2, 1), (1152, .invokevirtual 210, 3), (1155, .if_icmp .eq 1826, 3), (1158, .iconst 0, 1), (1159, .ireturn, 1), (1160, .aload_n 1, 1), (1161, .invokevirtual 211, 3), (1164, .aload_n 2, 1), (1165, .invokevirtual 214, 3), (1168, .if_icmp .eq 1813, 3), (1171, .iconst 0, 1), (1172, .ireturn, 1), (1173, .aload_n 1, 1), (1174, .aload_n 0, 1), (1175, .iload 5, 2), (1177, .iconst 1, 1), (1178, .iadd, 1), (1179, .iaload, 1), (1180, .aload_n 0, 1), (1181, .iload 5, 2), (1183, .iconst 2, 1), (1184, .iadd, 1), (1185, .iaload, 1), (1186, .aload_n 0, 1), (1187, .iload 5, 2), (1189, .iconst 3, 1), (1190, .iadd, 1), (1191, .iaload, 1), (1192, .aload_n 3, 1), (1193, .invokestatic 215, 3), (1196, .istore 6, 2), (1198, .aload_n 2, 1), (1199, .aload_n 0, 1), (1200, .iload 5, 2), (1202, .iconst 1, 1), (1203, .iadd, 1), (1204, .iaload, 1), (1205, .aload_n 0, 1), (1206, .iload 5, 2), (1208, .iconst 2, 1), (1209, .iadd, 1), (1210, .iaload, 1), (1211, .aload_n 0, 1), (1212, .iload 5, 2), (1214, .iconst 3, 1), (1215, .iadd, 1), (1216, .iaload, 1), (1217, .invokevirtual 217, 3), (1220, .istore 7, 2), (1222, .aload_n 2, 1), (1223, .invokevirtual 152, 3), (1226, .iload 6, 2), (1228, .if_icmp .eq 5, 3), (1231, .iconst 0, 1), (1232, .ireturn, 1), (1233, .iload 6, 2), (1235, .ifCond .ne 15, 3), (1238, .aload_n 3, 1), (1239, .iconst 0, 1), (1240, .laload, 1), (1241, .iload 7, 2), (1243, .i2l, 1), (1244, .lcmp, 1), (1245, .ifCond .eq 5, 3), (1248, .iconst 0, 1), (1249, .ireturn, 1), (1250, .goto 1731, 3), (1253, .aload_n 1, 1), (1254, .aload_n 0, 1), (1255, .iload 5, 2), (1257, .iconst 1, 1), (1258, .iadd, 1), (1259, .iaload, 1), (1260, .aload_n 0, 1), (1261, .iload 5, 2), (1263, .iconst 2, 1), (1264, .iadd, 1), (1265, .iaload, 1), (1266, .aload_n 3, 1), (1267, .invokestatic 218, 3), (1270, .istore 6, 2), (1272, .aload_n 2, 1), (1273, .aload_n 0, 1), (1274, .iload 5, 2), (1276, .iconst 1, 1), (1277, .iadd, 1), (1278, .iaload, 1), (1279, .aload_n 0, 1), (1280, .iload 5, 2), (1282, .iconst 2, 1), (1283, .iadd, 1), (1284, .iaload, 1), (1285, .invokevirtual 220, 3), (1288, .istore 7, 2), (1290, .aload_n 2, 1), (1291, .invokevirtual 152, 3), (1294, .iload 6, 2), (1296, .if_icmp .eq 5, 3), (1299, .iconst 0, 1), (1300, .ireturn, 1), (1301, .iload 6, 2), (1303, .ifCond .ne 15, 3), (1306, .aload_n 3, 1), (1307, .iconst 0, 1), (1308, .laload, 1), (1309, .iload 7, 2), (1311, .i2l, 1), (1312, .lcmp, 1), (1313, .ifCond .eq 5, 3), (1316, .iconst 0, 1), (1317, .ireturn, 1), (1318, .goto 1663, 3), (1321, .aload_n 1, 1), (1322, .aload_n 0, 1), (1323, .iload 5, 2), (1325, .iconst 1, 1), (1326, .iadd, 1), (1327, .iaload, 1), (1328, .invokevirtual 221, 3), (1331, .aload_n 2, 1), (1332, .aload_n 0, 1), (1333, .iload 5, 2), (1335, .iconst 1, 1), (1336, .iadd, 1), (1337, .iaload, 1), (1338, .invokevirtual 224, 3), (1341, .if_icmp .eq 1640, 3), (1344, .iconst 0, 1), (1345, .ireturn, 1), (1346, .aload_n 1, 1), (1347, .aload_n 0, 1), (1348, .iload 5, 2), (1350, .iconst 1, 1), (1351, .iadd, 1), (1352, .iaload, 1), (1353, .invokevirtual 225, 3), (1356, .aload_n 2, 1), (1357, .aload_n 0, 1), (1358, .iload 5, 2), (1360, .iconst 1, 1), (1361, .iadd, 1), (1362, .iaload, 1), (1363, .invokevirtual 228, 3), (1366, .if_icmp .eq 1615, 3), (1369, .iconst 0, 1), (1370, .ireturn, 1), (1371, .aload_n 1, 1), (1372, .aload_n 0, 1), (1373, .iload 5, 2), (1375, .iconst 1, 1), (1376, .iadd, 1), (1377, .iaload, 1), (1378, .aload_n 0, 1), (1379, .iload 5, 2), (1381, .iconst 2, 1), (1382, .iadd, 1), (1383, .iaload, 1), (1384, .invokevirtual 229, 3), (1387, .aload_n 2, 1), (1388, .aload_n 0, 1), (1389, .iload 5, 2), (1391, .iconst 1, 1), (1392, .iadd, 1), (1393, .iaload, 1), (1394, .aload_n 0, 1), (1395, .iload 5, 2), (1397, .iconst 2, 1), (1398, .iadd, 1), (1399, .iaload, 1), (1400, .invokevirtual 232, 3), (1403, .if_icmp .eq 1578, 3), (1406, .iconst 0, 1), (1407, .ireturn, 1), (1408, .aload_n 1, 1), (1409, .aload_n 0, 1), (1410, .iload 5, 2), (1412, .iconst 1, 1), (1413, .iadd, 1), (1414, .iaload, 1), (1415, .aload_n 3, 1), (1416, .invokestatic 233, 3), (1419, .istore 6, 2), (1421, .aload_n 2, 1), (1422, .aload_n 0, 1), (1423, .iload 5, 2), (1425, .iconst 1, 1), (1426, .iadd, 1), (1427, .iaload, 1), (1428, .invokevirtual 235, 3), (1431, .istore 7, 2), (1433, .aload_n 2, 1), (1434, .invokevirtual 152, 3), (1437, .iload 6, 2), (1439, .if_icmp .eq 5, 3), (1442, .iconst 0, 1), (1443, .ireturn, 1), (1444, .iload 6, 2), (1446, .ifCond .ne 15, 3), (1449, .aload_n 3, 1), (1450, .iconst 0, 1), (1451, .laload, 1), (1452, .iload 7, 2), (1454, .i2l, 1), (1455, .lcmp, 1), (1456, .ifCond .eq 5, 3), (1459, .iconst 0, 1), (1460, .ireturn, 1), (1461, .goto 1520, 3), (1464, .aload_n 1, 1), (1465, .aload_n 0, 1), (1466, .iload 5, 2), (1468, .iconst 1, 1), (1469, .iadd, 1), (1470, .iaload, 1), (1471, .aload_n 0, 1), (1472, .iload 5, 2), (1474, .iconst 2, 1), (1475, .iadd, 1), (1476, .iaload, 1), (1477, .aload_n 3, 1), (1478, .invokestatic 236, 3), (1481, .istore 6, 2), (1483, .aload_n 2, 1), (1484, .aload_n 0, 1), (1485, .iload 5, 2), (1487, .iconst 1, 1), (1488, .iadd, 1), (1489, .iaload, 1), (1490, .aload_n 0, 1), (1491, .iload 5, 2), (1493, .iconst 2, 1), (1494, .iadd, 1), (1495, .iaload, 1), (1496, .invokevirtual 238, 3), (1499, .istore 7, 2), (1501, .aload_n 2, 1), (1502, .invokevirtual 152, 3), (1505, .iload 6, 2), (1507, .if_icmp .eq 5, 3), (1510, .iconst 0, 1), (1511, .ireturn, 1), (1512, .iload 6, 2), (1514, .ifCond .ne 15, 3), (1517, .aload_n 3, 1), (1518, .iconst 0, 1), (1519, .laload, 1), (1520, .iload 7, 2), (1522, .i2l, 1), (1523, .lcmp, 1), (1524, .ifCond .eq 5, 3), (1527, .iconst 0, 1), (1528, .ireturn, 1), (1529, .goto 1452, 3), (1532, .aload_n 1, 1), (1533, .aload_n 0, 1), (1534, .iload 5, 2), (1536, .iconst 1, 1), (1537, .iadd, 1), (1538, .iaload, 1), (1539, .ifCond .eq 7, 3), (1542, .iconst 1, 1), (1543, .goto 4, 3), (1546, .iconst 0, 1), (1547, .aload_n 3, 1), (1548, .invokestatic 239, 3), (1551, .istore 6, 2), (1553, .aload_n 2, 1), (1554, .aload_n 0, 1), (1555, .iload 5, 2), (1557, .iconst 1, 1), (1558, .iadd, 1), (1559, .iaload, 1), (1560, .ifCond .eq 7, 3), (1563, .iconst 1, 1), (1564, .goto 4, 3), (1567, .iconst 0, 1), (1568, .invokevirtual 242, 3), (1571, .istore 7, 2), (1573, .aload_n 2, 1), (1574, .invokevirtual 152, 3), (1577, .iload 6, 2), (1579, .if_icmp .eq 5, 3), (1582, .iconst 0, 1), (1583, .ireturn, 1), (1584, .iload 6, 2), (1586, .ifCond .ne 15, 3), (1589, .aload_n 3, 1), (1590, .iconst 0, 1), (1591, .laload, 1), (1592, .iload 7, 2), (1594, .i2l, 1), (1595, .lcmp, 1), (1596, .ifCond .eq 5, 3), (1599, .iconst 0, 1), (1600, .ireturn, 1), (1601, .goto 1380, 3), (1604, .aload_n 1, 1), (1605, .aload_n 0, 1), (1606, .iload 5, 2), (1608, .iconst 1, 1), (1609, .iadd, 1), (1610, .iaload, 1), (1611, .aload_n 0, 1), (1612, .iload 5, 2), (1614, .iconst 2, 1), (1615, .iadd, 1), (1616, .iaload, 1), (1617, .aload_n 3, 1), (1618, .invokestatic 243, 3), (1621, .istore 6, 2), (1623, .aload_n 2, 1), (1624, .aload_n 0, 1), (1625, .iload 5, 2), (1627, .iconst 1, 1), (1628, .iadd, 1), (1629, .iaload, 1), (1630, .aload_n 0, 1), (1631, .iload 5, 2), (1633, .iconst 2, 1), (1634, .iadd, 1), (1635, .iaload, 1), (1636, .invokevirtual 245, 3), (1639, .istore 7, 2), (1641, .aload_n 2, 1), (1642, .invokevirtual 152, 3), (1645, .iload 6, 2), (1647, .if_icmp .eq 5, 3), (1650, .iconst 0, 1), (1651, .ireturn, 1), (1652, .iload 6, 2), (1654, .ifCond .ne 15, 3), (1657, .aload_n 3, 1), (1658, .iconst 0, 1), (1659, .laload, 1), (1660, .iload 7, 2), (1662, .i2l, 1), (1663, .lcmp, 1), (1664, .ifCond .eq 5, 3), (1667, .iconst 0, 1), (1668, .ireturn, 1), (1669, .goto 1312, 3), (1672, .aload_n 1, 1), (1673, .aload_n 0, 1), (1674, .iload 5, 2), (1676, .iconst 1, 1), (1677, .iadd, 1), (1678, .iaload, 1), (1679, .aload_n 3, 1), (1680, .invokestatic 246, 3), (1683, .istore 6, 2), (1685, .aload_n 2, 1), (1686, .aload_n 0, 1), (1687, .iload 5, 2), (1689, .iconst 1, 1), (1690, .iadd, 1), (1691, .iaload, 1), (1692, .invokevirtual 248, 3), (1695, .istore 7, 2), (1697, .aload_n 2, 1), (1698, .invokevirtual 152, 3), (1701, .iload 6, 2), (1703, .if_icmp .eq 5, 3), (1706, .iconst 0, 1), (1707, .ireturn, 1), (1708, .iload 6, 2), (1710, .ifCond .ne 15, 3), (1713, .aload_n 3, 1), (1714, .iconst 0, 1), (1715, .laload, 1), (1716, .iload 7, 2), (1718, .i2l, 1), (1719, .lcmp, 1), (1720, .ifCond .eq 5, 3), (1723, .iconst 0, 1), (1724, .ireturn, 1), (1725, .goto 1256, 3), (1728, .aload_n 1, 1), (1729, .aload_n 0, 1), (1730, .iload 5, 2), (1732, .iconst 1, 1), (1733, .iadd, 1), (1734, .iaload, 1), (1735, .aload_n 0, 1), (1736, .iload 5, 2), (1738, .iconst 2, 1), (1739, .iadd, 1), (1740, .iaload, 1), (1741, .aload_n 0, 1), (1742, .iload 5, 2), (1744, .iconst 3, 1), (1745, .iadd, 1), (1746, .iaload, 1), (1747, .ifCond .eq 7, 3), (1750, .iconst 1, 1), (1751, .goto 4, 3), (1754, .iconst 0, 1), (1755, .aload_n 3, 1), (1756, .invokestatic 249, 3), (1759, .istore 6, 2), (1761, .aload_n 2, 1), (1762, .aload_n 0, 1), (1763, .iload 5, 2), (1765, .iconst 1, 1), (1766, .iadd, 1), (1767, .iaload, 1), (1768, .aload_n 0, 1), (1769, .iload 5, 2), (1771, .iconst 2, 1), (1772, .iadd, 1), (1773, .iaload, 1), (1774, .aload_n 0, 1), (1775, .iload 5, 2), (1777, .iconst 3, 1), (1778, .iadd, 1), (1779, .iaload, 1), (1780, .ifCond .eq 7, 3), (1783, .iconst 1, 1), (1784, .goto 4, 3), (1787, .iconst 0, 1), (1788, .invokevirtual 252, 3), (1791, .istore 7, 2), (1793, .aload_n 2, 1), (1794, .invokevirtual 152, 3), (1797, .iload 6, 2), (1799, .if_icmp .eq 5, 3), (1802, .iconst 0, 1), (1803, .ireturn, 1), (1804, .iload 6, 2), (1806, .ifCond .ne 15, 3), (1809, .aload_n 3, 1), (1810, .iconst 0, 1), (1811, .laload, 1), (1812, .iload 7, 2), (1814, .i2l, 1), (1815, .lcmp, 1), (1816, .ifCond .eq 5, 3), (1819, .iconst 0, 1), (1820, .ireturn, 1), (1821, .goto 1160, 3), (1824, .aload_n 1, 1), (1825, .aload_n 0, 1), (1826, .iload 5, 2), (1828, .iconst 1, 1), (1829, .iadd, 1), (1830, .iaload, 1), (1831, .aload_n 3, 1), (1832, .invokestatic 253, 3), (1835, .istore 6, 2), (1837, .aload_n 2, 1), (1838, .aload_n 0, 1), (1839, .iload 5, 2), (1841, .iconst 1, 1), (1842, .iadd, 1), (1843, .iaload, 1), (1844, .invokevirtual 255, 3), (1847, .istore 7, 2), (1849, .aload_n 2, 1), (1850, .invokevirtual 152, 3), (1853, .iload 6, 2), (1855, .if_icmp .eq 5, 3), (1858, .iconst 0, 1), (1859, .ireturn, 1), (1860, .iload 6, 2), (1862, .ifCond .ne 15, 3), (1865, .aload_n 3, 1), (1866, .iconst 0, 1), (1867, .laload, 1), (1868, .iload 7, 2), (1870, .i2l, 1), (1871, .lcmp, 1), (1872, .ifCond .eq 5, 3), (1875, .iconst 0, 1), (1876, .ireturn, 1), (1877, .goto 1104, 3), (1880, .aload_n 1, 1), (1881, .aload_n 0, 1), (1882, .iload 5, 2), (1884, .iconst 1, 1), (1885, .iadd, 1), (1886, .iaload, 1), (1887, .aload_n 3, 1), (1888, .invokestatic 256, 3), (1891, .istore 6, 2), (1893, .aload_n 2, 1), (1894, .aload_n 0, 1), (1895, .iload 5, 2), (1897, .iconst 1, 1), (1898, .iadd, 1), (1899, .iaload, 1), (1900, .invokevirtual 258, 3), (1903, .istore 7, 2), (1905, .aload_n 2, 1), (1906, .invokevirtual 152, 3), (1909, .iload 6, 2), (1911, .if_icmp .eq 5, 3), (1914, .iconst 0, 1), (1915, .ireturn, 1), (1916, .iload 6, 2), (1918, .ifCond .ne 15, 3), (1921, .aload_n 3, 1), (1922, .iconst 0, 1), (1923, .laload, 1), (1924, .iload 7, 2), (1926, .i2l, 1), (1927, .lcmp, 1), (1928, .ifCond .eq 5, 3), (1931, .iconst 0, 1), (1932, .ireturn, 1), (1933, .goto 1048, 3), (1936, .aload_n 1, 1), (1937, .aload_n 0, 1), (1938, .iload 5, 2), (1940, .iconst 1, 1), (1941, .iadd, 1), (1942, .iaload, 1), (1943, .aload_n 3, 1), (1944, .invokestatic 259, 3), (1947, .istore 6, 2), (1949, .aload_n 2, 1), (1950, .aload_n 0, 1), (1951, .iload 5, 2), (1953, .iconst 1, 1), (1954, .iadd, 1), (1955, .iaload, 1), (1956, .invokevirtual 261, 3), (1959, .istore 7, 2), (1961, .aload_n 2, 1), (1962, .invokevirtual 152, 3), (1965, .iload 6, 2), (1967, .if_icmp .eq 5, 3), (1970, .iconst 0, 1), (1971, .ireturn, 1), (1972, .iload 6, 2), (1974, .ifCond .ne 15, 3), (1977, .aload_n 3, 1), (1978, .iconst 0, 1), (1979, .laload, 1), (1980, .iload 7, 2), (1982, .i2l, 1), (1983, .lcmp, 1), (1984, .ifCond .eq 5, 3), (1987, .iconst 0, 1), (1988, .ireturn, 1), (1989, .goto 992, 3), (1992, .aload_n 1, 1), (1993, .aload_n 0, 1), (1994, .iload 5, 2), (1996, .iconst 1, 1), (1997, .iadd, 1), (1998, .iaload, 1), (1999, .aload_n 3, 1), (2000, .invokestatic 262, 3), (2003, .istore 6, 2), (2005, .aload_n 2, 1), (2006, .aload_n 0, 1), (2007, .iload 5, 2), (2009, .iconst 1, 1), (2010, .iadd, 1), (2011, .iaload, 1), (2012, .invokevirtual 264, 3), (2015, .istore 7, 2), (2017, .aload_n 2, 1), (2018, .invokevirtual 152, 3), (2021, .iload 6, 2), (2023, .if_icmp .eq 5, 3), (2026, .iconst 0, 1), (2027, .ireturn, 1), (2028, .iload 6, 2), (2030, .ifCond .ne 15, 3), (2033, .aload_n 3, 1), (2034, .iconst 0, 1), (2035, .laload, 1), (2036, .iload 7, 2), (2038, .i2l, 1), (2039, .lcmp, 1), (2040, .ifCond .eq 5, 3), (2043, .iconst 0, 1), (2044, .ireturn, 1), (2045, .goto 936, 3), (2048, .aload_n 1, 1), (2049, .aload_n 0, 1), (2050, .iload 5, 2), (2052, .iconst 1, 1), (2053, .iadd, 1), (2054, .iaload, 1), (2055, .aload_n 3, 1), (2056, .invokestatic 265, 3), (2059, .istore 6, 2), (2061, .aload_n 2, 1), (2062, .aload_n 0, 1), (2063, .iload 5, 2), (2065, .iconst 1, 1), (2066, .iadd, 1), (2067, .iaload, 1), (2068, .invokevirtual 267, 3), (2071, .istore 7, 2), (2073, .aload_n 2, 1), (2074, .invokevirtual 152, 3), (2077, .iload 6, 2), (2079, .if_icmp .eq 5, 3), (2082, .iconst 0, 1), (2083, .ireturn, 1), (2084, .iload 6, 2), (2086, .ifCond .ne 15, 3), (2089, .aload_n 3, 1), (2090, .iconst 0, 1), (2091, .laload, 1), (2092, .iload 7, 2), (2094, .i2l, 1), (2095, .lcmp, 1), (2096, .ifCond .eq 5, 3), (2099, .iconst 0, 1), (2100, .ireturn, 1), (2101, .goto 880, 3), (2104, .aload_n 1, 1), (2105, .aload_n 3, 1), (2106, .invokestatic 268, 3), (2109, .istore 6, 2), (2111, .aload_n 2, 1), (2112, .invokevirtual 270, 3), (2115, .istore 7, 2), (2117, .aload_n 2, 1), (2118, .invokevirtual 152, 3), (2121, .iload 6, 2), (2123, .if_icmp .eq 5, 3), (2126, .iconst 0, 1), (2127, .ireturn, 1), (2128, .iload 6, 2), (2130, .ifCond .ne 15, 3), (2133, .aload_n 3, 1), (2134, .iconst 0, 1), (2135, .laload, 1), (2136, .iload 7, 2), (2138, .i2l, 1), (2139, .lcmp, 1), (2140, .ifCond .eq 5, 3), (2143, .iconst 0, 1), (2144, .ireturn, 1), (2145, .goto 836, 3), (2148, .aload_n 1, 1), (2149, .invokevirtual 271, 3), (2152, .aload_n 2, 1), (2153, .invokevirtual 274, 3), (2156, .if_icmp .eq 825, 3), (2159, .iconst 0, 1), (2160, .ireturn, 1), (2161, .aload_n 1, 1), (2162, .aload_n 0, 1), (2163, .iload 5, 2), (2165, .iconst 1, 1), (2166, .iadd, 1), (2167, .iaload, 1), (2168, .aload_n 3, 1), (2169, .invokestatic 275, 3), (2172, .istore 6, 2), (2174, .aload_n 2, 1), (2175, .aload_n 0, 1), (2176, .iload 5, 2), (2178, .iconst 1, 1), (2179, .iadd, 1), (2180, .iaload, 1), (2181, .invokevirtual 277, 3), (2184, .istore 7, 2), (2186, .aload_n 2, 1), (2187, .invokevirtual 152, 3), (2190, .iload 6, 2), (2192, .if_icmp .eq 5, 3), (2195, .iconst 0, 1), (2196, .ireturn, 1), (2197, .iload 6, 2), (2199, .ifCond .ne 15, 3), (2202, .aload_n 3, 1), (2203, .iconst 0, 1), (2204, .laload, 1), (2205, .iload 7, 2), (2207, .i2l, 1), (2208, .lcmp, 1), (2209, .ifCond .eq 5, 3), (2212, .iconst 0, 1), (2213, .ireturn, 1), (2214, .goto 767, 3), (2217, .aload_n 1, 1), (2218, .aload_n 0, 1), (2219, .iload 5, 2), (2221, .iconst 1, 1), (2222, .iadd, 1), (2223, .iaload, 1), (2224, .aload_n 0, 1), (2225, .iload 5, 2), (2227, .iconst 2, 1), (2228, .iadd, 1), (2229, .iaload, 1), (2230, .aload_n 0, 1), (2231, .iload 5, 2), (2233, .iconst 3, 1), (2234, .iadd, 1), (2235, .iaload, 1), (2236, .aload_n 3, 1), (2237, .invokestatic 278, 3), (2240, .istore 6, 2), (2242, .aload_n 2, 1), (2243, .aload_n 0, 1), (2244, .iload 5, 2), (2246, .iconst 1, 1), (2247, .iadd, 1), (2248, .iaload, 1), (2249, .aload_n 0, 1), (2250, .iload 5, 2), (2252, .iconst 2, 1), (2253, .iadd, 1), (2254, .iaload, 1), (2255, .aload_n 0, 1), (2256, .iload 5, 2), (2258, .iconst 3, 1), (2259, .iadd, 1), (2260, .iaload, 1), (2261, .invokevirtual 280, 3), (2264, .istore 7, 2), (2266, .aload_n 2, 1), (2267, .invokevirtual 152, 3), (2270, .iload 6, 2), (2272, .if_icmp .eq 5, 3), (2275, .iconst 0, 1), (2276, .ireturn, 1), (2277, .iload 6, 2), (2279, .ifCond .ne 15, 3), (2282, .aload_n 3, 1), (2283, .iconst 0, 1), (2284, .laload, 1), (2285, .iload 7, 2), (2287, .i2l, 1), (2288, .lcmp, 1), (2289, .ifCond .eq 5, 3), (2292, .iconst 0, 1), (2293, .ireturn, 1), (2294, .goto 687, 3), (2297, .aload_n 1, 1), (2298, .aload_n 0, 1), (2299, .iload 5, 2), (2301, .iconst 1, 1), (2302, .iadd, 1), (2303, .iaload, 1), (2304, .aload_n 0, 1), (2305, .iload 5, 2), (2307, .iconst 2, 1), (2308, .iadd, 1), (2309, .iaload, 1), (2310, .aload_n 3, 1), (2311, .invokestatic 281, 3), (2314, .istore 6, 2), (2316, .aload_n 2, 1), (2317, .aload_n 0, 1), (2318, .iload 5, 2), (2320, .iconst 1, 1), (2321, .iadd, 1), (2322, .iaload, 1), (2323, .aload_n 0, 1), (2324, .iload 5, 2), (2326, .iconst 2, 1), (2327, .iadd, 1), (2328, .iaload, 1), (2329, .invokevirtual 283, 3), (2332, .istore 7, 2), (2334, .aload_n 2, 1), (2335, .invokevirtual 152, 3), (2338, .iload 6, 2), (2340, .if_icmp .eq 5, 3), (2343, .iconst 0, 1), (2344, .ireturn, 1), (2345, .iload 6, 2), (2347, .ifCond .ne 15, 3), (2350, .aload_n 3, 1), (2351, .iconst 0, 1), (2352, .laload, 1), (2353, .iload 7, 2), (2355, .i2l, 1), (2356, .lcmp, 1), (2357, .ifCond .eq 5, 3), (2360, .iconst 0, 1), (2361, .ireturn, 1), (2362, .goto 619, 3), (2365, .aload_n 1, 1), (2366, .aload_n 0, 1), (2367, .iload 5, 2), (2369, .iconst 1, 1), (2370, .iadd, 1), (2371, .iaload, 1), (2372, .aload_n 0, 1), (2373, .iload 5, 2), (2375, .iconst 2, 1), (2376, .iadd, 1), (2377, .iaload, 1), (2378, .aload_n 3, 1), (2379, .invokestatic 284, 3), (2382, .istore 6, 2), (2384, .aload_n 2, 1), (2385, .aload_n 0, 1), (2386, .iload 5, 2), (2388, .iconst 1, 1), (2389, .iadd, 1), (2390, .iaload, 1), (2391, .aload_n 0, 1), (2392, .iload 5, 2), (2394, .iconst 2, 1), (2395, .iadd, 1), (2396, .iaload, 1), (2397, .invokevirtual 286, 3), (2400, .istore 7, 2), (2402, .aload_n 2, 1), (2403, .invokevirtual 152, 3), (2406, .iload 6, 2), (2408, .if_icmp .eq 5, 3), (2411, .iconst 0, 1), (2412, .ireturn, 1), (2413, .iload 6, 2), (2415, .ifCond .ne 15, 3), (2418, .aload_n 3, 1), (2419, .iconst 0, 1), (2420, .laload, 1), (2421, .iload 7, 2), (2423, .i2l, 1), (2424, .lcmp, 1), (2425, .ifCond .eq 5, 3), (2428, .iconst 0, 1), (2429, .ireturn, 1), (2430, .goto 551, 3), (2433, .aload_n 1, 1), (2434, .aload_n 0, 1), (2435, .iload 5, 2), (2437, .iconst 1, 1), (2438, .iadd, 1), (2439, .iaload, 1), (2440, .aload_n 3, 1), (2441, .invokestatic 287, 3), (2444, .istore 6, 2), (2446, .aload_n 2, 1), (2447, .aload_n 0, 1), (2448, .iload 5, 2), (2450, .iconst 1, 1), (2451, .iadd, 1), (2452, .iaload, 1), (2453, .invokevirtual 289, 3), (2456, .istore 7, 2), (2458, .aload_n 2, 1), (2459, .invokevirtual 152, 3), (2462, .iload 6, 2), (2464, .if_icmp .eq 5, 3), (2467, .iconst 0, 1), (2468, .ireturn, 1), (2469, .iload 6, 2), (2471, .ifCond .ne 15, 3), (2474, .aload_n 3, 1), (2475, .iconst 0, 1), (2476, .laload, 1), (2477, .iload 7, 2), (2479, .i2l, 1), (2480, .lcmp, 1), (2481, .ifCond .eq 5, 3), (2484, .iconst 0, 1), (2485, .ireturn, 1), (2486, .goto 495, 3), (2489, .aload_n 1, 1), (2490, .aload_n 0, 1), (2491, .iload 5, 2), (2493, .iconst 1, 1), (2494, .iadd, 1), (2495, .iaload, 1), (2496, .aload_n 3, 1), (2497, .invokestatic 290, 3), (2500, .istore 6, 2), (2502, .aload_n 2, 1), (2503, .aload_n 0, 1), (2504, .iload 5, 2), (2506, .iconst 1, 1), (2507, .iadd, 1), (2508, .iaload, 1), (2509, .invokevirtual 292, 3), (2512, .istore 7, 2), (2514, .aload_n 2, 1), (2515, .invokevirtual 152, 3), (2518, .iload 6, 2), (2520, .if_icmp .eq 5, 3), (2523, .iconst 0, 1), (2524, .ireturn, 1), (2525, .iload 6, 2), (2527, .ifCond .ne 15, 3), (2530, .aload_n 3, 1), (2531, .iconst 0, 1), (2532, .laload, 1), (2533, .iload 7, 2), (2535, .i2l, 1), (2536, .lcmp, 1), (2537, .ifCond .eq 5, 3), (2540, .iconst 0, 1), (2541, .ireturn, 1), (2542, .goto 439, 3), (2545, .aload_n 1, 1), (2546, .aload_n 0, 1), (2547, .iload 5, 2), (2549, .iconst 1, 1), (2550, .iadd, 1), (2551, .iaload, 1), (2552, .aload_n 3, 1), (2553, .invokestatic 293, 3), (2556, .istore 6, 2), (2558, .aload_n 2, 1), (2559, .aload_n 0, 1), (2560, .iload 5, 2), (2562, .iconst 1, 1), (2563, .iadd, 1), (2564, .iaload, 1), (2565, .invokevirtual 295, 3), (2568, .istore 7, 2), (2570, .aload_n 2, 1), (2571, .invokevirtual 152, 3), (2574, .iload 6, 2), (2576, .if_icmp .eq 5, 3), (2579, .iconst 0, 1), (2580, .ireturn, 1), (2581, .iload 6, 2), (2583, .ifCond .ne 15, 3), (2586, .aload_n 3, 1), (2587, .iconst 0, 1), (2588, .laload, 1), (2589, .iload 7, 2), (2591, .i2l, 1), (2592, .lcmp, 1), (2593, .ifCond .eq 5, 3), (2596, .iconst 0, 1), (2597, .ireturn, 1), (2598, .goto 383, 3), (2601, .aload_n 1, 1), (2602, .aload_n 0, 1), (2603, .iload 5, 2), (2605, .iconst 1, 1), (2606, .iadd, 1), (2607, .iaload, 1), (2608, .aload_n 3, 1), (2609, .invokestatic 296, 3), (2612, .istore 6, 2), (2614, .aload_n 2, 1), (2615, .aload_n 0, 1), (2616, .iload 5, 2), (2618, .iconst 1, 1), (2619, .iadd, 1), (2620, .iaload, 1), (2621, .invokevirtual 298, 3), (2624, .istore 7, 2), (2626, .aload_n 2, 1), (2627, .invokevirtual 152, 3), (2630, .iload 6, 2), (2632, .if_icmp .eq 5, 3), (2635, .iconst 0, 1), (2636, .ireturn, 1), (2637, .iload 6, 2), (2639, .ifCond .ne 15, 3), (2642, .aload_n 3, 1), (2643, .iconst 0, 1), (2644, .laload, 1), (2645, .iload 7, 2), (2647, .i2l, 1), (2648, .lcmp, 1), (2649, .ifCond .eq 5, 3), (2652, .iconst 0, 1), (2653, .ireturn, 1), (2654, .goto 327, 3), (2657, .aload_n 1, 1), (2658, .aload_n 0, 1), (2659, .iload 5, 2), (2661, .iconst 1, 1), (2662, .iadd, 1), (2663, .iaload, 1), (2664, .aload_n 3, 1), (2665, .invokestatic 299, 3), (2668, .istore 6, 2), (2670, .aload_n 2, 1), (2671, .aload_n 0, 1), (2672, .iload 5, 2), (2674, .iconst 1, 1), (2675, .iadd, 1), (2676, .iaload, 1), (2677, .invokevirtual 301, 3), (2680, .istore 7, 2), (2682, .aload_n 2, 1), (2683, .invokevirtual 152, 3), (2686, .iload 6, 2), (2688, .if_icmp .eq 5, 3), (2691, .iconst 0, 1), (2692, .ireturn, 1), (2693, .iload 6, 2), (2695, .ifCond .ne 15, 3), (2698, .aload_n 3, 1), (2699, .iconst 0, 1), (2700, .laload, 1), (2701, .iload 7, 2), (2703, .i2l, 1), (2704, .lcmp, 1), (2705, .ifCond .eq 5, 3), (2708, .iconst 0, 1), (2709, .ireturn, 1), (2710, .goto 271, 3), (2713, .aload_n 1, 1), (2714, .aload_n 0, 1), (2715, .iload 5, 2), (2717, .iconst 1, 1), (2718, .iadd, 1), (2719, .iaload, 1), (2720, .aload_n 0, 1), (2721, .iload 5, 2), (2723, .iconst 2, 1), (2724, .iadd, 1), (2725, .iaload, 1), (2726, .aload_n 3, 1), (2727, .invokestatic 302, 3), (2730, .istore 6, 2), (2732, .aload_n 2, 1), (2733, .aload_n 0, 1), (2734, .iload 5, 2), (2736, .iconst 1, 1), (2737, .iadd, 1), (2738, .iaload, 1), (2739, .aload_n 0, 1), (2740, .iload 5, 2), (2742, .iconst 2, 1), (2743, .iadd, 1), (2744, .iaload, 1), (2745, .invokevirtual 304, 3), (2748, .istore 7, 2), (2750, .aload_n 2, 1), (2751, .invokevirtual 152, 3), (2754, .iload 6, 2), (2756, .if_icmp .eq 5, 3), (2759, .iconst 0, 1), (2760, .ireturn, 1), (2761, .iload 6, 2), (2763, .ifCond .ne 15, 3), (2766, .aload_n 3, 1), (2767, .iconst 0, 1), (2768, .laload, 1), (2769, .iload 7, 2), (2771, .i2l, 1), (2772, .lcmp, 1), (2773, .ifCond .eq 5, 3), (2776, .iconst 0, 1), (2777, .ireturn, 1), (2778, .goto 203, 3), (2781, .aload_n 1, 1), (2782, .aload_n 0, 1), (2783, .iload 5, 2), (2785, .iconst 1, 1), (2786, .iadd, 1), (2787, .iaload, 1), (2788, .aload_n 0, 1), (2789, .iload 5, 2), (2791, .iconst 2, 1), (2792, .iadd, 1), (2793, .iaload, 1), (2794, .aload_n 3, 1), (2795, .invokestatic 305, 3), (2798, .istore 6, 2), (2800, .aload_n 2, 1), (2801, .aload_n 0, 1), (2802, .iload 5, 2), (2804, .iconst 1, 1), (2805, .iadd, 1), (2806, .iaload, 1), (2807, .aload_n 0, 1), (2808, .iload 5, 2), (2810, .iconst 2, 1), (2811, .iadd, 1), (2812, .iaload, 1), (2813, .invokevirtual 307, 3), (2816, .istore 7, 2), (2818, .aload_n 2, 1), (2819, .invokevirtual 152, 3), (2822, .iload 6, 2), (2824, .if_icmp .eq 5, 3), (2827, .iconst 0, 1), (2828, .ireturn, 1), (2829, .iload 6, 2), (2831, .ifCond .ne 15, 3), (2834, .aload_n 3, 1), (2835, .iconst 0, 1), (2836, .laload, 1), (2837, .iload 7, 2), (2839, .i2l, 1), (2840, .lcmp, 1), (2841, .ifCond .eq 5, 3), (2844, .iconst 0, 1), (2845, .ireturn, 1), (2846, .goto 135, 3), (2849, .aload_n 1, 1), (2850, .invokevirtual 308, 3), (2853, .dstore 6, 2), (2855, .aload_n 2, 1), (2856, .invokevirtual 312, 3), (2859, .dstore 8, 2), (2861, .dload 6, 2), (2863, .dload 8, 2), (2865, .dcmp .l, 1), (2866, .ifCond .eq 21, 3), (2869, .dload 6, 2), (2871, .dload 6, 2), (2873, .dcmp .l, 1), (2874, .ifCond .eq 11, 3), (2877, .dload 8, 2), (2879, .dload 8, 2), (2881, .dcmp .l, 1), (2882, .ifCond .ne 5, 3), (2885, .iconst 0, 1), (2886, .ireturn, 1), (2887, .goto 94, 3), (2890, .aload_n 1, 1), (2891, .aload_n 0, 1), (2892, .iload 5, 2), (2894, .iconst 1, 1), (2895, .iadd, 1), (2896, .iaload, 1), (2897, .aload 4, 2), (2899, .invokestatic 313, 3), (2902, .istore 6, 2), (2904, .aload_n 2, 1), (2905, .aload_n 0, 1), (2906, .iload 5, 2), (2908, .iconst 1, 1), (2909, .iadd, 1), (2910, .iaload, 1), (2911, .invokevirtual 316, 3), (2914, .fstore 7, 2), (2916, .aload_n 2, 1), (2917, .invokevirtual 152, 3), (2920, .iload 6, 2), (2922, .if_icmp .eq 5, 3), (2925, .iconst 0, 1), (2926, .ireturn, 1), (2927, .iload 6, 2), (2929, .ifCond .ne 36, 3), (2932, .aload 4, 2), (2934, .iconst 0, 1), (2935, .daload, 1), (2936, .fload 7, 2), (2938, .f2d, 1), (2939, .dcmp .l, 1), (2940, .ifCond .eq 25, 3), (2943, .aload 4, 2), (2945, .iconst 0, 1), (2946, .daload, 1), (2947, .aload 4, 2), (2949, .iconst 0, 1), (2950, .daload, 1), (2951, .dcmp .l, 1), (2952, .ifCond .eq 11, 3), (2955, .fload 7, 2), (2957, .fload 7, 2), (2959, .fcmp .l, 1), (2960, .ifCond .ne 5, 3), (2963, .iconst 0, 1), (2964, .ireturn, 1), (2965, .goto 16, 3), (2968, .aload_n 1, 1), (2969, .invokevirtual 317, 3), (2972, .aload_n 2, 1), (2973, .invokevirtual 320, 3), (2976, .if_icmp .eq 5, 3), (2979, .iconst 0, 1), (2980, .ireturn, 1), (2981, .iinc 5 6, 3), (2984, .goto (-2956), 3), (2987, .iconst 1, 1), (2988, .ireturn, 1)]
theorem DL_law_ok : DL_law.all (fun q => decide (decode mL_law.2.1 q.1 = .ok q.2)) = true := by decide +kernel
theorem eL_law_0 : z_at mL_law 0 (.new 8) 3 3 ∧ z_mk mL_law.1.cls 8 7 13 [.null, .null, .null, .null, z_i 0, .null, .null, .null, .null, z_i 0, .null, .null, .null] := ⟨⟨z_D DL_law_ok 0 rfl, rfl⟩, ⟨_, _, _, cX7, w1_33, w1_34, w1_1, z_dv (by decide +kernel)⟩⟩
theorem eL_law_3 : z_at mL_law 3 (.dup) 1 4 := ⟨z_D DL_law_ok 1 rfl, rfl⟩
theorem eL_law_4 : z_at mL_law 4 (.invokespecial 142) 3 7 ∧ z_lk mL_law.1.cls 142 mX7_init.1 ∧ z_mt mX7_init 0 ∧ (mX7_init.1.name = "<init>" ∧ mX7_init.2.2.2 = none) ∧ Cond.instanceMethod mX7_init.1 ∈ lw_tbl := ⟨⟨z_D DL_law_ok 2 rfl, rfl⟩, Or.inl w1_35, tX7_init, iX7_init⟩
theorem eL_law_7 : z_asd mL_law 7 1 8 := ⟨Or.inl ⟨1, z_D DL_law_ok 3 rfl, rfl, rfl⟩, by decide⟩
theorem eL_law_8 : z_at mL_law 8 (.new 143) 3 11 ∧ z_mk mL_law.1.cls 143 8 32 [z_i 0, .null, z_i 0, z_i 0, z_i 0, z_i 0, z_i 0, z_i 0, .null, .null, .null, .null, z_i 0, z_i 0, .null, .null, .null, .null, .null, z_i 0, z_i 0, .null, .null, .null, .null, z_i 0, z_i 0, z_i 0, .null, .null, z_i 0, .null] := ⟨⟨z_D DL_law_ok 4 rfl, rfl⟩, ⟨_, _, _, cX8, w6_217, w6_218, w1_13, z_dv (by decide +kernel)⟩⟩
theorem eL_law_11 : z_at mL_law 11 (.dup) 1 12 := ⟨z_D DL_law_ok 5 rfl, rfl⟩
theorem eL_law_12 : z_at mL_law 12 (.invokespecial 145) 3 15 ∧ z_lk mL_law.1.cls 145 mX8_init.1 ∧ z_mt mX8_init 0 ∧ (mX8_init.1.name = "<init>" ∧ mX8_init.2.2.2 = none) ∧ Cond.instanceMethod mX8_init.1 ∈ lw_tbl := ⟨⟨z_D DL_law_ok 6 rfl, rfl⟩, Or.inl w6_219, tX8_init, iX8_init⟩
theorem eL_law_15 : z_asd mL_law 15 2 16 := ⟨Or.inl ⟨2, z_D DL_law_ok 7 rfl, rfl, rfl⟩, by decide⟩
theorem eL_law_16 : z_co mL_law 16 (1) 17 := Or.inl ⟨z_D DL_law_ok 8 rfl, rfl⟩
theorem eL_law_17 : z_at mL_law 17 (.newarray .long) 2 19 := ⟨z_D DL_law_ok 9 rfl, rfl⟩
theorem eL_law_19 : z_asd mL_law 19 3 20 := ⟨Or.inl ⟨3, z_D DL_law_ok 10 rfl, rfl, rfl⟩, by decide⟩
theorem eL_law_20 : z_co mL_law 20 (1) 21 := Or.inl ⟨z_D DL_law_ok 11 rfl, rfl⟩
theorem eL_law_21 : z_at mL_law 21 (.newarray .double) 2 23 := ⟨z_D DL_law_ok 12 rfl, rfl⟩
theorem eL_law_23 : z_asd mL_law 23 4 25 := ⟨Or.inr ⟨z_D DL_law_ok 13 rfl, rfl⟩, by decide⟩
theorem eL_law_25 : z_co mL_law 25 (0) 26 := Or.inl ⟨z_D DL_law_ok 14 rfl, rfl⟩
theorem eL_law_26 : z_sd mL_law 26 5 28 := ⟨Or.inr ⟨z_D DL_law_ok 15 rfl, rfl⟩, by decide⟩
theorem eL_law_28 : z_ld mL_law 28 5 30 := Or.inr ⟨z_D DL_law_ok 16 rfl, rfl⟩
theorem eL_law_30 : z_ad mL_law 30 0 31 := Or.inl ⟨0, z_D DL_law_ok 17 rfl, rfl, rfl⟩
theorem eL_law_31 : z_at mL_law 31 (.arraylength) 1 32 := ⟨z_D DL_law_ok 18 rfl, rfl⟩
theorem eL_law_32 : z_co mL_law 32 (6) 34 := Or.inr (Or.inl ⟨_, z_D DL_law_ok 19 rfl, by decide, rfl⟩)
theorem eL_law_34 : z_at mL_law 34 (.isub) 1 35 := ⟨z_D DL_law_ok 20 rfl, rfl⟩
theorem eL_law_35 : z_br mL_law 35 (.if_icmp .gt 2952) (2952) 38 2987 := ⟨z_D DL_law_ok 21 rfl, rfl, by decide⟩
theorem eL_law_38 : z_ad mL_law 38 0 39 := Or.inl ⟨0, z_D DL_law_ok 22 rfl, rfl, rfl⟩
theorem eL_law_39 : z_ld mL_law 39 5 41 := Or.inr ⟨z_D DL_law_ok 23 rfl, rfl⟩
theorem eL_law_41 : z_at mL_law 41 (.iaload) 1 42 := ⟨z_D DL_law_ok 24 rfl, rfl⟩
theorem eL_law_42 : z_co mL_law 42 (63) 44 := Or.inr (Or.inl ⟨_, z_D DL_law_ok 25 rfl, by decide, rfl⟩)
theorem eL_law_44 : z_at mL_law 44 (.iand) 1 45 := ⟨z_D DL_law_ok 26 rfl, rfl⟩
theorem eL_law_45 : z_at mL_law 45 (.tableswitch 2936 0 49 #[215, 319, 332, 376, 389, 457, 513, 569, 649, 729, 797, 853, 866, 922, 978, 1046, 1102, 1115, 1128, 1208, 1276, 1301, 1326, 1363, 1419, 1487, 1559, 1627, 1683, 1779, 1835, 1891, 1947, 2003, 2059, 2103, 2116, 2172, 2252, 2320, 2388, 2444, 2500, 2556, 2612, 2668, 2736, 2804, 2845, 2923]) 215 260 := ⟨z_D DL_law_ok 27 rfl, rfl⟩
theorem eL_law_260 : z_ad mL_law 260 1 261 := Or.inl ⟨1, z_D DL_law_ok 28 rfl, rfl, rfl⟩
theorem eL_law_261 : z_ad mL_law 261 0 262 := Or.inl ⟨0, z_D DL_law_ok 29 rfl, rfl, rfl⟩
theorem eL_law_262 : z_ld mL_law 262 5 264 := Or.inr ⟨z_D DL_law_ok 30 rfl, rfl⟩
theorem eL_law_264 : z_co mL_law 264 (1) 265 := Or.inl ⟨z_D DL_law_ok 31 rfl, rfl⟩
theorem eL_law_265 : z_at mL_law 265 (.iadd) 1 266 := ⟨z_D DL_law_ok 32 rfl, rfl⟩
theorem eL_law_266 : z_at mL_law 266 (.iaload) 1 267 := ⟨z_D DL_law_ok 33 rfl, rfl⟩
theorem eL_law_267 : z_ad mL_law 267 0 268 := Or.inl ⟨0, z_D DL_law_ok 34 rfl, rfl, rfl⟩
theorem eL_law_268 : z_ld mL_law 268 5 270 := Or.inr ⟨z_D DL_law_ok 35 rfl, rfl⟩
theorem eL_law_270 : z_co mL_law 270 (2) 271 := Or.inl ⟨z_D DL_law_ok 36 rfl, rfl⟩
theorem eL_law_271 : z_at mL_law 271 (.iadd) 1 272 := ⟨z_D DL_law_ok 37 rfl, rfl⟩
theorem eL_law_272 : z_at mL_law 272 (.iaload) 1 273 := ⟨z_D DL_law_ok 38 rfl, rfl⟩
theorem eL_law_273 : z_ad mL_law 273 0 274 := Or.inl ⟨0, z_D DL_law_ok 39 rfl, rfl, rfl⟩
theorem eL_law_274 : z_ld mL_law 274 5 276 := Or.inr ⟨z_D DL_law_ok 40 rfl, rfl⟩
theorem eL_law_276 : z_co mL_law 276 (3) 277 := Or.inl ⟨z_D DL_law_ok 41 rfl, rfl⟩
theorem eL_law_277 : z_at mL_law 277 (.iadd) 1 278 := ⟨z_D DL_law_ok 42 rfl, rfl⟩
theorem eL_law_278 : z_at mL_law 278 (.iaload) 1 279 := ⟨z_D DL_law_ok 43 rfl, rfl⟩
theorem eL_law_279 : z_ad mL_law 279 0 280 := Or.inl ⟨0, z_D DL_law_ok 44 rfl, rfl, rfl⟩
theorem eL_law_280 : z_ld mL_law 280 5 282 := Or.inr ⟨z_D DL_law_ok 45 rfl, rfl⟩
theorem eL_law_282 : z_co mL_law 282 (4) 283 := Or.inl ⟨z_D DL_law_ok 46 rfl, rfl⟩
theorem eL_law_283 : z_at mL_law 283 (.iadd) 1 284 := ⟨z_D DL_law_ok 47 rfl, rfl⟩
theorem eL_law_284 : z_at mL_law 284 (.iaload) 1 285 := ⟨z_D DL_law_ok 48 rfl, rfl⟩
theorem eL_law_285 : z_ad mL_law 285 0 286 := Or.inl ⟨0, z_D DL_law_ok 49 rfl, rfl, rfl⟩
theorem eL_law_286 : z_ld mL_law 286 5 288 := Or.inr ⟨z_D DL_law_ok 50 rfl, rfl⟩
theorem eL_law_288 : z_co mL_law 288 (5) 289 := Or.inl ⟨z_D DL_law_ok 51 rfl, rfl⟩
theorem eL_law_289 : z_at mL_law 289 (.iadd) 1 290 := ⟨z_D DL_law_ok 52 rfl, rfl⟩
theorem eL_law_290 : z_at mL_law 290 (.iaload) 1 291 := ⟨z_D DL_law_ok 53 rfl, rfl⟩
theorem eL_law_291 : z_ad mL_law 291 3 292 := Or.inl ⟨3, z_D DL_law_ok 54 rfl, rfl, rfl⟩
theorem eL_law_292 : z_at mL_law 292 (.invokestatic 146) 3 295 ∧ z_lk mL_law.1.cls 146 mL_append.1 ∧ z_mtH mL_append hL_append 7 ∧ Cond.static mL_append.1 ∈ lw_tbl := ⟨⟨z_D DL_law_ok 55 rfl, rfl⟩, Or.inl w2_210, tL_append, sL_append⟩
theorem eL_law_295 : z_sd mL_law 295 6 297 := ⟨Or.inr ⟨z_D DL_law_ok 56 rfl, rfl⟩, by decide⟩
theorem eL_law_297 : z_ad mL_law 297 2 298 := Or.inl ⟨2, z_D DL_law_ok 57 rfl, rfl, rfl⟩
theorem eL_law_298 : z_ad mL_law 298 0 299 := Or.inl ⟨0, z_D DL_law_ok 58 rfl, rfl, rfl⟩
theorem eL_law_299 : z_ld mL_law 299 5 301 := Or.inr ⟨z_D DL_law_ok 59 rfl, rfl⟩
theorem eL_law_301 : z_co mL_law 301 (1) 302 := Or.inl ⟨z_D DL_law_ok 60 rfl, rfl⟩
theorem eL_law_302 : z_at mL_law 302 (.iadd) 1 303 := ⟨z_D DL_law_ok 61 rfl, rfl⟩
theorem eL_law_303 : z_at mL_law 303 (.iaload) 1 304 := ⟨z_D DL_law_ok 62 rfl, rfl⟩
theorem eL_law_304 : z_ad mL_law 304 0 305 := Or.inl ⟨0, z_D DL_law_ok 63 rfl, rfl, rfl⟩
theorem eL_law_305 : z_ld mL_law 305 5 307 := Or.inr ⟨z_D DL_law_ok 64 rfl, rfl⟩
theorem eL_law_307 : z_co mL_law 307 (2) 308 := Or.inl ⟨z_D DL_law_ok 65 rfl, rfl⟩
theorem eL_law_308 : z_at mL_law 308 (.iadd) 1 309 := ⟨z_D DL_law_ok 66 rfl, rfl⟩
theorem eL_law_309 : z_at mL_law 309 (.iaload) 1 310 := ⟨z_D DL_law_ok 67 rfl, rfl⟩
theorem eL_law_310 : z_ad mL_law 310 0 311 := Or.inl ⟨0, z_D DL_law_ok 68 rfl, rfl, rfl⟩
theorem eL_law_311 : z_ld mL_law 311 5 313 := Or.inr ⟨z_D DL_law_ok 69 rfl, rfl⟩
theorem eL_law_313 : z_co mL_law 313 (3) 314 := Or.inl ⟨z_D DL_law_ok 70 rfl, rfl⟩
theorem eL_law_314 : z_at mL_law 314 (.iadd) 1 315 := ⟨z_D DL_law_ok 71 rfl, rfl⟩
theorem eL_law_315 : z_at mL_law 315 (.iaload) 1 316 := ⟨z_D DL_law_ok 72 rfl, rfl⟩
theorem eL_law_316 : z_ad mL_law 316 0 317 := Or.inl ⟨0, z_D DL_law_ok 73 rfl, rfl, rfl⟩
theorem eL_law_317 : z_ld mL_law 317 5 319 := Or.inr ⟨z_D DL_law_ok 74 rfl, rfl⟩
theorem eL_law_319 : z_co mL_law 319 (4) 320 := Or.inl ⟨z_D DL_law_ok 75 rfl, rfl⟩
theorem eL_law_320 : z_at mL_law 320 (.iadd) 1 321 := ⟨z_D DL_law_ok 76 rfl, rfl⟩
theorem eL_law_321 : z_at mL_law 321 (.iaload) 1 322 := ⟨z_D DL_law_ok 77 rfl, rfl⟩
theorem eL_law_322 : z_ad mL_law 322 0 323 := Or.inl ⟨0, z_D DL_law_ok 78 rfl, rfl, rfl⟩
theorem eL_law_323 : z_ld mL_law 323 5 325 := Or.inr ⟨z_D DL_law_ok 79 rfl, rfl⟩
theorem eL_law_325 : z_co mL_law 325 (5) 326 := Or.inl ⟨z_D DL_law_ok 80 rfl, rfl⟩
theorem eL_law_326 : z_at mL_law 326 (.iadd) 1 327 := ⟨z_D DL_law_ok 81 rfl, rfl⟩
theorem eL_law_327 : z_at mL_law 327 (.iaload) 1 328 := ⟨z_D DL_law_ok 82 rfl, rfl⟩
theorem eL_law_328 : z_at mL_law 328 (.invokevirtual 151) 3 331 ∧ z_lk mL_law.1.cls 151 mX8_append.1 ∧ z_mt mX8_append 5 ∧ z_mv mX8_append 8 := ⟨⟨z_D DL_law_ok 83 rfl, rfl⟩, Or.inl w7_81, tX8_append, vX8_append⟩
theorem eL_law_331 : z_sd mL_law 331 7 333 := ⟨Or.inr ⟨z_D DL_law_ok 84 rfl, rfl⟩, by decide⟩
theorem eL_law_333 : z_ad mL_law 333 2 334 := Or.inl ⟨2, z_D DL_law_ok 85 rfl, rfl, rfl⟩
theorem eL_law_334 : z_at mL_law 334 (.invokevirtual 152) 3 337 ∧ z_lk mL_law.1.cls 152 mX8_thrown.1 ∧ z_mt mX8_thrown 0 ∧ z_mv mX8_thrown 8 := ⟨⟨z_D DL_law_ok 86 rfl, rfl⟩, Or.inl w6_213, tX8_thrown, vX8_thrown⟩
theorem eL_law_337 : z_ld mL_law 337 6 339 := Or.inr ⟨z_D DL_law_ok 87 rfl, rfl⟩
theorem eL_law_339 : z_br mL_law 339 (.if_icmp .eq 5) (5) 342 344 := ⟨z_D DL_law_ok 88 rfl, rfl, by decide⟩
theorem eL_law_342 : z_co mL_law 342 (0) 343 := Or.inl ⟨z_D DL_law_ok 89 rfl, rfl⟩
theorem eL_law_343 : z_at mL_law 343 (.ireturn) 1 344 := ⟨z_D DL_law_ok 90 rfl, rfl⟩
theorem eL_law_344 : z_ld mL_law 344 6 346 := Or.inr ⟨z_D DL_law_ok 91 rfl, rfl⟩
theorem eL_law_346 : z_br mL_law 346 (.ifCond .ne 15) (15) 349 361 := ⟨z_D DL_law_ok 92 rfl, rfl, by decide⟩
theorem eL_law_349 : z_ad mL_law 349 3 350 := Or.inl ⟨3, z_D DL_law_ok 93 rfl, rfl, rfl⟩
theorem eL_law_350 : z_co mL_law 350 (0) 351 := Or.inl ⟨z_D DL_law_ok 94 rfl, rfl⟩
theorem eL_law_351 : z_at mL_law 351 (.laload) 1 352 := ⟨z_D DL_law_ok 95 rfl, rfl⟩
theorem eL_law_352 : z_ld mL_law 352 7 354 := Or.inr ⟨z_D DL_law_ok 96 rfl, rfl⟩
theorem eL_law_354 : z_at mL_law 354 (.i2l) 1 355 := ⟨z_D DL_law_ok 97 rfl, rfl⟩
theorem eL_law_355 : z_at mL_law 355 (.lcmp) 1 356 := ⟨z_D DL_law_ok 98 rfl, rfl⟩
theorem eL_law_356 : z_br mL_law 356 (.ifCond .eq 5) (5) 359 361 := ⟨z_D DL_law_ok 99 rfl, rfl, by decide⟩
theorem eL_law_359 : z_co mL_law 359 (0) 360 := Or.inl ⟨z_D DL_law_ok 100 rfl, rfl⟩
theorem eL_law_360 : z_at mL_law 360 (.ireturn) 1 361 := ⟨z_D DL_law_ok 101 rfl, rfl⟩
theorem eL_law_361 : z_br mL_law 361 (.goto 2620) (2620) 364 2981 := ⟨z_D DL_law_ok 102 rfl, rfl, by decide⟩
theorem eL_law_364 : z_ad mL_law 364 1 365 := Or.inl ⟨1, z_D DL_law_ok 103 rfl, rfl, rfl⟩
theorem eL_law_365 : z_at mL_law 365 (.invokevirtual 155) 3 368 ∧ z_lk mL_law.1.cls 155 mX7_clearTape.1 ∧ z_mt mX7_clearTape 0 ∧ z_mv mX7_clearTape 7 := ⟨⟨z_D DL_law_ok 104 rfl, rfl⟩, Or.inl w2_39, tX7_clearTape, vX7_clearTape⟩
theorem eL_law_368 : z_ad mL_law 368 2 369 := Or.inl ⟨2, z_D DL_law_ok 105 rfl, rfl, rfl⟩
theorem eL_law_369 : z_at mL_law 369 (.invokevirtual 158) 3 372 ∧ z_lk mL_law.1.cls 158 mX8_clearTape.1 ∧ z_mt mX8_clearTape 0 ∧ z_mv mX8_clearTape 8 := ⟨⟨z_D DL_law_ok 106 rfl, rfl⟩, Or.inl w7_96, tX8_clearTape, vX8_clearTape⟩
theorem eL_law_372 : z_br mL_law 372 (.if_icmp .eq 2609) (2609) 375 2981 := ⟨z_D DL_law_ok 107 rfl, rfl, by decide⟩
theorem eL_law_375 : z_co mL_law 375 (0) 376 := Or.inl ⟨z_D DL_law_ok 108 rfl, rfl⟩
theorem eL_law_376 : z_at mL_law 376 (.ireturn) 1 377 := ⟨z_D DL_law_ok 109 rfl, rfl⟩
theorem eL_law_377 : z_ad mL_law 377 1 378 := Or.inl ⟨1, z_D DL_law_ok 110 rfl, rfl, rfl⟩
theorem eL_law_378 : z_ad mL_law 378 3 379 := Or.inl ⟨3, z_D DL_law_ok 111 rfl, rfl, rfl⟩
theorem eL_law_379 : z_at mL_law 379 (.invokestatic 159) 3 382 ∧ z_lk mL_law.1.cls 159 mL_setOrder.1 ∧ z_mtH mL_setOrder hL_setOrder 2 ∧ Cond.static mL_setOrder.1 ∈ lw_tbl := ⟨⟨z_D DL_law_ok 112 rfl, rfl⟩, Or.inl w3_55, tL_setOrder, sL_setOrder⟩
theorem eL_law_382 : z_sd mL_law 382 6 384 := ⟨Or.inr ⟨z_D DL_law_ok 113 rfl, rfl⟩, by decide⟩
theorem eL_law_384 : z_ad mL_law 384 2 385 := Or.inl ⟨2, z_D DL_law_ok 114 rfl, rfl, rfl⟩
theorem eL_law_385 : z_at mL_law 385 (.invokevirtual 162) 3 388 ∧ z_lk mL_law.1.cls 162 mX8_setOrder.1 ∧ z_mt mX8_setOrder 0 ∧ z_mv mX8_setOrder 8 := ⟨⟨z_D DL_law_ok 115 rfl, rfl⟩, Or.inl w7_100, tX8_setOrder, vX8_setOrder⟩
theorem eL_law_388 : z_sd mL_law 388 7 390 := ⟨Or.inr ⟨z_D DL_law_ok 116 rfl, rfl⟩, by decide⟩
theorem eL_law_390 : z_ad mL_law 390 2 391 := Or.inl ⟨2, z_D DL_law_ok 117 rfl, rfl, rfl⟩
theorem eL_law_391 : z_at mL_law 391 (.invokevirtual 152) 3 394 ∧ z_lk mL_law.1.cls 152 mX8_thrown.1 ∧ z_mt mX8_thrown 0 ∧ z_mv mX8_thrown 8 := ⟨⟨z_D DL_law_ok 118 rfl, rfl⟩, Or.inl w6_213, tX8_thrown, vX8_thrown⟩
theorem eL_law_394 : z_ld mL_law 394 6 396 := Or.inr ⟨z_D DL_law_ok 119 rfl, rfl⟩
theorem eL_law_396 : z_br mL_law 396 (.if_icmp .eq 5) (5) 399 401 := ⟨z_D DL_law_ok 120 rfl, rfl, by decide⟩
theorem eL_law_399 : z_co mL_law 399 (0) 400 := Or.inl ⟨z_D DL_law_ok 121 rfl, rfl⟩
theorem eL_law_400 : z_at mL_law 400 (.ireturn) 1 401 := ⟨z_D DL_law_ok 122 rfl, rfl⟩
theorem eL_law_401 : z_ld mL_law 401 6 403 := Or.inr ⟨z_D DL_law_ok 123 rfl, rfl⟩
theorem eL_law_403 : z_br mL_law 403 (.ifCond .ne 15) (15) 406 418 := ⟨z_D DL_law_ok 124 rfl, rfl, by decide⟩
theorem eL_law_406 : z_ad mL_law 406 3 407 := Or.inl ⟨3, z_D DL_law_ok 125 rfl, rfl, rfl⟩
theorem eL_law_407 : z_co mL_law 407 (0) 408 := Or.inl ⟨z_D DL_law_ok 126 rfl, rfl⟩
theorem eL_law_408 : z_at mL_law 408 (.laload) 1 409 := ⟨z_D DL_law_ok 127 rfl, rfl⟩
theorem eL_law_409 : z_ld mL_law 409 7 411 := Or.inr ⟨z_D DL_law_ok 128 rfl, rfl⟩
theorem eL_law_411 : z_at mL_law 411 (.i2l) 1 412 := ⟨z_D DL_law_ok 129 rfl, rfl⟩
theorem eL_law_412 : z_at mL_law 412 (.lcmp) 1 413 := ⟨z_D DL_law_ok 130 rfl, rfl⟩
theorem eL_law_413 : z_br mL_law 413 (.ifCond .eq 5) (5) 416 418 := ⟨z_D DL_law_ok 131 rfl, rfl, by decide⟩
theorem eL_law_416 : z_co mL_law 416 (0) 417 := Or.inl ⟨z_D DL_law_ok 132 rfl, rfl⟩
theorem eL_law_417 : z_at mL_law 417 (.ireturn) 1 418 := ⟨z_D DL_law_ok 133 rfl, rfl⟩
theorem eL_law_418 : z_br mL_law 418 (.goto 2563) (2563) 421 2981 := ⟨z_D DL_law_ok 134 rfl, rfl, by decide⟩
theorem eL_law_421 : z_ad mL_law 421 1 422 := Or.inl ⟨1, z_D DL_law_ok 135 rfl, rfl, rfl⟩
theorem eL_law_422 : z_at mL_law 422 (.invokevirtual 163) 3 425 ∧ z_lk mL_law.1.cls 163 mX7_errorPosition.1 ∧ z_mt mX7_errorPosition 0 ∧ z_mv mX7_errorPosition 7 := ⟨⟨z_D DL_law_ok 136 rfl, rfl⟩, Or.inl w2_43, tX7_errorPosition, vX7_errorPosition⟩
theorem eL_law_425 : z_ad mL_law 425 2 426 := Or.inl ⟨2, z_D DL_law_ok 137 rfl, rfl, rfl⟩
theorem eL_law_426 : z_at mL_law 426 (.invokevirtual 166) 3 429 ∧ z_lk mL_law.1.cls 166 mX8_errorPosition.1 ∧ z_mt mX8_errorPosition 0 ∧ z_mv mX8_errorPosition 8 := ⟨⟨z_D DL_law_ok 138 rfl, rfl⟩, Or.inl w7_130, tX8_errorPosition, vX8_errorPosition⟩
theorem eL_law_429 : z_br mL_law 429 (.if_icmp .eq 2552) (2552) 432 2981 := ⟨z_D DL_law_ok 139 rfl, rfl, by decide⟩
theorem eL_law_432 : z_co mL_law 432 (0) 433 := Or.inl ⟨z_D DL_law_ok 140 rfl, rfl⟩
theorem eL_law_433 : z_at mL_law 433 (.ireturn) 1 434 := ⟨z_D DL_law_ok 141 rfl, rfl⟩
theorem eL_law_434 : z_ad mL_law 434 1 435 := Or.inl ⟨1, z_D DL_law_ok 142 rfl, rfl, rfl⟩
theorem eL_law_435 : z_ad mL_law 435 0 436 := Or.inl ⟨0, z_D DL_law_ok 143 rfl, rfl, rfl⟩
theorem eL_law_436 : z_ld mL_law 436 5 438 := Or.inr ⟨z_D DL_law_ok 144 rfl, rfl⟩
theorem eL_law_438 : z_co mL_law 438 (1) 439 := Or.inl ⟨z_D DL_law_ok 145 rfl, rfl⟩
theorem eL_law_439 : z_at mL_law 439 (.iadd) 1 440 := ⟨z_D DL_law_ok 146 rfl, rfl⟩
theorem eL_law_440 : z_at mL_law 440 (.iaload) 1 441 := ⟨z_D DL_law_ok 147 rfl, rfl⟩
theorem eL_law_441 : z_ad mL_law 441 0 442 := Or.inl ⟨0, z_D DL_law_ok 148 rfl, rfl, rfl⟩
theorem eL_law_442 : z_ld mL_law 442 5 444 := Or.inr ⟨z_D DL_law_ok 149 rfl, rfl⟩
theorem eL_law_444 : z_co mL_law 444 (2) 445 := Or.inl ⟨z_D DL_law_ok 150 rfl, rfl⟩
theorem eL_law_445 : z_at mL_law 445 (.iadd) 1 446 := ⟨z_D DL_law_ok 151 rfl, rfl⟩
theorem eL_law_446 : z_at mL_law 446 (.iaload) 1 447 := ⟨z_D DL_law_ok 152 rfl, rfl⟩
theorem eL_law_447 : z_ad mL_law 447 3 448 := Or.inl ⟨3, z_D DL_law_ok 153 rfl, rfl, rfl⟩
theorem eL_law_448 : z_at mL_law 448 (.invokestatic 167) 3 451 ∧ z_lk mL_law.1.cls 167 mL_criterion.1 ∧ z_mtH mL_criterion hL_criterion 4 ∧ Cond.static mL_criterion.1 ∈ lw_tbl := ⟨⟨z_D DL_law_ok 154 rfl, rfl⟩, Or.inl w4_216, tL_criterion, sL_criterion⟩
theorem eL_law_451 : z_sd mL_law 451 6 453 := ⟨Or.inr ⟨z_D DL_law_ok 155 rfl, rfl⟩, by decide⟩
theorem eL_law_453 : z_ad mL_law 453 2 454 := Or.inl ⟨2, z_D DL_law_ok 156 rfl, rfl, rfl⟩
theorem eL_law_454 : z_ad mL_law 454 0 455 := Or.inl ⟨0, z_D DL_law_ok 157 rfl, rfl, rfl⟩
theorem eL_law_455 : z_ld mL_law 455 5 457 := Or.inr ⟨z_D DL_law_ok 158 rfl, rfl⟩
theorem eL_law_457 : z_co mL_law 457 (1) 458 := Or.inl ⟨z_D DL_law_ok 159 rfl, rfl⟩
theorem eL_law_458 : z_at mL_law 458 (.iadd) 1 459 := ⟨z_D DL_law_ok 160 rfl, rfl⟩
theorem eL_law_459 : z_at mL_law 459 (.iaload) 1 460 := ⟨z_D DL_law_ok 161 rfl, rfl⟩
theorem eL_law_460 : z_ad mL_law 460 0 461 := Or.inl ⟨0, z_D DL_law_ok 162 rfl, rfl, rfl⟩
theorem eL_law_461 : z_ld mL_law 461 5 463 := Or.inr ⟨z_D DL_law_ok 163 rfl, rfl⟩
theorem eL_law_463 : z_co mL_law 463 (2) 464 := Or.inl ⟨z_D DL_law_ok 164 rfl, rfl⟩
theorem eL_law_464 : z_at mL_law 464 (.iadd) 1 465 := ⟨z_D DL_law_ok 165 rfl, rfl⟩
theorem eL_law_465 : z_at mL_law 465 (.iaload) 1 466 := ⟨z_D DL_law_ok 166 rfl, rfl⟩
theorem eL_law_466 : z_at mL_law 466 (.invokevirtual 170) 3 469 ∧ z_lk mL_law.1.cls 170 mX8_criterion.1 ∧ z_mt mX8_criterion 2 ∧ z_mv mX8_criterion 8 := ⟨⟨z_D DL_law_ok 167 rfl, rfl⟩, Or.inl w7_134, tX8_criterion, vX8_criterion⟩
theorem eL_law_469 : z_sd mL_law 469 7 471 := ⟨Or.inr ⟨z_D DL_law_ok 168 rfl, rfl⟩, by decide⟩
theorem eL_law_471 : z_ad mL_law 471 2 472 := Or.inl ⟨2, z_D DL_law_ok 169 rfl, rfl, rfl⟩
theorem eL_law_472 : z_at mL_law 472 (.invokevirtual 152) 3 475 ∧ z_lk mL_law.1.cls 152 mX8_thrown.1 ∧ z_mt mX8_thrown 0 ∧ z_mv mX8_thrown 8 := ⟨⟨z_D DL_law_ok 170 rfl, rfl⟩, Or.inl w6_213, tX8_thrown, vX8_thrown⟩
theorem eL_law_475 : z_ld mL_law 475 6 477 := Or.inr ⟨z_D DL_law_ok 171 rfl, rfl⟩
theorem eL_law_477 : z_br mL_law 477 (.if_icmp .eq 5) (5) 480 482 := ⟨z_D DL_law_ok 172 rfl, rfl, by decide⟩
theorem eL_law_480 : z_co mL_law 480 (0) 481 := Or.inl ⟨z_D DL_law_ok 173 rfl, rfl⟩
theorem eL_law_481 : z_at mL_law 481 (.ireturn) 1 482 := ⟨z_D DL_law_ok 174 rfl, rfl⟩
theorem eL_law_482 : z_ld mL_law 482 6 484 := Or.inr ⟨z_D DL_law_ok 175 rfl, rfl⟩
theorem eL_law_484 : z_br mL_law 484 (.ifCond .ne 15) (15) 487 499 := ⟨z_D DL_law_ok 176 rfl, rfl, by decide⟩
theorem eL_law_487 : z_ad mL_law 487 3 488 := Or.inl ⟨3, z_D DL_law_ok 177 rfl, rfl, rfl⟩
theorem eL_law_488 : z_co mL_law 488 (0) 489 := Or.inl ⟨z_D DL_law_ok 178 rfl, rfl⟩
theorem eL_law_489 : z_at mL_law 489 (.laload) 1 490 := ⟨z_D DL_law_ok 179 rfl, rfl⟩
theorem eL_law_490 : z_ld mL_law 490 7 492 := Or.inr ⟨z_D DL_law_ok 180 rfl, rfl⟩
theorem eL_law_492 : z_at mL_law 492 (.i2l) 1 493 := ⟨z_D DL_law_ok 181 rfl, rfl⟩
theorem eL_law_493 : z_at mL_law 493 (.lcmp) 1 494 := ⟨z_D DL_law_ok 182 rfl, rfl⟩
theorem eL_law_494 : z_br mL_law 494 (.ifCond .eq 5) (5) 497 499 := ⟨z_D DL_law_ok 183 rfl, rfl, by decide⟩
theorem eL_law_497 : z_co mL_law 497 (0) 498 := Or.inl ⟨z_D DL_law_ok 184 rfl, rfl⟩
theorem eL_law_498 : z_at mL_law 498 (.ireturn) 1 499 := ⟨z_D DL_law_ok 185 rfl, rfl⟩
theorem eL_law_499 : z_br mL_law 499 (.goto 2482) (2482) 502 2981 := ⟨z_D DL_law_ok 186 rfl, rfl, by decide⟩
theorem eL_law_502 : z_ad mL_law 502 1 503 := Or.inl ⟨1, z_D DL_law_ok 187 rfl, rfl, rfl⟩
theorem eL_law_503 : z_ad mL_law 503 0 504 := Or.inl ⟨0, z_D DL_law_ok 188 rfl, rfl, rfl⟩
theorem eL_law_504 : z_ld mL_law 504 5 506 := Or.inr ⟨z_D DL_law_ok 189 rfl, rfl⟩
theorem eL_law_506 : z_co mL_law 506 (1) 507 := Or.inl ⟨z_D DL_law_ok 190 rfl, rfl⟩
theorem eL_law_507 : z_at mL_law 507 (.iadd) 1 508 := ⟨z_D DL_law_ok 191 rfl, rfl⟩
theorem eL_law_508 : z_at mL_law 508 (.iaload) 1 509 := ⟨z_D DL_law_ok 192 rfl, rfl⟩
theorem eL_law_509 : z_ad mL_law 509 3 510 := Or.inl ⟨3, z_D DL_law_ok 193 rfl, rfl, rfl⟩
theorem eL_law_510 : z_at mL_law 510 (.invokestatic 171) 3 513 ∧ z_lk mL_law.1.cls 171 mL_come.1 ∧ z_mtH mL_come hL_come 3 ∧ Cond.static mL_come.1 ∈ lw_tbl := ⟨⟨z_D DL_law_ok 194 rfl, rfl⟩, Or.inl w4_233, tL_come, sL_come⟩
theorem eL_law_513 : z_sd mL_law 513 6 515 := ⟨Or.inr ⟨z_D DL_law_ok 195 rfl, rfl⟩, by decide⟩
theorem eL_law_515 : z_ad mL_law 515 2 516 := Or.inl ⟨2, z_D DL_law_ok 196 rfl, rfl, rfl⟩
theorem eL_law_516 : z_ad mL_law 516 0 517 := Or.inl ⟨0, z_D DL_law_ok 197 rfl, rfl, rfl⟩
theorem eL_law_517 : z_ld mL_law 517 5 519 := Or.inr ⟨z_D DL_law_ok 198 rfl, rfl⟩
theorem eL_law_519 : z_co mL_law 519 (1) 520 := Or.inl ⟨z_D DL_law_ok 199 rfl, rfl⟩
theorem eL_law_520 : z_at mL_law 520 (.iadd) 1 521 := ⟨z_D DL_law_ok 200 rfl, rfl⟩
theorem eL_law_521 : z_at mL_law 521 (.iaload) 1 522 := ⟨z_D DL_law_ok 201 rfl, rfl⟩
theorem eL_law_522 : z_at mL_law 522 (.invokevirtual 174) 3 525 ∧ z_lk mL_law.1.cls 174 mX8_come.1 ∧ z_mt mX8_come 1 ∧ z_mv mX8_come 8 := ⟨⟨z_D DL_law_ok 202 rfl, rfl⟩, Or.inl w7_146, tX8_come, vX8_come⟩
theorem eL_law_525 : z_sd mL_law 525 7 527 := ⟨Or.inr ⟨z_D DL_law_ok 203 rfl, rfl⟩, by decide⟩
theorem eL_law_527 : z_ad mL_law 527 2 528 := Or.inl ⟨2, z_D DL_law_ok 204 rfl, rfl, rfl⟩
theorem eL_law_528 : z_at mL_law 528 (.invokevirtual 152) 3 531 ∧ z_lk mL_law.1.cls 152 mX8_thrown.1 ∧ z_mt mX8_thrown 0 ∧ z_mv mX8_thrown 8 := ⟨⟨z_D DL_law_ok 205 rfl, rfl⟩, Or.inl w6_213, tX8_thrown, vX8_thrown⟩
theorem eL_law_531 : z_ld mL_law 531 6 533 := Or.inr ⟨z_D DL_law_ok 206 rfl, rfl⟩
theorem eL_law_533 : z_br mL_law 533 (.if_icmp .eq 5) (5) 536 538 := ⟨z_D DL_law_ok 207 rfl, rfl, by decide⟩
theorem eL_law_536 : z_co mL_law 536 (0) 537 := Or.inl ⟨z_D DL_law_ok 208 rfl, rfl⟩
theorem eL_law_537 : z_at mL_law 537 (.ireturn) 1 538 := ⟨z_D DL_law_ok 209 rfl, rfl⟩
theorem eL_law_538 : z_ld mL_law 538 6 540 := Or.inr ⟨z_D DL_law_ok 210 rfl, rfl⟩
theorem eL_law_540 : z_br mL_law 540 (.ifCond .ne 15) (15) 543 555 := ⟨z_D DL_law_ok 211 rfl, rfl, by decide⟩
theorem eL_law_543 : z_ad mL_law 543 3 544 := Or.inl ⟨3, z_D DL_law_ok 212 rfl, rfl, rfl⟩
theorem eL_law_544 : z_co mL_law 544 (0) 545 := Or.inl ⟨z_D DL_law_ok 213 rfl, rfl⟩
theorem eL_law_545 : z_at mL_law 545 (.laload) 1 546 := ⟨z_D DL_law_ok 214 rfl, rfl⟩
theorem eL_law_546 : z_ld mL_law 546 7 548 := Or.inr ⟨z_D DL_law_ok 215 rfl, rfl⟩
theorem eL_law_548 : z_at mL_law 548 (.i2l) 1 549 := ⟨z_D DL_law_ok 216 rfl, rfl⟩
theorem eL_law_549 : z_at mL_law 549 (.lcmp) 1 550 := ⟨z_D DL_law_ok 217 rfl, rfl⟩
theorem eL_law_550 : z_br mL_law 550 (.ifCond .eq 5) (5) 553 555 := ⟨z_D DL_law_ok 218 rfl, rfl, by decide⟩
theorem eL_law_553 : z_co mL_law 553 (0) 554 := Or.inl ⟨z_D DL_law_ok 219 rfl, rfl⟩
theorem eL_law_554 : z_at mL_law 554 (.ireturn) 1 555 := ⟨z_D DL_law_ok 220 rfl, rfl⟩
theorem eL_law_555 : z_br mL_law 555 (.goto 2426) (2426) 558 2981 := ⟨z_D DL_law_ok 221 rfl, rfl, by decide⟩
theorem eL_law_558 : z_ad mL_law 558 1 559 := Or.inl ⟨1, z_D DL_law_ok 222 rfl, rfl, rfl⟩
theorem eL_law_559 : z_ad mL_law 559 0 560 := Or.inl ⟨0, z_D DL_law_ok 223 rfl, rfl, rfl⟩
theorem eL_law_560 : z_ld mL_law 560 5 562 := Or.inr ⟨z_D DL_law_ok 224 rfl, rfl⟩
theorem eL_law_562 : z_co mL_law 562 (1) 563 := Or.inl ⟨z_D DL_law_ok 225 rfl, rfl⟩
theorem eL_law_563 : z_at mL_law 563 (.iadd) 1 564 := ⟨z_D DL_law_ok 226 rfl, rfl⟩
theorem eL_law_564 : z_at mL_law 564 (.iaload) 1 565 := ⟨z_D DL_law_ok 227 rfl, rfl⟩
theorem eL_law_565 : z_ad mL_law 565 3 566 := Or.inl ⟨3, z_D DL_law_ok 228 rfl, rfl, rfl⟩
theorem eL_law_566 : z_at mL_law 566 (.invokestatic 175) 3 569 ∧ z_lk mL_law.1.cls 175 mL_leave.1 ∧ z_mtH mL_leave hL_leave 3 ∧ Cond.static mL_leave.1 ∈ lw_tbl := ⟨⟨z_D DL_law_ok 229 rfl, rfl⟩, Or.inl w5_20, tL_leave, sL_leave⟩
theorem eL_law_569 : z_sd mL_law 569 6 571 := ⟨Or.inr ⟨z_D DL_law_ok 230 rfl, rfl⟩, by decide⟩
theorem eL_law_571 : z_ad mL_law 571 2 572 := Or.inl ⟨2, z_D DL_law_ok 231 rfl, rfl, rfl⟩
theorem eL_law_572 : z_ad mL_law 572 0 573 := Or.inl ⟨0, z_D DL_law_ok 232 rfl, rfl, rfl⟩
theorem eL_law_573 : z_ld mL_law 573 5 575 := Or.inr ⟨z_D DL_law_ok 233 rfl, rfl⟩
theorem eL_law_575 : z_co mL_law 575 (1) 576 := Or.inl ⟨z_D DL_law_ok 234 rfl, rfl⟩
theorem eL_law_576 : z_at mL_law 576 (.iadd) 1 577 := ⟨z_D DL_law_ok 235 rfl, rfl⟩
theorem eL_law_577 : z_at mL_law 577 (.iaload) 1 578 := ⟨z_D DL_law_ok 236 rfl, rfl⟩
theorem eL_law_578 : z_at mL_law 578 (.invokevirtual 177) 3 581 ∧ z_lk mL_law.1.cls 177 mX8_leave.1 ∧ z_mt mX8_leave 1 ∧ z_mv mX8_leave 8 := ⟨⟨z_D DL_law_ok 237 rfl, rfl⟩, Or.inl w7_154, tX8_leave, vX8_leave⟩
theorem eL_law_581 : z_sd mL_law 581 7 583 := ⟨Or.inr ⟨z_D DL_law_ok 238 rfl, rfl⟩, by decide⟩
theorem eL_law_583 : z_ad mL_law 583 2 584 := Or.inl ⟨2, z_D DL_law_ok 239 rfl, rfl, rfl⟩
theorem eL_law_584 : z_at mL_law 584 (.invokevirtual 152) 3 587 ∧ z_lk mL_law.1.cls 152 mX8_thrown.1 ∧ z_mt mX8_thrown 0 ∧ z_mv mX8_thrown 8 := ⟨⟨z_D DL_law_ok 240 rfl, rfl⟩, Or.inl w6_213, tX8_thrown, vX8_thrown⟩
theorem eL_law_587 : z_ld mL_law 587 6 589 := Or.inr ⟨z_D DL_law_ok 241 rfl, rfl⟩
theorem eL_law_589 : z_br mL_law 589 (.if_icmp .eq 5) (5) 592 594 := ⟨z_D DL_law_ok 242 rfl, rfl, by decide⟩
theorem eL_law_592 : z_co mL_law 592 (0) 593 := Or.inl ⟨z_D DL_law_ok 243 rfl, rfl⟩
theorem eL_law_593 : z_at mL_law 593 (.ireturn) 1 594 := ⟨z_D DL_law_ok 244 rfl, rfl⟩
theorem eL_law_594 : z_ld mL_law 594 6 596 := Or.inr ⟨z_D DL_law_ok 245 rfl, rfl⟩
theorem eL_law_596 : z_br mL_law 596 (.ifCond .ne 15) (15) 599 611 := ⟨z_D DL_law_ok 246 rfl, rfl, by decide⟩
theorem eL_law_599 : z_ad mL_law 599 3 600 := Or.inl ⟨3, z_D DL_law_ok 247 rfl, rfl, rfl⟩
theorem eL_law_600 : z_co mL_law 600 (0) 601 := Or.inl ⟨z_D DL_law_ok 248 rfl, rfl⟩
theorem eL_law_601 : z_at mL_law 601 (.laload) 1 602 := ⟨z_D DL_law_ok 249 rfl, rfl⟩
theorem eL_law_602 : z_ld mL_law 602 7 604 := Or.inr ⟨z_D DL_law_ok 250 rfl, rfl⟩
theorem eL_law_604 : z_at mL_law 604 (.i2l) 1 605 := ⟨z_D DL_law_ok 251 rfl, rfl⟩
theorem eL_law_605 : z_at mL_law 605 (.lcmp) 1 606 := ⟨z_D DL_law_ok 252 rfl, rfl⟩
theorem eL_law_606 : z_br mL_law 606 (.ifCond .eq 5) (5) 609 611 := ⟨z_D DL_law_ok 253 rfl, rfl, by decide⟩
theorem eL_law_609 : z_co mL_law 609 (0) 610 := Or.inl ⟨z_D DL_law_ok 254 rfl, rfl⟩
theorem eL_law_610 : z_at mL_law 610 (.ireturn) 1 611 := ⟨z_D DL_law_ok 255 rfl, rfl⟩
theorem eL_law_611 : z_br mL_law 611 (.goto 2370) (2370) 614 2981 := ⟨z_D DL_law_ok 256 rfl, rfl, by decide⟩
theorem eL_law_614 : z_ad mL_law 614 1 615 := Or.inl ⟨1, z_D DL_law_ok 257 rfl, rfl, rfl⟩
theorem eL_law_615 : z_ad mL_law 615 0 616 := Or.inl ⟨0, z_D DL_law_ok 258 rfl, rfl, rfl⟩
theorem eL_law_616 : z_ld mL_law 616 5 618 := Or.inr ⟨z_D DL_law_ok 259 rfl, rfl⟩
theorem eL_law_618 : z_co mL_law 618 (1) 619 := Or.inl ⟨z_D DL_law_ok 260 rfl, rfl⟩
theorem eL_law_619 : z_at mL_law 619 (.iadd) 1 620 := ⟨z_D DL_law_ok 261 rfl, rfl⟩
theorem eL_law_620 : z_at mL_law 620 (.iaload) 1 621 := ⟨z_D DL_law_ok 262 rfl, rfl⟩
theorem eL_law_621 : z_ad mL_law 621 0 622 := Or.inl ⟨0, z_D DL_law_ok 263 rfl, rfl, rfl⟩
theorem eL_law_622 : z_ld mL_law 622 5 624 := Or.inr ⟨z_D DL_law_ok 264 rfl, rfl⟩
theorem eL_law_624 : z_co mL_law 624 (2) 625 := Or.inl ⟨z_D DL_law_ok 265 rfl, rfl⟩
theorem eL_law_625 : z_at mL_law 625 (.iadd) 1 626 := ⟨z_D DL_law_ok 266 rfl, rfl⟩
theorem eL_law_626 : z_at mL_law 626 (.iaload) 1 627 := ⟨z_D DL_law_ok 267 rfl, rfl⟩
theorem eL_law_627 : z_ad mL_law 627 0 628 := Or.inl ⟨0, z_D DL_law_ok 268 rfl, rfl, rfl⟩
theorem eL_law_628 : z_ld mL_law 628 5 630 := Or.inr ⟨z_D DL_law_ok 269 rfl, rfl⟩
theorem eL_law_630 : z_co mL_law 630 (3) 631 := Or.inl ⟨z_D DL_law_ok 270 rfl, rfl⟩
theorem eL_law_631 : z_at mL_law 631 (.iadd) 1 632 := ⟨z_D DL_law_ok 271 rfl, rfl⟩
theorem eL_law_632 : z_at mL_law 632 (.iaload) 1 633 := ⟨z_D DL_law_ok 272 rfl, rfl⟩
theorem eL_law_633 : z_ad mL_law 633 3 634 := Or.inl ⟨3, z_D DL_law_ok 273 rfl, rfl, rfl⟩
theorem eL_law_634 : z_at mL_law 634 (.invokestatic 178) 3 637 ∧ z_lk mL_law.1.cls 178 mL_score.1 ∧ z_mtH mL_score hL_score 5 ∧ Cond.static mL_score.1 ∈ lw_tbl := ⟨⟨z_D DL_law_ok 274 rfl, rfl⟩, Or.inl w5_55, tL_score, sL_score⟩
theorem eL_law_637 : z_sd mL_law 637 6 639 := ⟨Or.inr ⟨z_D DL_law_ok 275 rfl, rfl⟩, by decide⟩
theorem eL_law_639 : z_ad mL_law 639 2 640 := Or.inl ⟨2, z_D DL_law_ok 276 rfl, rfl, rfl⟩
theorem eL_law_640 : z_ad mL_law 640 0 641 := Or.inl ⟨0, z_D DL_law_ok 277 rfl, rfl, rfl⟩
theorem eL_law_641 : z_ld mL_law 641 5 643 := Or.inr ⟨z_D DL_law_ok 278 rfl, rfl⟩
theorem eL_law_643 : z_co mL_law 643 (1) 644 := Or.inl ⟨z_D DL_law_ok 279 rfl, rfl⟩
theorem eL_law_644 : z_at mL_law 644 (.iadd) 1 645 := ⟨z_D DL_law_ok 280 rfl, rfl⟩
theorem eL_law_645 : z_at mL_law 645 (.iaload) 1 646 := ⟨z_D DL_law_ok 281 rfl, rfl⟩
theorem eL_law_646 : z_ad mL_law 646 0 647 := Or.inl ⟨0, z_D DL_law_ok 282 rfl, rfl, rfl⟩
theorem eL_law_647 : z_ld mL_law 647 5 649 := Or.inr ⟨z_D DL_law_ok 283 rfl, rfl⟩
theorem eL_law_649 : z_co mL_law 649 (2) 650 := Or.inl ⟨z_D DL_law_ok 284 rfl, rfl⟩
theorem eL_law_650 : z_at mL_law 650 (.iadd) 1 651 := ⟨z_D DL_law_ok 285 rfl, rfl⟩
theorem eL_law_651 : z_at mL_law 651 (.iaload) 1 652 := ⟨z_D DL_law_ok 286 rfl, rfl⟩
theorem eL_law_652 : z_ad mL_law 652 0 653 := Or.inl ⟨0, z_D DL_law_ok 287 rfl, rfl, rfl⟩
theorem eL_law_653 : z_ld mL_law 653 5 655 := Or.inr ⟨z_D DL_law_ok 288 rfl, rfl⟩
theorem eL_law_655 : z_co mL_law 655 (3) 656 := Or.inl ⟨z_D DL_law_ok 289 rfl, rfl⟩
theorem eL_law_656 : z_at mL_law 656 (.iadd) 1 657 := ⟨z_D DL_law_ok 290 rfl, rfl⟩
theorem eL_law_657 : z_at mL_law 657 (.iaload) 1 658 := ⟨z_D DL_law_ok 291 rfl, rfl⟩
theorem eL_law_658 : z_at mL_law 658 (.invokevirtual 181) 3 661 ∧ z_lk mL_law.1.cls 181 mX8_score.1 ∧ z_mt mX8_score 3 ∧ z_mv mX8_score 8 := ⟨⟨z_D DL_law_ok 292 rfl, rfl⟩, Or.inl w7_174, tX8_score, vX8_score⟩
theorem eL_law_661 : z_sd mL_law 661 7 663 := ⟨Or.inr ⟨z_D DL_law_ok 293 rfl, rfl⟩, by decide⟩
theorem eL_law_663 : z_ad mL_law 663 2 664 := Or.inl ⟨2, z_D DL_law_ok 294 rfl, rfl, rfl⟩
theorem eL_law_664 : z_at mL_law 664 (.invokevirtual 152) 3 667 ∧ z_lk mL_law.1.cls 152 mX8_thrown.1 ∧ z_mt mX8_thrown 0 ∧ z_mv mX8_thrown 8 := ⟨⟨z_D DL_law_ok 295 rfl, rfl⟩, Or.inl w6_213, tX8_thrown, vX8_thrown⟩
theorem eL_law_667 : z_ld mL_law 667 6 669 := Or.inr ⟨z_D DL_law_ok 296 rfl, rfl⟩
theorem eL_law_669 : z_br mL_law 669 (.if_icmp .eq 5) (5) 672 674 := ⟨z_D DL_law_ok 297 rfl, rfl, by decide⟩
theorem eL_law_672 : z_co mL_law 672 (0) 673 := Or.inl ⟨z_D DL_law_ok 298 rfl, rfl⟩
theorem eL_law_673 : z_at mL_law 673 (.ireturn) 1 674 := ⟨z_D DL_law_ok 299 rfl, rfl⟩
theorem eL_law_674 : z_ld mL_law 674 6 676 := Or.inr ⟨z_D DL_law_ok 300 rfl, rfl⟩
theorem eL_law_676 : z_br mL_law 676 (.ifCond .ne 15) (15) 679 691 := ⟨z_D DL_law_ok 301 rfl, rfl, by decide⟩
theorem eL_law_679 : z_ad mL_law 679 3 680 := Or.inl ⟨3, z_D DL_law_ok 302 rfl, rfl, rfl⟩
theorem eL_law_680 : z_co mL_law 680 (0) 681 := Or.inl ⟨z_D DL_law_ok 303 rfl, rfl⟩
theorem eL_law_681 : z_at mL_law 681 (.laload) 1 682 := ⟨z_D DL_law_ok 304 rfl, rfl⟩
theorem eL_law_682 : z_ld mL_law 682 7 684 := Or.inr ⟨z_D DL_law_ok 305 rfl, rfl⟩
theorem eL_law_684 : z_at mL_law 684 (.i2l) 1 685 := ⟨z_D DL_law_ok 306 rfl, rfl⟩
theorem eL_law_685 : z_at mL_law 685 (.lcmp) 1 686 := ⟨z_D DL_law_ok 307 rfl, rfl⟩
theorem eL_law_686 : z_br mL_law 686 (.ifCond .eq 5) (5) 689 691 := ⟨z_D DL_law_ok 308 rfl, rfl, by decide⟩
theorem eL_law_689 : z_co mL_law 689 (0) 690 := Or.inl ⟨z_D DL_law_ok 309 rfl, rfl⟩
theorem eL_law_690 : z_at mL_law 690 (.ireturn) 1 691 := ⟨z_D DL_law_ok 310 rfl, rfl⟩
theorem eL_law_691 : z_br mL_law 691 (.goto 2290) (2290) 694 2981 := ⟨z_D DL_law_ok 311 rfl, rfl, by decide⟩
theorem eL_law_694 : z_ad mL_law 694 1 695 := Or.inl ⟨1, z_D DL_law_ok 312 rfl, rfl, rfl⟩
theorem eL_law_695 : z_ad mL_law 695 0 696 := Or.inl ⟨0, z_D DL_law_ok 313 rfl, rfl, rfl⟩
theorem eL_law_696 : z_ld mL_law 696 5 698 := Or.inr ⟨z_D DL_law_ok 314 rfl, rfl⟩
theorem eL_law_698 : z_co mL_law 698 (1) 699 := Or.inl ⟨z_D DL_law_ok 315 rfl, rfl⟩
theorem eL_law_699 : z_at mL_law 699 (.iadd) 1 700 := ⟨z_D DL_law_ok 316 rfl, rfl⟩
theorem eL_law_700 : z_at mL_law 700 (.iaload) 1 701 := ⟨z_D DL_law_ok 317 rfl, rfl⟩
theorem eL_law_701 : z_ad mL_law 701 0 702 := Or.inl ⟨0, z_D DL_law_ok 318 rfl, rfl, rfl⟩
theorem eL_law_702 : z_ld mL_law 702 5 704 := Or.inr ⟨z_D DL_law_ok 319 rfl, rfl⟩
theorem eL_law_704 : z_co mL_law 704 (2) 705 := Or.inl ⟨z_D DL_law_ok 320 rfl, rfl⟩
theorem eL_law_705 : z_at mL_law 705 (.iadd) 1 706 := ⟨z_D DL_law_ok 321 rfl, rfl⟩
theorem eL_law_706 : z_at mL_law 706 (.iaload) 1 707 := ⟨z_D DL_law_ok 322 rfl, rfl⟩
theorem eL_law_707 : z_ad mL_law 707 0 708 := Or.inl ⟨0, z_D DL_law_ok 323 rfl, rfl, rfl⟩
theorem eL_law_708 : z_ld mL_law 708 5 710 := Or.inr ⟨z_D DL_law_ok 324 rfl, rfl⟩
theorem eL_law_710 : z_co mL_law 710 (3) 711 := Or.inl ⟨z_D DL_law_ok 325 rfl, rfl⟩
theorem eL_law_711 : z_at mL_law 711 (.iadd) 1 712 := ⟨z_D DL_law_ok 326 rfl, rfl⟩
theorem eL_law_712 : z_at mL_law 712 (.iaload) 1 713 := ⟨z_D DL_law_ok 327 rfl, rfl⟩
theorem eL_law_713 : z_ad mL_law 713 3 714 := Or.inl ⟨3, z_D DL_law_ok 328 rfl, rfl, rfl⟩
theorem eL_law_714 : z_at mL_law 714 (.invokestatic 182) 3 717 ∧ z_lk mL_law.1.cls 182 mL_setScore.1 ∧ z_mtH mL_setScore hL_setScore 5 ∧ Cond.static mL_setScore.1 ∈ lw_tbl := ⟨⟨z_D DL_law_ok 329 rfl, rfl⟩, Or.inl w5_82, tL_setScore, sL_setScore⟩
theorem eL_law_717 : z_sd mL_law 717 6 719 := ⟨Or.inr ⟨z_D DL_law_ok 330 rfl, rfl⟩, by decide⟩
theorem eL_law_719 : z_ad mL_law 719 2 720 := Or.inl ⟨2, z_D DL_law_ok 331 rfl, rfl, rfl⟩
theorem eL_law_720 : z_ad mL_law 720 0 721 := Or.inl ⟨0, z_D DL_law_ok 332 rfl, rfl, rfl⟩
theorem eL_law_721 : z_ld mL_law 721 5 723 := Or.inr ⟨z_D DL_law_ok 333 rfl, rfl⟩
theorem eL_law_723 : z_co mL_law 723 (1) 724 := Or.inl ⟨z_D DL_law_ok 334 rfl, rfl⟩
theorem eL_law_724 : z_at mL_law 724 (.iadd) 1 725 := ⟨z_D DL_law_ok 335 rfl, rfl⟩
theorem eL_law_725 : z_at mL_law 725 (.iaload) 1 726 := ⟨z_D DL_law_ok 336 rfl, rfl⟩
theorem eL_law_726 : z_ad mL_law 726 0 727 := Or.inl ⟨0, z_D DL_law_ok 337 rfl, rfl, rfl⟩
theorem eL_law_727 : z_ld mL_law 727 5 729 := Or.inr ⟨z_D DL_law_ok 338 rfl, rfl⟩
theorem eL_law_729 : z_co mL_law 729 (2) 730 := Or.inl ⟨z_D DL_law_ok 339 rfl, rfl⟩
theorem eL_law_730 : z_at mL_law 730 (.iadd) 1 731 := ⟨z_D DL_law_ok 340 rfl, rfl⟩
theorem eL_law_731 : z_at mL_law 731 (.iaload) 1 732 := ⟨z_D DL_law_ok 341 rfl, rfl⟩
theorem eL_law_732 : z_ad mL_law 732 0 733 := Or.inl ⟨0, z_D DL_law_ok 342 rfl, rfl, rfl⟩
theorem eL_law_733 : z_ld mL_law 733 5 735 := Or.inr ⟨z_D DL_law_ok 343 rfl, rfl⟩
theorem eL_law_735 : z_co mL_law 735 (3) 736 := Or.inl ⟨z_D DL_law_ok 344 rfl, rfl⟩
theorem eL_law_736 : z_at mL_law 736 (.iadd) 1 737 := ⟨z_D DL_law_ok 345 rfl, rfl⟩
theorem eL_law_737 : z_at mL_law 737 (.iaload) 1 738 := ⟨z_D DL_law_ok 346 rfl, rfl⟩
theorem eL_law_738 : z_at mL_law 738 (.invokevirtual 184) 3 741 ∧ z_lk mL_law.1.cls 184 mX8_setScore.1 ∧ z_mt mX8_setScore 3 ∧ z_mv mX8_setScore 8 := ⟨⟨z_D DL_law_ok 347 rfl, rfl⟩, Or.inl w7_191, tX8_setScore, vX8_setScore⟩
theorem eL_law_741 : z_sd mL_law 741 7 743 := ⟨Or.inr ⟨z_D DL_law_ok 348 rfl, rfl⟩, by decide⟩
theorem eL_law_743 : z_ad mL_law 743 2 744 := Or.inl ⟨2, z_D DL_law_ok 349 rfl, rfl, rfl⟩
theorem eL_law_744 : z_at mL_law 744 (.invokevirtual 152) 3 747 ∧ z_lk mL_law.1.cls 152 mX8_thrown.1 ∧ z_mt mX8_thrown 0 ∧ z_mv mX8_thrown 8 := ⟨⟨z_D DL_law_ok 350 rfl, rfl⟩, Or.inl w6_213, tX8_thrown, vX8_thrown⟩
theorem eL_law_747 : z_ld mL_law 747 6 749 := Or.inr ⟨z_D DL_law_ok 351 rfl, rfl⟩
theorem eL_law_749 : z_br mL_law 749 (.if_icmp .eq 5) (5) 752 754 := ⟨z_D DL_law_ok 352 rfl, rfl, by decide⟩
theorem eL_law_752 : z_co mL_law 752 (0) 753 := Or.inl ⟨z_D DL_law_ok 353 rfl, rfl⟩
theorem eL_law_753 : z_at mL_law 753 (.ireturn) 1 754 := ⟨z_D DL_law_ok 354 rfl, rfl⟩
theorem eL_law_754 : z_ld mL_law 754 6 756 := Or.inr ⟨z_D DL_law_ok 355 rfl, rfl⟩
theorem eL_law_756 : z_br mL_law 756 (.ifCond .ne 15) (15) 759 771 := ⟨z_D DL_law_ok 356 rfl, rfl, by decide⟩
theorem eL_law_759 : z_ad mL_law 759 3 760 := Or.inl ⟨3, z_D DL_law_ok 357 rfl, rfl, rfl⟩
theorem eL_law_760 : z_co mL_law 760 (0) 761 := Or.inl ⟨z_D DL_law_ok 358 rfl, rfl⟩
theorem eL_law_761 : z_at mL_law 761 (.laload) 1 762 := ⟨z_D DL_law_ok 359 rfl, rfl⟩
theorem eL_law_762 : z_ld mL_law 762 7 764 := Or.inr ⟨z_D DL_law_ok 360 rfl, rfl⟩
theorem eL_law_764 : z_at mL_law 764 (.i2l) 1 765 := ⟨z_D DL_law_ok 361 rfl, rfl⟩
theorem eL_law_765 : z_at mL_law 765 (.lcmp) 1 766 := ⟨z_D DL_law_ok 362 rfl, rfl⟩
theorem eL_law_766 : z_br mL_law 766 (.ifCond .eq 5) (5) 769 771 := ⟨z_D DL_law_ok 363 rfl, rfl, by decide⟩
theorem eL_law_769 : z_co mL_law 769 (0) 770 := Or.inl ⟨z_D DL_law_ok 364 rfl, rfl⟩
theorem eL_law_770 : z_at mL_law 770 (.ireturn) 1 771 := ⟨z_D DL_law_ok 365 rfl, rfl⟩
theorem eL_law_771 : z_br mL_law 771 (.goto 2210) (2210) 774 2981 := ⟨z_D DL_law_ok 366 rfl, rfl, by decide⟩
theorem eL_law_774 : z_ad mL_law 774 1 775 := Or.inl ⟨1, z_D DL_law_ok 367 rfl, rfl, rfl⟩
theorem eL_law_775 : z_ad mL_law 775 0 776 := Or.inl ⟨0, z_D DL_law_ok 368 rfl, rfl, rfl⟩
theorem eL_law_776 : z_ld mL_law 776 5 778 := Or.inr ⟨z_D DL_law_ok 369 rfl, rfl⟩
theorem eL_law_778 : z_co mL_law 778 (1) 779 := Or.inl ⟨z_D DL_law_ok 370 rfl, rfl⟩
theorem eL_law_779 : z_at mL_law 779 (.iadd) 1 780 := ⟨z_D DL_law_ok 371 rfl, rfl⟩
theorem eL_law_780 : z_at mL_law 780 (.iaload) 1 781 := ⟨z_D DL_law_ok 372 rfl, rfl⟩
theorem eL_law_781 : z_ad mL_law 781 0 782 := Or.inl ⟨0, z_D DL_law_ok 373 rfl, rfl, rfl⟩
theorem eL_law_782 : z_ld mL_law 782 5 784 := Or.inr ⟨z_D DL_law_ok 374 rfl, rfl⟩
theorem eL_law_784 : z_co mL_law 784 (2) 785 := Or.inl ⟨z_D DL_law_ok 375 rfl, rfl⟩
theorem eL_law_785 : z_at mL_law 785 (.iadd) 1 786 := ⟨z_D DL_law_ok 376 rfl, rfl⟩
theorem eL_law_786 : z_at mL_law 786 (.iaload) 1 787 := ⟨z_D DL_law_ok 377 rfl, rfl⟩
theorem eL_law_787 : z_ad mL_law 787 3 788 := Or.inl ⟨3, z_D DL_law_ok 378 rfl, rfl, rfl⟩
theorem eL_law_788 : z_at mL_law 788 (.invokestatic 185) 3 791 ∧ z_lk mL_law.1.cls 185 mL_scoreOf.1 ∧ z_mtH mL_scoreOf hL_scoreOf 4 ∧ Cond.static mL_scoreOf.1 ∈ lw_tbl := ⟨⟨z_D DL_law_ok 379 rfl, rfl⟩, Or.inl w5_89, tL_scoreOf, sL_scoreOf⟩
theorem eL_law_791 : z_sd mL_law 791 6 793 := ⟨Or.inr ⟨z_D DL_law_ok 380 rfl, rfl⟩, by decide⟩
theorem eL_law_793 : z_ad mL_law 793 2 794 := Or.inl ⟨2, z_D DL_law_ok 381 rfl, rfl, rfl⟩
theorem eL_law_794 : z_ad mL_law 794 0 795 := Or.inl ⟨0, z_D DL_law_ok 382 rfl, rfl, rfl⟩
theorem eL_law_795 : z_ld mL_law 795 5 797 := Or.inr ⟨z_D DL_law_ok 383 rfl, rfl⟩
theorem eL_law_797 : z_co mL_law 797 (1) 798 := Or.inl ⟨z_D DL_law_ok 384 rfl, rfl⟩
theorem eL_law_798 : z_at mL_law 798 (.iadd) 1 799 := ⟨z_D DL_law_ok 385 rfl, rfl⟩
theorem eL_law_799 : z_at mL_law 799 (.iaload) 1 800 := ⟨z_D DL_law_ok 386 rfl, rfl⟩
theorem eL_law_800 : z_ad mL_law 800 0 801 := Or.inl ⟨0, z_D DL_law_ok 387 rfl, rfl, rfl⟩
theorem eL_law_801 : z_ld mL_law 801 5 803 := Or.inr ⟨z_D DL_law_ok 388 rfl, rfl⟩
theorem eL_law_803 : z_co mL_law 803 (2) 804 := Or.inl ⟨z_D DL_law_ok 389 rfl, rfl⟩
theorem eL_law_804 : z_at mL_law 804 (.iadd) 1 805 := ⟨z_D DL_law_ok 390 rfl, rfl⟩
theorem eL_law_805 : z_at mL_law 805 (.iaload) 1 806 := ⟨z_D DL_law_ok 391 rfl, rfl⟩
theorem eL_law_806 : z_at mL_law 806 (.invokevirtual 187) 3 809 ∧ z_lk mL_law.1.cls 187 mX8_scoreOf.1 ∧ z_mt mX8_scoreOf 2 ∧ z_mv mX8_scoreOf 8 := ⟨⟨z_D DL_law_ok 392 rfl, rfl⟩, Or.inl w7_195, tX8_scoreOf, vX8_scoreOf⟩
theorem eL_law_809 : z_sd mL_law 809 7 811 := ⟨Or.inr ⟨z_D DL_law_ok 393 rfl, rfl⟩, by decide⟩
theorem eL_law_811 : z_ad mL_law 811 2 812 := Or.inl ⟨2, z_D DL_law_ok 394 rfl, rfl, rfl⟩
theorem eL_law_812 : z_at mL_law 812 (.invokevirtual 152) 3 815 ∧ z_lk mL_law.1.cls 152 mX8_thrown.1 ∧ z_mt mX8_thrown 0 ∧ z_mv mX8_thrown 8 := ⟨⟨z_D DL_law_ok 395 rfl, rfl⟩, Or.inl w6_213, tX8_thrown, vX8_thrown⟩
theorem eL_law_815 : z_ld mL_law 815 6 817 := Or.inr ⟨z_D DL_law_ok 396 rfl, rfl⟩
theorem eL_law_817 : z_br mL_law 817 (.if_icmp .eq 5) (5) 820 822 := ⟨z_D DL_law_ok 397 rfl, rfl, by decide⟩
theorem eL_law_820 : z_co mL_law 820 (0) 821 := Or.inl ⟨z_D DL_law_ok 398 rfl, rfl⟩
theorem eL_law_821 : z_at mL_law 821 (.ireturn) 1 822 := ⟨z_D DL_law_ok 399 rfl, rfl⟩
theorem eL_law_822 : z_ld mL_law 822 6 824 := Or.inr ⟨z_D DL_law_ok 400 rfl, rfl⟩
theorem eL_law_824 : z_br mL_law 824 (.ifCond .ne 15) (15) 827 839 := ⟨z_D DL_law_ok 401 rfl, rfl, by decide⟩
theorem eL_law_827 : z_ad mL_law 827 3 828 := Or.inl ⟨3, z_D DL_law_ok 402 rfl, rfl, rfl⟩
theorem eL_law_828 : z_co mL_law 828 (0) 829 := Or.inl ⟨z_D DL_law_ok 403 rfl, rfl⟩
theorem eL_law_829 : z_at mL_law 829 (.laload) 1 830 := ⟨z_D DL_law_ok 404 rfl, rfl⟩
theorem eL_law_830 : z_ld mL_law 830 7 832 := Or.inr ⟨z_D DL_law_ok 405 rfl, rfl⟩
theorem eL_law_832 : z_at mL_law 832 (.i2l) 1 833 := ⟨z_D DL_law_ok 406 rfl, rfl⟩
theorem eL_law_833 : z_at mL_law 833 (.lcmp) 1 834 := ⟨z_D DL_law_ok 407 rfl, rfl⟩
theorem eL_law_834 : z_br mL_law 834 (.ifCond .eq 5) (5) 837 839 := ⟨z_D DL_law_ok 408 rfl, rfl, by decide⟩
theorem eL_law_837 : z_co mL_law 837 (0) 838 := Or.inl ⟨z_D DL_law_ok 409 rfl, rfl⟩
theorem eL_law_838 : z_at mL_law 838 (.ireturn) 1 839 := ⟨z_D DL_law_ok 410 rfl, rfl⟩
theorem eL_law_839 : z_br mL_law 839 (.goto 2142) (2142) 842 2981 := ⟨z_D DL_law_ok 411 rfl, rfl, by decide⟩
theorem eL_law_842 : z_ad mL_law 842 1 843 := Or.inl ⟨1, z_D DL_law_ok 412 rfl, rfl, rfl⟩
theorem eL_law_843 : z_ad mL_law 843 0 844 := Or.inl ⟨0, z_D DL_law_ok 413 rfl, rfl, rfl⟩
theorem eL_law_844 : z_ld mL_law 844 5 846 := Or.inr ⟨z_D DL_law_ok 414 rfl, rfl⟩
theorem eL_law_846 : z_co mL_law 846 (1) 847 := Or.inl ⟨z_D DL_law_ok 415 rfl, rfl⟩
theorem eL_law_847 : z_at mL_law 847 (.iadd) 1 848 := ⟨z_D DL_law_ok 416 rfl, rfl⟩
theorem eL_law_848 : z_at mL_law 848 (.iaload) 1 849 := ⟨z_D DL_law_ok 417 rfl, rfl⟩
theorem eL_law_849 : z_ad mL_law 849 3 850 := Or.inl ⟨3, z_D DL_law_ok 418 rfl, rfl, rfl⟩
theorem eL_law_850 : z_at mL_law 850 (.invokestatic 188) 3 853 ∧ z_lk mL_law.1.cls 188 mL_groupOf.1 ∧ z_mtH mL_groupOf hL_groupOf 3 ∧ Cond.static mL_groupOf.1 ∈ lw_tbl := ⟨⟨z_D DL_law_ok 419 rfl, rfl⟩, Or.inl w5_96, tL_groupOf, sL_groupOf⟩
theorem eL_law_853 : z_sd mL_law 853 6 855 := ⟨Or.inr ⟨z_D DL_law_ok 420 rfl, rfl⟩, by decide⟩
theorem eL_law_855 : z_ad mL_law 855 2 856 := Or.inl ⟨2, z_D DL_law_ok 421 rfl, rfl, rfl⟩
theorem eL_law_856 : z_ad mL_law 856 0 857 := Or.inl ⟨0, z_D DL_law_ok 422 rfl, rfl, rfl⟩
theorem eL_law_857 : z_ld mL_law 857 5 859 := Or.inr ⟨z_D DL_law_ok 423 rfl, rfl⟩
theorem eL_law_859 : z_co mL_law 859 (1) 860 := Or.inl ⟨z_D DL_law_ok 424 rfl, rfl⟩
theorem eL_law_860 : z_at mL_law 860 (.iadd) 1 861 := ⟨z_D DL_law_ok 425 rfl, rfl⟩
theorem eL_law_861 : z_at mL_law 861 (.iaload) 1 862 := ⟨z_D DL_law_ok 426 rfl, rfl⟩
theorem eL_law_862 : z_at mL_law 862 (.invokevirtual 190) 3 865 ∧ z_lk mL_law.1.cls 190 mX8_groupOf.1 ∧ z_mt mX8_groupOf 1 ∧ z_mv mX8_groupOf 8 := ⟨⟨z_D DL_law_ok 427 rfl, rfl⟩, Or.inl w7_199, tX8_groupOf, vX8_groupOf⟩
theorem eL_law_865 : z_sd mL_law 865 7 867 := ⟨Or.inr ⟨z_D DL_law_ok 428 rfl, rfl⟩, by decide⟩
theorem eL_law_867 : z_ad mL_law 867 2 868 := Or.inl ⟨2, z_D DL_law_ok 429 rfl, rfl, rfl⟩
theorem eL_law_868 : z_at mL_law 868 (.invokevirtual 152) 3 871 ∧ z_lk mL_law.1.cls 152 mX8_thrown.1 ∧ z_mt mX8_thrown 0 ∧ z_mv mX8_thrown 8 := ⟨⟨z_D DL_law_ok 430 rfl, rfl⟩, Or.inl w6_213, tX8_thrown, vX8_thrown⟩
theorem eL_law_871 : z_ld mL_law 871 6 873 := Or.inr ⟨z_D DL_law_ok 431 rfl, rfl⟩
theorem eL_law_873 : z_br mL_law 873 (.if_icmp .eq 5) (5) 876 878 := ⟨z_D DL_law_ok 432 rfl, rfl, by decide⟩
theorem eL_law_876 : z_co mL_law 876 (0) 877 := Or.inl ⟨z_D DL_law_ok 433 rfl, rfl⟩
theorem eL_law_877 : z_at mL_law 877 (.ireturn) 1 878 := ⟨z_D DL_law_ok 434 rfl, rfl⟩
theorem eL_law_878 : z_ld mL_law 878 6 880 := Or.inr ⟨z_D DL_law_ok 435 rfl, rfl⟩
theorem eL_law_880 : z_br mL_law 880 (.ifCond .ne 15) (15) 883 895 := ⟨z_D DL_law_ok 436 rfl, rfl, by decide⟩
theorem eL_law_883 : z_ad mL_law 883 3 884 := Or.inl ⟨3, z_D DL_law_ok 437 rfl, rfl, rfl⟩
theorem eL_law_884 : z_co mL_law 884 (0) 885 := Or.inl ⟨z_D DL_law_ok 438 rfl, rfl⟩
theorem eL_law_885 : z_at mL_law 885 (.laload) 1 886 := ⟨z_D DL_law_ok 439 rfl, rfl⟩
theorem eL_law_886 : z_ld mL_law 886 7 888 := Or.inr ⟨z_D DL_law_ok 440 rfl, rfl⟩
theorem eL_law_888 : z_at mL_law 888 (.i2l) 1 889 := ⟨z_D DL_law_ok 441 rfl, rfl⟩
theorem eL_law_889 : z_at mL_law 889 (.lcmp) 1 890 := ⟨z_D DL_law_ok 442 rfl, rfl⟩
theorem eL_law_890 : z_br mL_law 890 (.ifCond .eq 5) (5) 893 895 := ⟨z_D DL_law_ok 443 rfl, rfl, by decide⟩
theorem eL_law_893 : z_co mL_law 893 (0) 894 := Or.inl ⟨z_D DL_law_ok 444 rfl, rfl⟩
theorem eL_law_894 : z_at mL_law 894 (.ireturn) 1 895 := ⟨z_D DL_law_ok 445 rfl, rfl⟩
theorem eL_law_895 : z_br mL_law 895 (.goto 2086) (2086) 898 2981 := ⟨z_D DL_law_ok 446 rfl, rfl, by decide⟩
theorem eL_law_898 : z_ad mL_law 898 1 899 := Or.inl ⟨1, z_D DL_law_ok 447 rfl, rfl, rfl⟩
theorem eL_law_899 : z_at mL_law 899 (.invokevirtual 191) 3 902 ∧ z_lk mL_law.1.cls 191 mX7_entrants.1 ∧ z_mt mX7_entrants 0 ∧ z_mv mX7_entrants 7 := ⟨⟨z_D DL_law_ok 448 rfl, rfl⟩, Or.inl w2_47, tX7_entrants, vX7_entrants⟩
theorem eL_law_902 : z_ad mL_law 902 2 903 := Or.inl ⟨2, z_D DL_law_ok 449 rfl, rfl, rfl⟩
theorem eL_law_903 : z_at mL_law 903 (.invokevirtual 194) 3 906 ∧ z_lk mL_law.1.cls 194 mX8_entrants.1 ∧ z_mt mX8_entrants 0 ∧ z_mv mX8_entrants 8 := ⟨⟨z_D DL_law_ok 450 rfl, rfl⟩, Or.inl w7_203, tX8_entrants, vX8_entrants⟩
theorem eL_law_906 : z_br mL_law 906 (.if_icmp .eq 2075) (2075) 909 2981 := ⟨z_D DL_law_ok 451 rfl, rfl, by decide⟩
theorem eL_law_909 : z_co mL_law 909 (0) 910 := Or.inl ⟨z_D DL_law_ok 452 rfl, rfl⟩
theorem eL_law_910 : z_at mL_law 910 (.ireturn) 1 911 := ⟨z_D DL_law_ok 453 rfl, rfl⟩
theorem eL_law_911 : z_ad mL_law 911 1 912 := Or.inl ⟨1, z_D DL_law_ok 454 rfl, rfl, rfl⟩
theorem eL_law_912 : z_ad mL_law 912 0 913 := Or.inl ⟨0, z_D DL_law_ok 455 rfl, rfl, rfl⟩
theorem eL_law_913 : z_ld mL_law 913 5 915 := Or.inr ⟨z_D DL_law_ok 456 rfl, rfl⟩
theorem eL_law_915 : z_co mL_law 915 (1) 916 := Or.inl ⟨z_D DL_law_ok 457 rfl, rfl⟩
theorem eL_law_916 : z_at mL_law 916 (.iadd) 1 917 := ⟨z_D DL_law_ok 458 rfl, rfl⟩
theorem eL_law_917 : z_at mL_law 917 (.iaload) 1 918 := ⟨z_D DL_law_ok 459 rfl, rfl⟩
theorem eL_law_918 : z_ad mL_law 918 3 919 := Or.inl ⟨3, z_D DL_law_ok 460 rfl, rfl, rfl⟩
theorem eL_law_919 : z_at mL_law 919 (.invokestatic 195) 3 922 ∧ z_lk mL_law.1.cls 195 mL_at.1 ∧ z_mtH mL_at hL_at 3 ∧ Cond.static mL_at.1 ∈ lw_tbl := ⟨⟨z_D DL_law_ok 461 rfl, rfl⟩, Or.inl w5_103, tL_at, sL_at⟩
theorem eL_law_922 : z_sd mL_law 922 6 924 := ⟨Or.inr ⟨z_D DL_law_ok 462 rfl, rfl⟩, by decide⟩
theorem eL_law_924 : z_ad mL_law 924 2 925 := Or.inl ⟨2, z_D DL_law_ok 463 rfl, rfl, rfl⟩
theorem eL_law_925 : z_ad mL_law 925 0 926 := Or.inl ⟨0, z_D DL_law_ok 464 rfl, rfl, rfl⟩
theorem eL_law_926 : z_ld mL_law 926 5 928 := Or.inr ⟨z_D DL_law_ok 465 rfl, rfl⟩
theorem eL_law_928 : z_co mL_law 928 (1) 929 := Or.inl ⟨z_D DL_law_ok 466 rfl, rfl⟩
theorem eL_law_929 : z_at mL_law 929 (.iadd) 1 930 := ⟨z_D DL_law_ok 467 rfl, rfl⟩
theorem eL_law_930 : z_at mL_law 930 (.iaload) 1 931 := ⟨z_D DL_law_ok 468 rfl, rfl⟩
theorem eL_law_931 : z_at mL_law 931 (.invokevirtual 197) 3 934 ∧ z_lk mL_law.1.cls 197 mX8_at.1 ∧ z_mt mX8_at 1 ∧ z_mv mX8_at 8 := ⟨⟨z_D DL_law_ok 469 rfl, rfl⟩, Or.inl w7_211, tX8_at, vX8_at⟩
theorem eL_law_934 : z_sd mL_law 934 7 936 := ⟨Or.inr ⟨z_D DL_law_ok 470 rfl, rfl⟩, by decide⟩
theorem eL_law_936 : z_ad mL_law 936 2 937 := Or.inl ⟨2, z_D DL_law_ok 471 rfl, rfl, rfl⟩
theorem eL_law_937 : z_at mL_law 937 (.invokevirtual 152) 3 940 ∧ z_lk mL_law.1.cls 152 mX8_thrown.1 ∧ z_mt mX8_thrown 0 ∧ z_mv mX8_thrown 8 := ⟨⟨z_D DL_law_ok 472 rfl, rfl⟩, Or.inl w6_213, tX8_thrown, vX8_thrown⟩
theorem eL_law_940 : z_ld mL_law 940 6 942 := Or.inr ⟨z_D DL_law_ok 473 rfl, rfl⟩
theorem eL_law_942 : z_br mL_law 942 (.if_icmp .eq 5) (5) 945 947 := ⟨z_D DL_law_ok 474 rfl, rfl, by decide⟩
theorem eL_law_945 : z_co mL_law 945 (0) 946 := Or.inl ⟨z_D DL_law_ok 475 rfl, rfl⟩
theorem eL_law_946 : z_at mL_law 946 (.ireturn) 1 947 := ⟨z_D DL_law_ok 476 rfl, rfl⟩
theorem eL_law_947 : z_ld mL_law 947 6 949 := Or.inr ⟨z_D DL_law_ok 477 rfl, rfl⟩
theorem eL_law_949 : z_br mL_law 949 (.ifCond .ne 15) (15) 952 964 := ⟨z_D DL_law_ok 478 rfl, rfl, by decide⟩
theorem eL_law_952 : z_ad mL_law 952 3 953 := Or.inl ⟨3, z_D DL_law_ok 479 rfl, rfl, rfl⟩
theorem eL_law_953 : z_co mL_law 953 (0) 954 := Or.inl ⟨z_D DL_law_ok 480 rfl, rfl⟩
theorem eL_law_954 : z_at mL_law 954 (.laload) 1 955 := ⟨z_D DL_law_ok 481 rfl, rfl⟩
theorem eL_law_955 : z_ld mL_law 955 7 957 := Or.inr ⟨z_D DL_law_ok 482 rfl, rfl⟩
theorem eL_law_957 : z_at mL_law 957 (.i2l) 1 958 := ⟨z_D DL_law_ok 483 rfl, rfl⟩
theorem eL_law_958 : z_at mL_law 958 (.lcmp) 1 959 := ⟨z_D DL_law_ok 484 rfl, rfl⟩
theorem eL_law_959 : z_br mL_law 959 (.ifCond .eq 5) (5) 962 964 := ⟨z_D DL_law_ok 485 rfl, rfl, by decide⟩
theorem eL_law_962 : z_co mL_law 962 (0) 963 := Or.inl ⟨z_D DL_law_ok 486 rfl, rfl⟩
theorem eL_law_963 : z_at mL_law 963 (.ireturn) 1 964 := ⟨z_D DL_law_ok 487 rfl, rfl⟩
theorem eL_law_964 : z_br mL_law 964 (.goto 2017) (2017) 967 2981 := ⟨z_D DL_law_ok 488 rfl, rfl, by decide⟩
theorem eL_law_967 : z_ad mL_law 967 1 968 := Or.inl ⟨1, z_D DL_law_ok 489 rfl, rfl, rfl⟩
theorem eL_law_968 : z_ad mL_law 968 0 969 := Or.inl ⟨0, z_D DL_law_ok 490 rfl, rfl, rfl⟩
theorem eL_law_969 : z_ld mL_law 969 5 971 := Or.inr ⟨z_D DL_law_ok 491 rfl, rfl⟩
theorem eL_law_971 : z_co mL_law 971 (1) 972 := Or.inl ⟨z_D DL_law_ok 492 rfl, rfl⟩
theorem eL_law_972 : z_at mL_law 972 (.iadd) 1 973 := ⟨z_D DL_law_ok 493 rfl, rfl⟩
theorem eL_law_973 : z_at mL_law 973 (.iaload) 1 974 := ⟨z_D DL_law_ok 494 rfl, rfl⟩
theorem eL_law_974 : z_ad mL_law 974 3 975 := Or.inl ⟨3, z_D DL_law_ok 495 rfl, rfl, rfl⟩
theorem eL_law_975 : z_at mL_law 975 (.invokestatic 198) 3 978 ∧ z_lk mL_law.1.cls 198 mL_place.1 ∧ z_mtH mL_place hL_place 3 ∧ Cond.static mL_place.1 ∈ lw_tbl := ⟨⟨z_D DL_law_ok 496 rfl, rfl⟩, Or.inl w5_111, tL_place, sL_place⟩
theorem eL_law_978 : z_sd mL_law 978 6 980 := ⟨Or.inr ⟨z_D DL_law_ok 497 rfl, rfl⟩, by decide⟩
theorem eL_law_980 : z_ad mL_law 980 2 981 := Or.inl ⟨2, z_D DL_law_ok 498 rfl, rfl, rfl⟩
theorem eL_law_981 : z_ad mL_law 981 0 982 := Or.inl ⟨0, z_D DL_law_ok 499 rfl, rfl, rfl⟩
theorem eL_law_982 : z_ld mL_law 982 5 984 := Or.inr ⟨z_D DL_law_ok 500 rfl, rfl⟩
theorem eL_law_984 : z_co mL_law 984 (1) 985 := Or.inl ⟨z_D DL_law_ok 501 rfl, rfl⟩
theorem eL_law_985 : z_at mL_law 985 (.iadd) 1 986 := ⟨z_D DL_law_ok 502 rfl, rfl⟩
theorem eL_law_986 : z_at mL_law 986 (.iaload) 1 987 := ⟨z_D DL_law_ok 503 rfl, rfl⟩
theorem eL_law_987 : z_at mL_law 987 (.invokevirtual 200) 3 990 ∧ z_lk mL_law.1.cls 200 mX8_place.1 ∧ z_mt mX8_place 1 ∧ z_mv mX8_place 8 := ⟨⟨z_D DL_law_ok 504 rfl, rfl⟩, Or.inl w7_219, tX8_place, vX8_place⟩
theorem eL_law_990 : z_sd mL_law 990 7 992 := ⟨Or.inr ⟨z_D DL_law_ok 505 rfl, rfl⟩, by decide⟩
theorem eL_law_992 : z_ad mL_law 992 2 993 := Or.inl ⟨2, z_D DL_law_ok 506 rfl, rfl, rfl⟩
theorem eL_law_993 : z_at mL_law 993 (.invokevirtual 152) 3 996 ∧ z_lk mL_law.1.cls 152 mX8_thrown.1 ∧ z_mt mX8_thrown 0 ∧ z_mv mX8_thrown 8 := ⟨⟨z_D DL_law_ok 507 rfl, rfl⟩, Or.inl w6_213, tX8_thrown, vX8_thrown⟩
theorem eL_law_996 : z_ld mL_law 996 6 998 := Or.inr ⟨z_D DL_law_ok 508 rfl, rfl⟩
theorem eL_law_998 : z_br mL_law 998 (.if_icmp .eq 5) (5) 1001 1003 := ⟨z_D DL_law_ok 509 rfl, rfl, by decide⟩
theorem eL_law_1001 : z_co mL_law 1001 (0) 1002 := Or.inl ⟨z_D DL_law_ok 510 rfl, rfl⟩
theorem eL_law_1002 : z_at mL_law 1002 (.ireturn) 1 1003 := ⟨z_D DL_law_ok 511 rfl, rfl⟩
theorem eL_law_1003 : z_ld mL_law 1003 6 1005 := Or.inr ⟨z_D DL_law_ok 512 rfl, rfl⟩
theorem eL_law_1005 : z_br mL_law 1005 (.ifCond .ne 15) (15) 1008 1020 := ⟨z_D DL_law_ok 513 rfl, rfl, by decide⟩
theorem eL_law_1008 : z_ad mL_law 1008 3 1009 := Or.inl ⟨3, z_D DL_law_ok 514 rfl, rfl, rfl⟩
theorem eL_law_1009 : z_co mL_law 1009 (0) 1010 := Or.inl ⟨z_D DL_law_ok 515 rfl, rfl⟩
theorem eL_law_1010 : z_at mL_law 1010 (.laload) 1 1011 := ⟨z_D DL_law_ok 516 rfl, rfl⟩
theorem eL_law_1011 : z_ld mL_law 1011 7 1013 := Or.inr ⟨z_D DL_law_ok 517 rfl, rfl⟩
theorem eL_law_1013 : z_at mL_law 1013 (.i2l) 1 1014 := ⟨z_D DL_law_ok 518 rfl, rfl⟩
theorem eL_law_1014 : z_at mL_law 1014 (.lcmp) 1 1015 := ⟨z_D DL_law_ok 519 rfl, rfl⟩
theorem eL_law_1015 : z_br mL_law 1015 (.ifCond .eq 5) (5) 1018 1020 := ⟨z_D DL_law_ok 520 rfl, rfl, by decide⟩
theorem eL_law_1018 : z_co mL_law 1018 (0) 1019 := Or.inl ⟨z_D DL_law_ok 521 rfl, rfl⟩
theorem eL_law_1019 : z_at mL_law 1019 (.ireturn) 1 1020 := ⟨z_D DL_law_ok 522 rfl, rfl⟩
theorem eL_law_1020 : z_br mL_law 1020 (.goto 1961) (1961) 1023 2981 := ⟨z_D DL_law_ok 523 rfl, rfl, by decide⟩
theorem eL_law_1023 : z_ad mL_law 1023 1 1024 := Or.inl ⟨1, z_D DL_law_ok 524 rfl, rfl, rfl⟩
theorem eL_law_1024 : z_ad mL_law 1024 0 1025 := Or.inl ⟨0, z_D DL_law_ok 525 rfl, rfl, rfl⟩
theorem eL_law_1025 : z_ld mL_law 1025 5 1027 := Or.inr ⟨z_D DL_law_ok 526 rfl, rfl⟩
theorem eL_law_1027 : z_co mL_law 1027 (1) 1028 := Or.inl ⟨z_D DL_law_ok 527 rfl, rfl⟩
theorem eL_law_1028 : z_at mL_law 1028 (.iadd) 1 1029 := ⟨z_D DL_law_ok 528 rfl, rfl⟩
theorem eL_law_1029 : z_at mL_law 1029 (.iaload) 1 1030 := ⟨z_D DL_law_ok 529 rfl, rfl⟩
theorem eL_law_1030 : z_ad mL_law 1030 0 1031 := Or.inl ⟨0, z_D DL_law_ok 530 rfl, rfl, rfl⟩
theorem eL_law_1031 : z_ld mL_law 1031 5 1033 := Or.inr ⟨z_D DL_law_ok 531 rfl, rfl⟩
theorem eL_law_1033 : z_co mL_law 1033 (2) 1034 := Or.inl ⟨z_D DL_law_ok 532 rfl, rfl⟩
theorem eL_law_1034 : z_at mL_law 1034 (.iadd) 1 1035 := ⟨z_D DL_law_ok 533 rfl, rfl⟩
theorem eL_law_1035 : z_at mL_law 1035 (.iaload) 1 1036 := ⟨z_D DL_law_ok 534 rfl, rfl⟩
theorem eL_law_1036 : z_ad mL_law 1036 3 1037 := Or.inl ⟨3, z_D DL_law_ok 535 rfl, rfl, rfl⟩
theorem eL_law_1037 : z_at mL_law 1037 (.invokestatic 201) 3 1040 ∧ z_lk mL_law.1.cls 201 mL_rank.1 ∧ z_mtH mL_rank hL_rank 4 ∧ Cond.static mL_rank.1 ∈ lw_tbl := ⟨⟨z_D DL_law_ok 536 rfl, rfl⟩, Or.inl w5_118, tL_rank, sL_rank⟩
theorem eL_law_1040 : z_sd mL_law 1040 6 1042 := ⟨Or.inr ⟨z_D DL_law_ok 537 rfl, rfl⟩, by decide⟩
theorem eL_law_1042 : z_ad mL_law 1042 2 1043 := Or.inl ⟨2, z_D DL_law_ok 538 rfl, rfl, rfl⟩
theorem eL_law_1043 : z_ad mL_law 1043 0 1044 := Or.inl ⟨0, z_D DL_law_ok 539 rfl, rfl, rfl⟩
theorem eL_law_1044 : z_ld mL_law 1044 5 1046 := Or.inr ⟨z_D DL_law_ok 540 rfl, rfl⟩
theorem eL_law_1046 : z_co mL_law 1046 (1) 1047 := Or.inl ⟨z_D DL_law_ok 541 rfl, rfl⟩
theorem eL_law_1047 : z_at mL_law 1047 (.iadd) 1 1048 := ⟨z_D DL_law_ok 542 rfl, rfl⟩
theorem eL_law_1048 : z_at mL_law 1048 (.iaload) 1 1049 := ⟨z_D DL_law_ok 543 rfl, rfl⟩
theorem eL_law_1049 : z_ad mL_law 1049 0 1050 := Or.inl ⟨0, z_D DL_law_ok 544 rfl, rfl, rfl⟩
theorem eL_law_1050 : z_ld mL_law 1050 5 1052 := Or.inr ⟨z_D DL_law_ok 545 rfl, rfl⟩
theorem eL_law_1052 : z_co mL_law 1052 (2) 1053 := Or.inl ⟨z_D DL_law_ok 546 rfl, rfl⟩
theorem eL_law_1053 : z_at mL_law 1053 (.iadd) 1 1054 := ⟨z_D DL_law_ok 547 rfl, rfl⟩
theorem eL_law_1054 : z_at mL_law 1054 (.iaload) 1 1055 := ⟨z_D DL_law_ok 548 rfl, rfl⟩
theorem eL_law_1055 : z_at mL_law 1055 (.invokevirtual 203) 3 1058 ∧ z_lk mL_law.1.cls 203 mX8_rank.1 ∧ z_mt mX8_rank 2 ∧ z_mv mX8_rank 8 := ⟨⟨z_D DL_law_ok 549 rfl, rfl⟩, Or.inl w7_223, tX8_rank, vX8_rank⟩
theorem eL_law_1058 : z_sd mL_law 1058 7 1060 := ⟨Or.inr ⟨z_D DL_law_ok 550 rfl, rfl⟩, by decide⟩
theorem eL_law_1060 : z_ad mL_law 1060 2 1061 := Or.inl ⟨2, z_D DL_law_ok 551 rfl, rfl, rfl⟩
theorem eL_law_1061 : z_at mL_law 1061 (.invokevirtual 152) 3 1064 ∧ z_lk mL_law.1.cls 152 mX8_thrown.1 ∧ z_mt mX8_thrown 0 ∧ z_mv mX8_thrown 8 := ⟨⟨z_D DL_law_ok 552 rfl, rfl⟩, Or.inl w6_213, tX8_thrown, vX8_thrown⟩
theorem eL_law_1064 : z_ld mL_law 1064 6 1066 := Or.inr ⟨z_D DL_law_ok 553 rfl, rfl⟩
theorem eL_law_1066 : z_br mL_law 1066 (.if_icmp .eq 5) (5) 1069 1071 := ⟨z_D DL_law_ok 554 rfl, rfl, by decide⟩
theorem eL_law_1069 : z_co mL_law 1069 (0) 1070 := Or.inl ⟨z_D DL_law_ok 555 rfl, rfl⟩
theorem eL_law_1070 : z_at mL_law 1070 (.ireturn) 1 1071 := ⟨z_D DL_law_ok 556 rfl, rfl⟩
theorem eL_law_1071 : z_ld mL_law 1071 6 1073 := Or.inr ⟨z_D DL_law_ok 557 rfl, rfl⟩
theorem eL_law_1073 : z_br mL_law 1073 (.ifCond .ne 15) (15) 1076 1088 := ⟨z_D DL_law_ok 558 rfl, rfl, by decide⟩
theorem eL_law_1076 : z_ad mL_law 1076 3 1077 := Or.inl ⟨3, z_D DL_law_ok 559 rfl, rfl, rfl⟩
theorem eL_law_1077 : z_co mL_law 1077 (0) 1078 := Or.inl ⟨z_D DL_law_ok 560 rfl, rfl⟩
theorem eL_law_1078 : z_at mL_law 1078 (.laload) 1 1079 := ⟨z_D DL_law_ok 561 rfl, rfl⟩
theorem eL_law_1079 : z_ld mL_law 1079 7 1081 := Or.inr ⟨z_D DL_law_ok 562 rfl, rfl⟩
theorem eL_law_1081 : z_at mL_law 1081 (.i2l) 1 1082 := ⟨z_D DL_law_ok 563 rfl, rfl⟩
theorem eL_law_1082 : z_at mL_law 1082 (.lcmp) 1 1083 := ⟨z_D DL_law_ok 564 rfl, rfl⟩
theorem eL_law_1083 : z_br mL_law 1083 (.ifCond .eq 5) (5) 1086 1088 := ⟨z_D DL_law_ok 565 rfl, rfl, by decide⟩
theorem eL_law_1086 : z_co mL_law 1086 (0) 1087 := Or.inl ⟨z_D DL_law_ok 566 rfl, rfl⟩
theorem eL_law_1087 : z_at mL_law 1087 (.ireturn) 1 1088 := ⟨z_D DL_law_ok 567 rfl, rfl⟩
theorem eL_law_1088 : z_br mL_law 1088 (.goto 1893) (1893) 1091 2981 := ⟨z_D DL_law_ok 568 rfl, rfl, by decide⟩
theorem eL_law_1091 : z_ad mL_law 1091 1 1092 := Or.inl ⟨1, z_D DL_law_ok 569 rfl, rfl, rfl⟩
theorem eL_law_1092 : z_ad mL_law 1092 0 1093 := Or.inl ⟨0, z_D DL_law_ok 570 rfl, rfl, rfl⟩
theorem eL_law_1093 : z_ld mL_law 1093 5 1095 := Or.inr ⟨z_D DL_law_ok 571 rfl, rfl⟩
theorem eL_law_1095 : z_co mL_law 1095 (1) 1096 := Or.inl ⟨z_D DL_law_ok 572 rfl, rfl⟩
theorem eL_law_1096 : z_at mL_law 1096 (.iadd) 1 1097 := ⟨z_D DL_law_ok 573 rfl, rfl⟩
theorem eL_law_1097 : z_at mL_law 1097 (.iaload) 1 1098 := ⟨z_D DL_law_ok 574 rfl, rfl⟩
theorem eL_law_1098 : z_ad mL_law 1098 3 1099 := Or.inl ⟨3, z_D DL_law_ok 575 rfl, rfl, rfl⟩
theorem eL_law_1099 : z_at mL_law 1099 (.invokestatic 204) 3 1102 ∧ z_lk mL_law.1.cls 204 mL_alike.1 ∧ z_mtH mL_alike hL_alike 3 ∧ Cond.static mL_alike.1 ∈ lw_tbl := ⟨⟨z_D DL_law_ok 576 rfl, rfl⟩, Or.inl w5_131, tL_alike, sL_alike⟩
theorem eL_law_1102 : z_sd mL_law 1102 6 1104 := ⟨Or.inr ⟨z_D DL_law_ok 577 rfl, rfl⟩, by decide⟩
theorem eL_law_1104 : z_ad mL_law 1104 2 1105 := Or.inl ⟨2, z_D DL_law_ok 578 rfl, rfl, rfl⟩
theorem eL_law_1105 : z_ad mL_law 1105 0 1106 := Or.inl ⟨0, z_D DL_law_ok 579 rfl, rfl, rfl⟩
theorem eL_law_1106 : z_ld mL_law 1106 5 1108 := Or.inr ⟨z_D DL_law_ok 580 rfl, rfl⟩
theorem eL_law_1108 : z_co mL_law 1108 (1) 1109 := Or.inl ⟨z_D DL_law_ok 581 rfl, rfl⟩
theorem eL_law_1109 : z_at mL_law 1109 (.iadd) 1 1110 := ⟨z_D DL_law_ok 582 rfl, rfl⟩
theorem eL_law_1110 : z_at mL_law 1110 (.iaload) 1 1111 := ⟨z_D DL_law_ok 583 rfl, rfl⟩
theorem eL_law_1111 : z_at mL_law 1111 (.invokevirtual 206) 3 1114 ∧ z_lk mL_law.1.cls 206 mX8_alike.1 ∧ z_mt mX8_alike 1 ∧ z_mv mX8_alike 8 := ⟨⟨z_D DL_law_ok 584 rfl, rfl⟩, Or.inl w8_3, tX8_alike, vX8_alike⟩
theorem eL_law_1114 : z_sd mL_law 1114 7 1116 := ⟨Or.inr ⟨z_D DL_law_ok 585 rfl, rfl⟩, by decide⟩
theorem eL_law_1116 : z_ad mL_law 1116 2 1117 := Or.inl ⟨2, z_D DL_law_ok 586 rfl, rfl, rfl⟩
theorem eL_law_1117 : z_at mL_law 1117 (.invokevirtual 152) 3 1120 ∧ z_lk mL_law.1.cls 152 mX8_thrown.1 ∧ z_mt mX8_thrown 0 ∧ z_mv mX8_thrown 8 := ⟨⟨z_D DL_law_ok 587 rfl, rfl⟩, Or.inl w6_213, tX8_thrown, vX8_thrown⟩
theorem eL_law_1120 : z_ld mL_law 1120 6 1122 := Or.inr ⟨z_D DL_law_ok 588 rfl, rfl⟩
theorem eL_law_1122 : z_br mL_law 1122 (.if_icmp .eq 5) (5) 1125 1127 := ⟨z_D DL_law_ok 589 rfl, rfl, by decide⟩
theorem eL_law_1125 : z_co mL_law 1125 (0) 1126 := Or.inl ⟨z_D DL_law_ok 590 rfl, rfl⟩
theorem eL_law_1126 : z_at mL_law 1126 (.ireturn) 1 1127 := ⟨z_D DL_law_ok 591 rfl, rfl⟩
theorem eL_law_1127 : z_ld mL_law 1127 6 1129 := Or.inr ⟨z_D DL_law_ok 592 rfl, rfl⟩
theorem eL_law_1129 : z_br mL_law 1129 (.ifCond .ne 15) (15) 1132 1144 := ⟨z_D DL_law_ok 593 rfl, rfl, by decide⟩
theorem eL_law_1132 : z_ad mL_law 1132 3 1133 := Or.inl ⟨3, z_D DL_law_ok 594 rfl, rfl, rfl⟩
theorem eL_law_1133 : z_co mL_law 1133 (0) 1134 := Or.inl ⟨z_D DL_law_ok 595 rfl, rfl⟩
theorem eL_law_1134 : z_at mL_law 1134 (.laload) 1 1135 := ⟨z_D DL_law_ok 596 rfl, rfl⟩
theorem eL_law_1135 : z_ld mL_law 1135 7 1137 := Or.inr ⟨z_D DL_law_ok 597 rfl, rfl⟩
theorem eL_law_1137 : z_at mL_law 1137 (.i2l) 1 1138 := ⟨z_D DL_law_ok 598 rfl, rfl⟩
theorem eL_law_1138 : z_at mL_law 1138 (.lcmp) 1 1139 := ⟨z_D DL_law_ok 599 rfl, rfl⟩
theorem eL_law_1139 : z_br mL_law 1139 (.ifCond .eq 5) (5) 1142 1144 := ⟨z_D DL_law_ok 600 rfl, rfl, by decide⟩
theorem eL_law_1142 : z_co mL_law 1142 (0) 1143 := Or.inl ⟨z_D DL_law_ok 601 rfl, rfl⟩
theorem eL_law_1143 : z_at mL_law 1143 (.ireturn) 1 1144 := ⟨z_D DL_law_ok 602 rfl, rfl⟩
theorem eL_law_1144 : z_br mL_law 1144 (.goto 1837) (1837) 1147 2981 := ⟨z_D DL_law_ok 603 rfl, rfl, by decide⟩
theorem eL_law_1147 : z_ad mL_law 1147 1 1148 := Or.inl ⟨1, z_D DL_law_ok 604 rfl, rfl, rfl⟩
theorem eL_law_1148 : z_at mL_law 1148 (.invokevirtual 207) 3 1151 ∧ z_lk mL_law.1.cls 207 mX7_results.1 ∧ z_mt mX7_results 0 ∧ z_mv mX7_results 7 := ⟨⟨z_D DL_law_ok 605 rfl, rfl⟩, Or.inl w2_55, tX7_results, vX7_results⟩
theorem eL_law_1151 : z_ad mL_law 1151 2 1152 := Or.inl ⟨2, z_D DL_law_ok 606 rfl, rfl, rfl⟩
theorem eL_law_1152 : z_at mL_law 1152 (.invokevirtual 210) 3 1155 ∧ z_lk mL_law.1.cls 210 mX8_results.1 ∧ z_mt mX8_results 0 ∧ z_mv mX8_results 8 := ⟨⟨z_D DL_law_ok 607 rfl, rfl⟩, Or.inl w8_7, tX8_results, vX8_results⟩
theorem eL_law_1155 : z_br mL_law 1155 (.if_icmp .eq 1826) (1826) 1158 2981 := ⟨z_D DL_law_ok 608 rfl, rfl, by decide⟩
theorem eL_law_1158 : z_co mL_law 1158 (0) 1159 := Or.inl ⟨z_D DL_law_ok 609 rfl, rfl⟩
theorem eL_law_1159 : z_at mL_law 1159 (.ireturn) 1 1160 := ⟨z_D DL_law_ok 610 rfl, rfl⟩
theorem eL_law_1160 : z_ad mL_law 1160 1 1161 := Or.inl ⟨1, z_D DL_law_ok 611 rfl, rfl, rfl⟩
theorem eL_law_1161 : z_at mL_law 1161 (.invokevirtual 211) 3 1164 ∧ z_lk mL_law.1.cls 211 mX7_rankSum.1 ∧ z_mt mX7_rankSum 0 ∧ z_mv mX7_rankSum 7 := ⟨⟨z_D DL_law_ok 612 rfl, rfl⟩, Or.inl w2_91, tX7_rankSum, vX7_rankSum⟩
theorem eL_law_1164 : z_ad mL_law 1164 2 1165 := Or.inl ⟨2, z_D DL_law_ok 613 rfl, rfl, rfl⟩
theorem eL_law_1165 : z_at mL_law 1165 (.invokevirtual 214) 3 1168 ∧ z_lk mL_law.1.cls 214 mX8_rankSum.1 ∧ z_mt mX8_rankSum 0 ∧ z_mv mX8_rankSum 8 := ⟨⟨z_D DL_law_ok 614 rfl, rfl⟩, Or.inl w8_11, tX8_rankSum, vX8_rankSum⟩
theorem eL_law_1168 : z_br mL_law 1168 (.if_icmp .eq 1813) (1813) 1171 2981 := ⟨z_D DL_law_ok 615 rfl, rfl, by decide⟩
theorem eL_law_1171 : z_co mL_law 1171 (0) 1172 := Or.inl ⟨z_D DL_law_ok 616 rfl, rfl⟩
theorem eL_law_1172 : z_at mL_law 1172 (.ireturn) 1 1173 := ⟨z_D DL_law_ok 617 rfl, rfl⟩
theorem eL_law_1173 : z_ad mL_law 1173 1 1174 := Or.inl ⟨1, z_D DL_law_ok 618 rfl, rfl, rfl⟩
theorem eL_law_1174 : z_ad mL_law 1174 0 1175 := Or.inl ⟨0, z_D DL_law_ok 619 rfl, rfl, rfl⟩
theorem eL_law_1175 : z_ld mL_law 1175 5 1177 := Or.inr ⟨z_D DL_law_ok 620 rfl, rfl⟩
theorem eL_law_1177 : z_co mL_law 1177 (1) 1178 := Or.inl ⟨z_D DL_law_ok 621 rfl, rfl⟩
theorem eL_law_1178 : z_at mL_law 1178 (.iadd) 1 1179 := ⟨z_D DL_law_ok 622 rfl, rfl⟩
theorem eL_law_1179 : z_at mL_law 1179 (.iaload) 1 1180 := ⟨z_D DL_law_ok 623 rfl, rfl⟩
theorem eL_law_1180 : z_ad mL_law 1180 0 1181 := Or.inl ⟨0, z_D DL_law_ok 624 rfl, rfl, rfl⟩
theorem eL_law_1181 : z_ld mL_law 1181 5 1183 := Or.inr ⟨z_D DL_law_ok 625 rfl, rfl⟩
theorem eL_law_1183 : z_co mL_law 1183 (2) 1184 := Or.inl ⟨z_D DL_law_ok 626 rfl, rfl⟩
theorem eL_law_1184 : z_at mL_law 1184 (.iadd) 1 1185 := ⟨z_D DL_law_ok 627 rfl, rfl⟩
theorem eL_law_1185 : z_at mL_law 1185 (.iaload) 1 1186 := ⟨z_D DL_law_ok 628 rfl, rfl⟩
theorem eL_law_1186 : z_ad mL_law 1186 0 1187 := Or.inl ⟨0, z_D DL_law_ok 629 rfl, rfl, rfl⟩
theorem eL_law_1187 : z_ld mL_law 1187 5 1189 := Or.inr ⟨z_D DL_law_ok 630 rfl, rfl⟩
theorem eL_law_1189 : z_co mL_law 1189 (3) 1190 := Or.inl ⟨z_D DL_law_ok 631 rfl, rfl⟩
theorem eL_law_1190 : z_at mL_law 1190 (.iadd) 1 1191 := ⟨z_D DL_law_ok 632 rfl, rfl⟩
theorem eL_law_1191 : z_at mL_law 1191 (.iaload) 1 1192 := ⟨z_D DL_law_ok 633 rfl, rfl⟩
theorem eL_law_1192 : z_ad mL_law 1192 3 1193 := Or.inl ⟨3, z_D DL_law_ok 634 rfl, rfl, rfl⟩
theorem eL_law_1193 : z_at mL_law 1193 (.invokestatic 215) 3 1196 ∧ z_lk mL_law.1.cls 215 mL_wouldGain.1 ∧ z_mtH mL_wouldGain hL_wouldGain 5 ∧ Cond.static mL_wouldGain.1 ∈ lw_tbl := ⟨⟨z_D DL_law_ok 635 rfl, rfl⟩, Or.inl w5_139, tL_wouldGain, sL_wouldGain⟩
theorem eL_law_1196 : z_sd mL_law 1196 6 1198 := ⟨Or.inr ⟨z_D DL_law_ok 636 rfl, rfl⟩, by decide⟩
theorem eL_law_1198 : z_ad mL_law 1198 2 1199 := Or.inl ⟨2, z_D DL_law_ok 637 rfl, rfl, rfl⟩
theorem eL_law_1199 : z_ad mL_law 1199 0 1200 := Or.inl ⟨0, z_D DL_law_ok 638 rfl, rfl, rfl⟩
theorem eL_law_1200 : z_ld mL_law 1200 5 1202 := Or.inr ⟨z_D DL_law_ok 639 rfl, rfl⟩
theorem eL_law_1202 : z_co mL_law 1202 (1) 1203 := Or.inl ⟨z_D DL_law_ok 640 rfl, rfl⟩
theorem eL_law_1203 : z_at mL_law 1203 (.iadd) 1 1204 := ⟨z_D DL_law_ok 641 rfl, rfl⟩
theorem eL_law_1204 : z_at mL_law 1204 (.iaload) 1 1205 := ⟨z_D DL_law_ok 642 rfl, rfl⟩
theorem eL_law_1205 : z_ad mL_law 1205 0 1206 := Or.inl ⟨0, z_D DL_law_ok 643 rfl, rfl, rfl⟩
theorem eL_law_1206 : z_ld mL_law 1206 5 1208 := Or.inr ⟨z_D DL_law_ok 644 rfl, rfl⟩
theorem eL_law_1208 : z_co mL_law 1208 (2) 1209 := Or.inl ⟨z_D DL_law_ok 645 rfl, rfl⟩
theorem eL_law_1209 : z_at mL_law 1209 (.iadd) 1 1210 := ⟨z_D DL_law_ok 646 rfl, rfl⟩
theorem eL_law_1210 : z_at mL_law 1210 (.iaload) 1 1211 := ⟨z_D DL_law_ok 647 rfl, rfl⟩
theorem eL_law_1211 : z_ad mL_law 1211 0 1212 := Or.inl ⟨0, z_D DL_law_ok 648 rfl, rfl, rfl⟩
theorem eL_law_1212 : z_ld mL_law 1212 5 1214 := Or.inr ⟨z_D DL_law_ok 649 rfl, rfl⟩
theorem eL_law_1214 : z_co mL_law 1214 (3) 1215 := Or.inl ⟨z_D DL_law_ok 650 rfl, rfl⟩
theorem eL_law_1215 : z_at mL_law 1215 (.iadd) 1 1216 := ⟨z_D DL_law_ok 651 rfl, rfl⟩
theorem eL_law_1216 : z_at mL_law 1216 (.iaload) 1 1217 := ⟨z_D DL_law_ok 652 rfl, rfl⟩
theorem eL_law_1217 : z_at mL_law 1217 (.invokevirtual 217) 3 1220 ∧ z_lk mL_law.1.cls 217 mX8_wouldGain.1 ∧ z_mt mX8_wouldGain 3 ∧ z_mv mX8_wouldGain 8 := ⟨⟨z_D DL_law_ok 653 rfl, rfl⟩, Or.inl w8_15, tX8_wouldGain, vX8_wouldGain⟩
theorem eL_law_1220 : z_sd mL_law 1220 7 1222 := ⟨Or.inr ⟨z_D DL_law_ok 654 rfl, rfl⟩, by decide⟩
theorem eL_law_1222 : z_ad mL_law 1222 2 1223 := Or.inl ⟨2, z_D DL_law_ok 655 rfl, rfl, rfl⟩
theorem eL_law_1223 : z_at mL_law 1223 (.invokevirtual 152) 3 1226 ∧ z_lk mL_law.1.cls 152 mX8_thrown.1 ∧ z_mt mX8_thrown 0 ∧ z_mv mX8_thrown 8 := ⟨⟨z_D DL_law_ok 656 rfl, rfl⟩, Or.inl w6_213, tX8_thrown, vX8_thrown⟩
theorem eL_law_1226 : z_ld mL_law 1226 6 1228 := Or.inr ⟨z_D DL_law_ok 657 rfl, rfl⟩
theorem eL_law_1228 : z_br mL_law 1228 (.if_icmp .eq 5) (5) 1231 1233 := ⟨z_D DL_law_ok 658 rfl, rfl, by decide⟩
theorem eL_law_1231 : z_co mL_law 1231 (0) 1232 := Or.inl ⟨z_D DL_law_ok 659 rfl, rfl⟩
theorem eL_law_1232 : z_at mL_law 1232 (.ireturn) 1 1233 := ⟨z_D DL_law_ok 660 rfl, rfl⟩
theorem eL_law_1233 : z_ld mL_law 1233 6 1235 := Or.inr ⟨z_D DL_law_ok 661 rfl, rfl⟩
theorem eL_law_1235 : z_br mL_law 1235 (.ifCond .ne 15) (15) 1238 1250 := ⟨z_D DL_law_ok 662 rfl, rfl, by decide⟩
theorem eL_law_1238 : z_ad mL_law 1238 3 1239 := Or.inl ⟨3, z_D DL_law_ok 663 rfl, rfl, rfl⟩
theorem eL_law_1239 : z_co mL_law 1239 (0) 1240 := Or.inl ⟨z_D DL_law_ok 664 rfl, rfl⟩
theorem eL_law_1240 : z_at mL_law 1240 (.laload) 1 1241 := ⟨z_D DL_law_ok 665 rfl, rfl⟩
theorem eL_law_1241 : z_ld mL_law 1241 7 1243 := Or.inr ⟨z_D DL_law_ok 666 rfl, rfl⟩
theorem eL_law_1243 : z_at mL_law 1243 (.i2l) 1 1244 := ⟨z_D DL_law_ok 667 rfl, rfl⟩
theorem eL_law_1244 : z_at mL_law 1244 (.lcmp) 1 1245 := ⟨z_D DL_law_ok 668 rfl, rfl⟩
theorem eL_law_1245 : z_br mL_law 1245 (.ifCond .eq 5) (5) 1248 1250 := ⟨z_D DL_law_ok 669 rfl, rfl, by decide⟩
theorem eL_law_1248 : z_co mL_law 1248 (0) 1249 := Or.inl ⟨z_D DL_law_ok 670 rfl, rfl⟩
theorem eL_law_1249 : z_at mL_law 1249 (.ireturn) 1 1250 := ⟨z_D DL_law_ok 671 rfl, rfl⟩
theorem eL_law_1250 : z_br mL_law 1250 (.goto 1731) (1731) 1253 2981 := ⟨z_D DL_law_ok 672 rfl, rfl, by decide⟩
theorem eL_law_1253 : z_ad mL_law 1253 1 1254 := Or.inl ⟨1, z_D DL_law_ok 673 rfl, rfl, rfl⟩
theorem eL_law_1254 : z_ad mL_law 1254 0 1255 := Or.inl ⟨0, z_D DL_law_ok 674 rfl, rfl, rfl⟩
theorem eL_law_1255 : z_ld mL_law 1255 5 1257 := Or.inr ⟨z_D DL_law_ok 675 rfl, rfl⟩
theorem eL_law_1257 : z_co mL_law 1257 (1) 1258 := Or.inl ⟨z_D DL_law_ok 676 rfl, rfl⟩
theorem eL_law_1258 : z_at mL_law 1258 (.iadd) 1 1259 := ⟨z_D DL_law_ok 677 rfl, rfl⟩
theorem eL_law_1259 : z_at mL_law 1259 (.iaload) 1 1260 := ⟨z_D DL_law_ok 678 rfl, rfl⟩
theorem eL_law_1260 : z_ad mL_law 1260 0 1261 := Or.inl ⟨0, z_D DL_law_ok 679 rfl, rfl, rfl⟩
theorem eL_law_1261 : z_ld mL_law 1261 5 1263 := Or.inr ⟨z_D DL_law_ok 680 rfl, rfl⟩
theorem eL_law_1263 : z_co mL_law 1263 (2) 1264 := Or.inl ⟨z_D DL_law_ok 681 rfl, rfl⟩
theorem eL_law_1264 : z_at mL_law 1264 (.iadd) 1 1265 := ⟨z_D DL_law_ok 682 rfl, rfl⟩
theorem eL_law_1265 : z_at mL_law 1265 (.iaload) 1 1266 := ⟨z_D DL_law_ok 683 rfl, rfl⟩
theorem eL_law_1266 : z_ad mL_law 1266 3 1267 := Or.inl ⟨3, z_D DL_law_ok 684 rfl, rfl, rfl⟩
theorem eL_law_1267 : z_at mL_law 1267 (.invokestatic 218) 3 1270 ∧ z_lk mL_law.1.cls 218 mL_needed.1 ∧ z_mtH mL_needed hL_needed 4 ∧ Cond.static mL_needed.1 ∈ lw_tbl := ⟨⟨z_D DL_law_ok 685 rfl, rfl⟩, Or.inl w5_146, tL_needed, sL_needed⟩
theorem eL_law_1270 : z_sd mL_law 1270 6 1272 := ⟨Or.inr ⟨z_D DL_law_ok 686 rfl, rfl⟩, by decide⟩
theorem eL_law_1272 : z_ad mL_law 1272 2 1273 := Or.inl ⟨2, z_D DL_law_ok 687 rfl, rfl, rfl⟩
theorem eL_law_1273 : z_ad mL_law 1273 0 1274 := Or.inl ⟨0, z_D DL_law_ok 688 rfl, rfl, rfl⟩
theorem eL_law_1274 : z_ld mL_law 1274 5 1276 := Or.inr ⟨z_D DL_law_ok 689 rfl, rfl⟩
theorem eL_law_1276 : z_co mL_law 1276 (1) 1277 := Or.inl ⟨z_D DL_law_ok 690 rfl, rfl⟩
theorem eL_law_1277 : z_at mL_law 1277 (.iadd) 1 1278 := ⟨z_D DL_law_ok 691 rfl, rfl⟩
theorem eL_law_1278 : z_at mL_law 1278 (.iaload) 1 1279 := ⟨z_D DL_law_ok 692 rfl, rfl⟩
theorem eL_law_1279 : z_ad mL_law 1279 0 1280 := Or.inl ⟨0, z_D DL_law_ok 693 rfl, rfl, rfl⟩
theorem eL_law_1280 : z_ld mL_law 1280 5 1282 := Or.inr ⟨z_D DL_law_ok 694 rfl, rfl⟩
theorem eL_law_1282 : z_co mL_law 1282 (2) 1283 := Or.inl ⟨z_D DL_law_ok 695 rfl, rfl⟩
theorem eL_law_1283 : z_at mL_law 1283 (.iadd) 1 1284 := ⟨z_D DL_law_ok 696 rfl, rfl⟩
theorem eL_law_1284 : z_at mL_law 1284 (.iaload) 1 1285 := ⟨z_D DL_law_ok 697 rfl, rfl⟩
theorem eL_law_1285 : z_at mL_law 1285 (.invokevirtual 220) 3 1288 ∧ z_lk mL_law.1.cls 220 mX8_needed.1 ∧ z_mt mX8_needed 2 ∧ z_mv mX8_needed 8 := ⟨⟨z_D DL_law_ok 698 rfl, rfl⟩, Or.inl w8_19, tX8_needed, vX8_needed⟩
theorem eL_law_1288 : z_sd mL_law 1288 7 1290 := ⟨Or.inr ⟨z_D DL_law_ok 699 rfl, rfl⟩, by decide⟩
theorem eL_law_1290 : z_ad mL_law 1290 2 1291 := Or.inl ⟨2, z_D DL_law_ok 700 rfl, rfl, rfl⟩
theorem eL_law_1291 : z_at mL_law 1291 (.invokevirtual 152) 3 1294 ∧ z_lk mL_law.1.cls 152 mX8_thrown.1 ∧ z_mt mX8_thrown 0 ∧ z_mv mX8_thrown 8 := ⟨⟨z_D DL_law_ok 701 rfl, rfl⟩, Or.inl w6_213, tX8_thrown, vX8_thrown⟩
theorem eL_law_1294 : z_ld mL_law 1294 6 1296 := Or.inr ⟨z_D DL_law_ok 702 rfl, rfl⟩
theorem eL_law_1296 : z_br mL_law 1296 (.if_icmp .eq 5) (5) 1299 1301 := ⟨z_D DL_law_ok 703 rfl, rfl, by decide⟩
theorem eL_law_1299 : z_co mL_law 1299 (0) 1300 := Or.inl ⟨z_D DL_law_ok 704 rfl, rfl⟩
theorem eL_law_1300 : z_at mL_law 1300 (.ireturn) 1 1301 := ⟨z_D DL_law_ok 705 rfl, rfl⟩
theorem eL_law_1301 : z_ld mL_law 1301 6 1303 := Or.inr ⟨z_D DL_law_ok 706 rfl, rfl⟩
theorem eL_law_1303 : z_br mL_law 1303 (.ifCond .ne 15) (15) 1306 1318 := ⟨z_D DL_law_ok 707 rfl, rfl, by decide⟩
theorem eL_law_1306 : z_ad mL_law 1306 3 1307 := Or.inl ⟨3, z_D DL_law_ok 708 rfl, rfl, rfl⟩
theorem eL_law_1307 : z_co mL_law 1307 (0) 1308 := Or.inl ⟨z_D DL_law_ok 709 rfl, rfl⟩
theorem eL_law_1308 : z_at mL_law 1308 (.laload) 1 1309 := ⟨z_D DL_law_ok 710 rfl, rfl⟩
theorem eL_law_1309 : z_ld mL_law 1309 7 1311 := Or.inr ⟨z_D DL_law_ok 711 rfl, rfl⟩
theorem eL_law_1311 : z_at mL_law 1311 (.i2l) 1 1312 := ⟨z_D DL_law_ok 712 rfl, rfl⟩
theorem eL_law_1312 : z_at mL_law 1312 (.lcmp) 1 1313 := ⟨z_D DL_law_ok 713 rfl, rfl⟩
theorem eL_law_1313 : z_br mL_law 1313 (.ifCond .eq 5) (5) 1316 1318 := ⟨z_D DL_law_ok 714 rfl, rfl, by decide⟩
theorem eL_law_1316 : z_co mL_law 1316 (0) 1317 := Or.inl ⟨z_D DL_law_ok 715 rfl, rfl⟩
theorem eL_law_1317 : z_at mL_law 1317 (.ireturn) 1 1318 := ⟨z_D DL_law_ok 716 rfl, rfl⟩
theorem eL_law_1318 : z_br mL_law 1318 (.goto 1663) (1663) 1321 2981 := ⟨z_D DL_law_ok 717 rfl, rfl, by decide⟩
theorem eL_law_1321 : z_ad mL_law 1321 1 1322 := Or.inl ⟨1, z_D DL_law_ok 718 rfl, rfl, rfl⟩
theorem eL_law_1322 : z_ad mL_law 1322 0 1323 := Or.inl ⟨0, z_D DL_law_ok 719 rfl, rfl, rfl⟩
theorem eL_law_1323 : z_ld mL_law 1323 5 1325 := Or.inr ⟨z_D DL_law_ok 720 rfl, rfl⟩
theorem eL_law_1325 : z_co mL_law 1325 (1) 1326 := Or.inl ⟨z_D DL_law_ok 721 rfl, rfl⟩
theorem eL_law_1326 : z_at mL_law 1326 (.iadd) 1 1327 := ⟨z_D DL_law_ok 722 rfl, rfl⟩
theorem eL_law_1327 : z_at mL_law 1327 (.iaload) 1 1328 := ⟨z_D DL_law_ok 723 rfl, rfl⟩
theorem eL_law_1328 : z_at mL_law 1328 (.invokevirtual 221) 3 1331 ∧ z_lk mL_law.1.cls 221 mX7_above.1 ∧ z_mt mX7_above 1 ∧ z_mv mX7_above 7 := ⟨⟨z_D DL_law_ok 724 rfl, rfl⟩, Or.inl w2_109, tX7_above, vX7_above⟩
theorem eL_law_1331 : z_ad mL_law 1331 2 1332 := Or.inl ⟨2, z_D DL_law_ok 725 rfl, rfl, rfl⟩
theorem eL_law_1332 : z_ad mL_law 1332 0 1333 := Or.inl ⟨0, z_D DL_law_ok 726 rfl, rfl, rfl⟩
theorem eL_law_1333 : z_ld mL_law 1333 5 1335 := Or.inr ⟨z_D DL_law_ok 727 rfl, rfl⟩
theorem eL_law_1335 : z_co mL_law 1335 (1) 1336 := Or.inl ⟨z_D DL_law_ok 728 rfl, rfl⟩
theorem eL_law_1336 : z_at mL_law 1336 (.iadd) 1 1337 := ⟨z_D DL_law_ok 729 rfl, rfl⟩
theorem eL_law_1337 : z_at mL_law 1337 (.iaload) 1 1338 := ⟨z_D DL_law_ok 730 rfl, rfl⟩
theorem eL_law_1338 : z_at mL_law 1338 (.invokevirtual 224) 3 1341 ∧ z_lk mL_law.1.cls 224 mX8_above.1 ∧ z_mt mX8_above 1 ∧ z_mv mX8_above 8 := ⟨⟨z_D DL_law_ok 731 rfl, rfl⟩, Or.inl w8_24, tX8_above, vX8_above⟩
theorem eL_law_1341 : z_br mL_law 1341 (.if_icmp .eq 1640) (1640) 1344 2981 := ⟨z_D DL_law_ok 732 rfl, rfl, by decide⟩
theorem eL_law_1344 : z_co mL_law 1344 (0) 1345 := Or.inl ⟨z_D DL_law_ok 733 rfl, rfl⟩
theorem eL_law_1345 : z_at mL_law 1345 (.ireturn) 1 1346 := ⟨z_D DL_law_ok 734 rfl, rfl⟩
theorem eL_law_1346 : z_ad mL_law 1346 1 1347 := Or.inl ⟨1, z_D DL_law_ok 735 rfl, rfl, rfl⟩
theorem eL_law_1347 : z_ad mL_law 1347 0 1348 := Or.inl ⟨0, z_D DL_law_ok 736 rfl, rfl, rfl⟩
theorem eL_law_1348 : z_ld mL_law 1348 5 1350 := Or.inr ⟨z_D DL_law_ok 737 rfl, rfl⟩
theorem eL_law_1350 : z_co mL_law 1350 (1) 1351 := Or.inl ⟨z_D DL_law_ok 738 rfl, rfl⟩
theorem eL_law_1351 : z_at mL_law 1351 (.iadd) 1 1352 := ⟨z_D DL_law_ok 739 rfl, rfl⟩
theorem eL_law_1352 : z_at mL_law 1352 (.iaload) 1 1353 := ⟨z_D DL_law_ok 740 rfl, rfl⟩
theorem eL_law_1353 : z_at mL_law 1353 (.invokevirtual 225) 3 1356 ∧ z_lk mL_law.1.cls 225 mX7_with.1 ∧ z_mt mX7_with 1 ∧ z_mv mX7_with 7 := ⟨⟨z_D DL_law_ok 741 rfl, rfl⟩, Or.inl w2_124, tX7_with, vX7_with⟩
theorem eL_law_1356 : z_ad mL_law 1356 2 1357 := Or.inl ⟨2, z_D DL_law_ok 742 rfl, rfl, rfl⟩
theorem eL_law_1357 : z_ad mL_law 1357 0 1358 := Or.inl ⟨0, z_D DL_law_ok 743 rfl, rfl, rfl⟩
theorem eL_law_1358 : z_ld mL_law 1358 5 1360 := Or.inr ⟨z_D DL_law_ok 744 rfl, rfl⟩
theorem eL_law_1360 : z_co mL_law 1360 (1) 1361 := Or.inl ⟨z_D DL_law_ok 745 rfl, rfl⟩
theorem eL_law_1361 : z_at mL_law 1361 (.iadd) 1 1362 := ⟨z_D DL_law_ok 746 rfl, rfl⟩
theorem eL_law_1362 : z_at mL_law 1362 (.iaload) 1 1363 := ⟨z_D DL_law_ok 747 rfl, rfl⟩
theorem eL_law_1363 : z_at mL_law 1363 (.invokevirtual 228) 3 1366 ∧ z_lk mL_law.1.cls 228 mX8_with.1 ∧ z_mt mX8_with 1 ∧ z_mv mX8_with 8 := ⟨⟨z_D DL_law_ok 748 rfl, rfl⟩, Or.inl w8_32, tX8_with, vX8_with⟩
theorem eL_law_1366 : z_br mL_law 1366 (.if_icmp .eq 1615) (1615) 1369 2981 := ⟨z_D DL_law_ok 749 rfl, rfl, by decide⟩
theorem eL_law_1369 : z_co mL_law 1369 (0) 1370 := Or.inl ⟨z_D DL_law_ok 750 rfl, rfl⟩
theorem eL_law_1370 : z_at mL_law 1370 (.ireturn) 1 1371 := ⟨z_D DL_law_ok 751 rfl, rfl⟩
theorem eL_law_1371 : z_ad mL_law 1371 1 1372 := Or.inl ⟨1, z_D DL_law_ok 752 rfl, rfl, rfl⟩
theorem eL_law_1372 : z_ad mL_law 1372 0 1373 := Or.inl ⟨0, z_D DL_law_ok 753 rfl, rfl, rfl⟩
theorem eL_law_1373 : z_ld mL_law 1373 5 1375 := Or.inr ⟨z_D DL_law_ok 754 rfl, rfl⟩
theorem eL_law_1375 : z_co mL_law 1375 (1) 1376 := Or.inl ⟨z_D DL_law_ok 755 rfl, rfl⟩
theorem eL_law_1376 : z_at mL_law 1376 (.iadd) 1 1377 := ⟨z_D DL_law_ok 756 rfl, rfl⟩
theorem eL_law_1377 : z_at mL_law 1377 (.iaload) 1 1378 := ⟨z_D DL_law_ok 757 rfl, rfl⟩
theorem eL_law_1378 : z_ad mL_law 1378 0 1379 := Or.inl ⟨0, z_D DL_law_ok 758 rfl, rfl, rfl⟩
theorem eL_law_1379 : z_ld mL_law 1379 5 1381 := Or.inr ⟨z_D DL_law_ok 759 rfl, rfl⟩
theorem eL_law_1381 : z_co mL_law 1381 (2) 1382 := Or.inl ⟨z_D DL_law_ok 760 rfl, rfl⟩
theorem eL_law_1382 : z_at mL_law 1382 (.iadd) 1 1383 := ⟨z_D DL_law_ok 761 rfl, rfl⟩
theorem eL_law_1383 : z_at mL_law 1383 (.iaload) 1 1384 := ⟨z_D DL_law_ok 762 rfl, rfl⟩
theorem eL_law_1384 : z_at mL_law 1384 (.invokevirtual 229) 3 1387 ∧ z_lk mL_law.1.cls 229 mX7_withAt.1 ∧ z_mt mX7_withAt 2 ∧ z_mv mX7_withAt 7 := ⟨⟨z_D DL_law_ok 763 rfl, rfl⟩, Or.inl w2_132, tX7_withAt, vX7_withAt⟩
theorem eL_law_1387 : z_ad mL_law 1387 2 1388 := Or.inl ⟨2, z_D DL_law_ok 764 rfl, rfl, rfl⟩
theorem eL_law_1388 : z_ad mL_law 1388 0 1389 := Or.inl ⟨0, z_D DL_law_ok 765 rfl, rfl, rfl⟩
theorem eL_law_1389 : z_ld mL_law 1389 5 1391 := Or.inr ⟨z_D DL_law_ok 766 rfl, rfl⟩
theorem eL_law_1391 : z_co mL_law 1391 (1) 1392 := Or.inl ⟨z_D DL_law_ok 767 rfl, rfl⟩
theorem eL_law_1392 : z_at mL_law 1392 (.iadd) 1 1393 := ⟨z_D DL_law_ok 768 rfl, rfl⟩
theorem eL_law_1393 : z_at mL_law 1393 (.iaload) 1 1394 := ⟨z_D DL_law_ok 769 rfl, rfl⟩
theorem eL_law_1394 : z_ad mL_law 1394 0 1395 := Or.inl ⟨0, z_D DL_law_ok 770 rfl, rfl, rfl⟩
theorem eL_law_1395 : z_ld mL_law 1395 5 1397 := Or.inr ⟨z_D DL_law_ok 771 rfl, rfl⟩
theorem eL_law_1397 : z_co mL_law 1397 (2) 1398 := Or.inl ⟨z_D DL_law_ok 772 rfl, rfl⟩
theorem eL_law_1398 : z_at mL_law 1398 (.iadd) 1 1399 := ⟨z_D DL_law_ok 773 rfl, rfl⟩
theorem eL_law_1399 : z_at mL_law 1399 (.iaload) 1 1400 := ⟨z_D DL_law_ok 774 rfl, rfl⟩
theorem eL_law_1400 : z_at mL_law 1400 (.invokevirtual 232) 3 1403 ∧ z_lk mL_law.1.cls 232 mX8_withAt.1 ∧ z_mt mX8_withAt 2 ∧ z_mv mX8_withAt 8 := ⟨⟨z_D DL_law_ok 775 rfl, rfl⟩, Or.inl w8_36, tX8_withAt, vX8_withAt⟩
theorem eL_law_1403 : z_br mL_law 1403 (.if_icmp .eq 1578) (1578) 1406 2981 := ⟨z_D DL_law_ok 776 rfl, rfl, by decide⟩
theorem eL_law_1406 : z_co mL_law 1406 (0) 1407 := Or.inl ⟨z_D DL_law_ok 777 rfl, rfl⟩
theorem eL_law_1407 : z_at mL_law 1407 (.ireturn) 1 1408 := ⟨z_D DL_law_ok 778 rfl, rfl⟩
theorem eL_law_1408 : z_ad mL_law 1408 1 1409 := Or.inl ⟨1, z_D DL_law_ok 779 rfl, rfl, rfl⟩
theorem eL_law_1409 : z_ad mL_law 1409 0 1410 := Or.inl ⟨0, z_D DL_law_ok 780 rfl, rfl, rfl⟩
theorem eL_law_1410 : z_ld mL_law 1410 5 1412 := Or.inr ⟨z_D DL_law_ok 781 rfl, rfl⟩
theorem eL_law_1412 : z_co mL_law 1412 (1) 1413 := Or.inl ⟨z_D DL_law_ok 782 rfl, rfl⟩
theorem eL_law_1413 : z_at mL_law 1413 (.iadd) 1 1414 := ⟨z_D DL_law_ok 783 rfl, rfl⟩
theorem eL_law_1414 : z_at mL_law 1414 (.iaload) 1 1415 := ⟨z_D DL_law_ok 784 rfl, rfl⟩
theorem eL_law_1415 : z_ad mL_law 1415 3 1416 := Or.inl ⟨3, z_D DL_law_ok 785 rfl, rfl, rfl⟩
theorem eL_law_1416 : z_at mL_law 1416 (.invokestatic 233) 3 1419 ∧ z_lk mL_law.1.cls 233 mL_next.1 ∧ z_mtH mL_next hL_next 3 ∧ Cond.static mL_next.1 ∈ lw_tbl := ⟨⟨z_D DL_law_ok 786 rfl, rfl⟩, Or.inl w5_164, tL_next, sL_next⟩
theorem eL_law_1419 : z_sd mL_law 1419 6 1421 := ⟨Or.inr ⟨z_D DL_law_ok 787 rfl, rfl⟩, by decide⟩
theorem eL_law_1421 : z_ad mL_law 1421 2 1422 := Or.inl ⟨2, z_D DL_law_ok 788 rfl, rfl, rfl⟩
theorem eL_law_1422 : z_ad mL_law 1422 0 1423 := Or.inl ⟨0, z_D DL_law_ok 789 rfl, rfl, rfl⟩
theorem eL_law_1423 : z_ld mL_law 1423 5 1425 := Or.inr ⟨z_D DL_law_ok 790 rfl, rfl⟩
theorem eL_law_1425 : z_co mL_law 1425 (1) 1426 := Or.inl ⟨z_D DL_law_ok 791 rfl, rfl⟩
theorem eL_law_1426 : z_at mL_law 1426 (.iadd) 1 1427 := ⟨z_D DL_law_ok 792 rfl, rfl⟩
theorem eL_law_1427 : z_at mL_law 1427 (.iaload) 1 1428 := ⟨z_D DL_law_ok 793 rfl, rfl⟩
theorem eL_law_1428 : z_at mL_law 1428 (.invokevirtual 235) 3 1431 ∧ z_lk mL_law.1.cls 235 mX8_next.1 ∧ z_mt mX8_next 1 ∧ z_mv mX8_next 8 := ⟨⟨z_D DL_law_ok 794 rfl, rfl⟩, Or.inl w8_40, tX8_next, vX8_next⟩
theorem eL_law_1431 : z_sd mL_law 1431 7 1433 := ⟨Or.inr ⟨z_D DL_law_ok 795 rfl, rfl⟩, by decide⟩
theorem eL_law_1433 : z_ad mL_law 1433 2 1434 := Or.inl ⟨2, z_D DL_law_ok 796 rfl, rfl, rfl⟩
theorem eL_law_1434 : z_at mL_law 1434 (.invokevirtual 152) 3 1437 ∧ z_lk mL_law.1.cls 152 mX8_thrown.1 ∧ z_mt mX8_thrown 0 ∧ z_mv mX8_thrown 8 := ⟨⟨z_D DL_law_ok 797 rfl, rfl⟩, Or.inl w6_213, tX8_thrown, vX8_thrown⟩
theorem eL_law_1437 : z_ld mL_law 1437 6 1439 := Or.inr ⟨z_D DL_law_ok 798 rfl, rfl⟩
theorem eL_law_1439 : z_br mL_law 1439 (.if_icmp .eq 5) (5) 1442 1444 := ⟨z_D DL_law_ok 799 rfl, rfl, by decide⟩
theorem eL_law_1442 : z_co mL_law 1442 (0) 1443 := Or.inl ⟨z_D DL_law_ok 800 rfl, rfl⟩
theorem eL_law_1443 : z_at mL_law 1443 (.ireturn) 1 1444 := ⟨z_D DL_law_ok 801 rfl, rfl⟩
theorem eL_law_1444 : z_ld mL_law 1444 6 1446 := Or.inr ⟨z_D DL_law_ok 802 rfl, rfl⟩
theorem eL_law_1446 : z_br mL_law 1446 (.ifCond .ne 15) (15) 1449 1461 := ⟨z_D DL_law_ok 803 rfl, rfl, by decide⟩
theorem eL_law_1449 : z_ad mL_law 1449 3 1450 := Or.inl ⟨3, z_D DL_law_ok 804 rfl, rfl, rfl⟩
theorem eL_law_1450 : z_co mL_law 1450 (0) 1451 := Or.inl ⟨z_D DL_law_ok 805 rfl, rfl⟩
theorem eL_law_1451 : z_at mL_law 1451 (.laload) 1 1452 := ⟨z_D DL_law_ok 806 rfl, rfl⟩
theorem eL_law_1452 : z_ld mL_law 1452 7 1454 := Or.inr ⟨z_D DL_law_ok 807 rfl, rfl⟩
theorem eL_law_1454 : z_at mL_law 1454 (.i2l) 1 1455 := ⟨z_D DL_law_ok 808 rfl, rfl⟩
theorem eL_law_1455 : z_at mL_law 1455 (.lcmp) 1 1456 := ⟨z_D DL_law_ok 809 rfl, rfl⟩
theorem eL_law_1456 : z_br mL_law 1456 (.ifCond .eq 5) (5) 1459 1461 := ⟨z_D DL_law_ok 810 rfl, rfl, by decide⟩
theorem eL_law_1459 : z_co mL_law 1459 (0) 1460 := Or.inl ⟨z_D DL_law_ok 811 rfl, rfl⟩
theorem eL_law_1460 : z_at mL_law 1460 (.ireturn) 1 1461 := ⟨z_D DL_law_ok 812 rfl, rfl⟩
theorem eL_law_1461 : z_br mL_law 1461 (.goto 1520) (1520) 1464 2981 := ⟨z_D DL_law_ok 813 rfl, rfl, by decide⟩
theorem eL_law_1464 : z_ad mL_law 1464 1 1465 := Or.inl ⟨1, z_D DL_law_ok 814 rfl, rfl, rfl⟩
theorem eL_law_1465 : z_ad mL_law 1465 0 1466 := Or.inl ⟨0, z_D DL_law_ok 815 rfl, rfl, rfl⟩
theorem eL_law_1466 : z_ld mL_law 1466 5 1468 := Or.inr ⟨z_D DL_law_ok 816 rfl, rfl⟩
theorem eL_law_1468 : z_co mL_law 1468 (1) 1469 := Or.inl ⟨z_D DL_law_ok 817 rfl, rfl⟩
theorem eL_law_1469 : z_at mL_law 1469 (.iadd) 1 1470 := ⟨z_D DL_law_ok 818 rfl, rfl⟩
theorem eL_law_1470 : z_at mL_law 1470 (.iaload) 1 1471 := ⟨z_D DL_law_ok 819 rfl, rfl⟩
theorem eL_law_1471 : z_ad mL_law 1471 0 1472 := Or.inl ⟨0, z_D DL_law_ok 820 rfl, rfl, rfl⟩
theorem eL_law_1472 : z_ld mL_law 1472 5 1474 := Or.inr ⟨z_D DL_law_ok 821 rfl, rfl⟩
theorem eL_law_1474 : z_co mL_law 1474 (2) 1475 := Or.inl ⟨z_D DL_law_ok 822 rfl, rfl⟩
theorem eL_law_1475 : z_at mL_law 1475 (.iadd) 1 1476 := ⟨z_D DL_law_ok 823 rfl, rfl⟩
theorem eL_law_1476 : z_at mL_law 1476 (.iaload) 1 1477 := ⟨z_D DL_law_ok 824 rfl, rfl⟩
theorem eL_law_1477 : z_ad mL_law 1477 3 1478 := Or.inl ⟨3, z_D DL_law_ok 825 rfl, rfl, rfl⟩
theorem eL_law_1478 : z_at mL_law 1478 (.invokestatic 236) 3 1481 ∧ z_lk mL_law.1.cls 236 mL_between.1 ∧ z_mtH mL_between hL_between 4 ∧ Cond.static mL_between.1 ∈ lw_tbl := ⟨⟨z_D DL_law_ok 826 rfl, rfl⟩, Or.inl w5_188, tL_between, sL_between⟩
theorem eL_law_1481 : z_sd mL_law 1481 6 1483 := ⟨Or.inr ⟨z_D DL_law_ok 827 rfl, rfl⟩, by decide⟩
theorem eL_law_1483 : z_ad mL_law 1483 2 1484 := Or.inl ⟨2, z_D DL_law_ok 828 rfl, rfl, rfl⟩
theorem eL_law_1484 : z_ad mL_law 1484 0 1485 := Or.inl ⟨0, z_D DL_law_ok 829 rfl, rfl, rfl⟩
theorem eL_law_1485 : z_ld mL_law 1485 5 1487 := Or.inr ⟨z_D DL_law_ok 830 rfl, rfl⟩
theorem eL_law_1487 : z_co mL_law 1487 (1) 1488 := Or.inl ⟨z_D DL_law_ok 831 rfl, rfl⟩
theorem eL_law_1488 : z_at mL_law 1488 (.iadd) 1 1489 := ⟨z_D DL_law_ok 832 rfl, rfl⟩
theorem eL_law_1489 : z_at mL_law 1489 (.iaload) 1 1490 := ⟨z_D DL_law_ok 833 rfl, rfl⟩
theorem eL_law_1490 : z_ad mL_law 1490 0 1491 := Or.inl ⟨0, z_D DL_law_ok 834 rfl, rfl, rfl⟩
theorem eL_law_1491 : z_ld mL_law 1491 5 1493 := Or.inr ⟨z_D DL_law_ok 835 rfl, rfl⟩
theorem eL_law_1493 : z_co mL_law 1493 (2) 1494 := Or.inl ⟨z_D DL_law_ok 836 rfl, rfl⟩
theorem eL_law_1494 : z_at mL_law 1494 (.iadd) 1 1495 := ⟨z_D DL_law_ok 837 rfl, rfl⟩
theorem eL_law_1495 : z_at mL_law 1495 (.iaload) 1 1496 := ⟨z_D DL_law_ok 838 rfl, rfl⟩
theorem eL_law_1496 : z_at mL_law 1496 (.invokevirtual 238) 3 1499 ∧ z_lk mL_law.1.cls 238 mX8_between.1 ∧ z_mt mX8_between 2 ∧ z_mv mX8_between 8 := ⟨⟨z_D DL_law_ok 839 rfl, rfl⟩, Or.inl w8_44, tX8_between, vX8_between⟩
theorem eL_law_1499 : z_sd mL_law 1499 7 1501 := ⟨Or.inr ⟨z_D DL_law_ok 840 rfl, rfl⟩, by decide⟩
theorem eL_law_1501 : z_ad mL_law 1501 2 1502 := Or.inl ⟨2, z_D DL_law_ok 841 rfl, rfl, rfl⟩
theorem eL_law_1502 : z_at mL_law 1502 (.invokevirtual 152) 3 1505 ∧ z_lk mL_law.1.cls 152 mX8_thrown.1 ∧ z_mt mX8_thrown 0 ∧ z_mv mX8_thrown 8 := ⟨⟨z_D DL_law_ok 842 rfl, rfl⟩, Or.inl w6_213, tX8_thrown, vX8_thrown⟩
theorem eL_law_1505 : z_ld mL_law 1505 6 1507 := Or.inr ⟨z_D DL_law_ok 843 rfl, rfl⟩
theorem eL_law_1507 : z_br mL_law 1507 (.if_icmp .eq 5) (5) 1510 1512 := ⟨z_D DL_law_ok 844 rfl, rfl, by decide⟩
theorem eL_law_1510 : z_co mL_law 1510 (0) 1511 := Or.inl ⟨z_D DL_law_ok 845 rfl, rfl⟩
theorem eL_law_1511 : z_at mL_law 1511 (.ireturn) 1 1512 := ⟨z_D DL_law_ok 846 rfl, rfl⟩
theorem eL_law_1512 : z_ld mL_law 1512 6 1514 := Or.inr ⟨z_D DL_law_ok 847 rfl, rfl⟩
theorem eL_law_1514 : z_br mL_law 1514 (.ifCond .ne 15) (15) 1517 1529 := ⟨z_D DL_law_ok 848 rfl, rfl, by decide⟩
theorem eL_law_1517 : z_ad mL_law 1517 3 1518 := Or.inl ⟨3, z_D DL_law_ok 849 rfl, rfl, rfl⟩
theorem eL_law_1518 : z_co mL_law 1518 (0) 1519 := Or.inl ⟨z_D DL_law_ok 850 rfl, rfl⟩
theorem eL_law_1519 : z_at mL_law 1519 (.laload) 1 1520 := ⟨z_D DL_law_ok 851 rfl, rfl⟩
theorem eL_law_1520 : z_ld mL_law 1520 7 1522 := Or.inr ⟨z_D DL_law_ok 852 rfl, rfl⟩
theorem eL_law_1522 : z_at mL_law 1522 (.i2l) 1 1523 := ⟨z_D DL_law_ok 853 rfl, rfl⟩
theorem eL_law_1523 : z_at mL_law 1523 (.lcmp) 1 1524 := ⟨z_D DL_law_ok 854 rfl, rfl⟩
theorem eL_law_1524 : z_br mL_law 1524 (.ifCond .eq 5) (5) 1527 1529 := ⟨z_D DL_law_ok 855 rfl, rfl, by decide⟩
theorem eL_law_1527 : z_co mL_law 1527 (0) 1528 := Or.inl ⟨z_D DL_law_ok 856 rfl, rfl⟩
theorem eL_law_1528 : z_at mL_law 1528 (.ireturn) 1 1529 := ⟨z_D DL_law_ok 857 rfl, rfl⟩
theorem eL_law_1529 : z_br mL_law 1529 (.goto 1452) (1452) 1532 2981 := ⟨z_D DL_law_ok 858 rfl, rfl, by decide⟩
theorem eL_law_1532 : z_ad mL_law 1532 1 1533 := Or.inl ⟨1, z_D DL_law_ok 859 rfl, rfl, rfl⟩
theorem eL_law_1533 : z_ad mL_law 1533 0 1534 := Or.inl ⟨0, z_D DL_law_ok 860 rfl, rfl, rfl⟩
theorem eL_law_1534 : z_ld mL_law 1534 5 1536 := Or.inr ⟨z_D DL_law_ok 861 rfl, rfl⟩
theorem eL_law_1536 : z_co mL_law 1536 (1) 1537 := Or.inl ⟨z_D DL_law_ok 862 rfl, rfl⟩
theorem eL_law_1537 : z_at mL_law 1537 (.iadd) 1 1538 := ⟨z_D DL_law_ok 863 rfl, rfl⟩
theorem eL_law_1538 : z_at mL_law 1538 (.iaload) 1 1539 := ⟨z_D DL_law_ok 864 rfl, rfl⟩
theorem eL_law_1539 : z_br mL_law 1539 (.ifCond .eq 7) (7) 1542 1546 := ⟨z_D DL_law_ok 865 rfl, rfl, by decide⟩
theorem eL_law_1542 : z_co mL_law 1542 (1) 1543 := Or.inl ⟨z_D DL_law_ok 866 rfl, rfl⟩
theorem eL_law_1543 : z_br mL_law 1543 (.goto 4) (4) 1546 1547 := ⟨z_D DL_law_ok 867 rfl, rfl, by decide⟩
theorem eL_law_1546 : z_co mL_law 1546 (0) 1547 := Or.inl ⟨z_D DL_law_ok 868 rfl, rfl⟩
theorem eL_law_1547 : z_ad mL_law 1547 3 1548 := Or.inl ⟨3, z_D DL_law_ok 869 rfl, rfl, rfl⟩
theorem eL_law_1548 : z_at mL_law 1548 (.invokestatic 239) 3 1551 ∧ z_lk mL_law.1.cls 239 mL_median.1 ∧ z_mtH mL_median hL_median 3 ∧ Cond.static mL_median.1 ∈ lw_tbl := ⟨⟨z_D DL_law_ok 870 rfl, rfl⟩, Or.inl w5_196, tL_median, sL_median⟩
theorem eL_law_1551 : z_sd mL_law 1551 6 1553 := ⟨Or.inr ⟨z_D DL_law_ok 871 rfl, rfl⟩, by decide⟩
theorem eL_law_1553 : z_ad mL_law 1553 2 1554 := Or.inl ⟨2, z_D DL_law_ok 872 rfl, rfl, rfl⟩
theorem eL_law_1554 : z_ad mL_law 1554 0 1555 := Or.inl ⟨0, z_D DL_law_ok 873 rfl, rfl, rfl⟩
theorem eL_law_1555 : z_ld mL_law 1555 5 1557 := Or.inr ⟨z_D DL_law_ok 874 rfl, rfl⟩
theorem eL_law_1557 : z_co mL_law 1557 (1) 1558 := Or.inl ⟨z_D DL_law_ok 875 rfl, rfl⟩
theorem eL_law_1558 : z_at mL_law 1558 (.iadd) 1 1559 := ⟨z_D DL_law_ok 876 rfl, rfl⟩
theorem eL_law_1559 : z_at mL_law 1559 (.iaload) 1 1560 := ⟨z_D DL_law_ok 877 rfl, rfl⟩
theorem eL_law_1560 : z_br mL_law 1560 (.ifCond .eq 7) (7) 1563 1567 := ⟨z_D DL_law_ok 878 rfl, rfl, by decide⟩
theorem eL_law_1563 : z_co mL_law 1563 (1) 1564 := Or.inl ⟨z_D DL_law_ok 879 rfl, rfl⟩
theorem eL_law_1564 : z_br mL_law 1564 (.goto 4) (4) 1567 1568 := ⟨z_D DL_law_ok 880 rfl, rfl, by decide⟩
theorem eL_law_1567 : z_co mL_law 1567 (0) 1568 := Or.inl ⟨z_D DL_law_ok 881 rfl, rfl⟩
theorem eL_law_1568 : z_at mL_law 1568 (.invokevirtual 242) 3 1571 ∧ z_lk mL_law.1.cls 242 mX8_median.1 ∧ z_mt mX8_median 1 ∧ z_mv mX8_median 8 := ⟨⟨z_D DL_law_ok 882 rfl, rfl⟩, Or.inl w8_48, tX8_median, vX8_median⟩
theorem eL_law_1571 : z_sd mL_law 1571 7 1573 := ⟨Or.inr ⟨z_D DL_law_ok 883 rfl, rfl⟩, by decide⟩
theorem eL_law_1573 : z_ad mL_law 1573 2 1574 := Or.inl ⟨2, z_D DL_law_ok 884 rfl, rfl, rfl⟩
theorem eL_law_1574 : z_at mL_law 1574 (.invokevirtual 152) 3 1577 ∧ z_lk mL_law.1.cls 152 mX8_thrown.1 ∧ z_mt mX8_thrown 0 ∧ z_mv mX8_thrown 8 := ⟨⟨z_D DL_law_ok 885 rfl, rfl⟩, Or.inl w6_213, tX8_thrown, vX8_thrown⟩
theorem eL_law_1577 : z_ld mL_law 1577 6 1579 := Or.inr ⟨z_D DL_law_ok 886 rfl, rfl⟩
theorem eL_law_1579 : z_br mL_law 1579 (.if_icmp .eq 5) (5) 1582 1584 := ⟨z_D DL_law_ok 887 rfl, rfl, by decide⟩
theorem eL_law_1582 : z_co mL_law 1582 (0) 1583 := Or.inl ⟨z_D DL_law_ok 888 rfl, rfl⟩
theorem eL_law_1583 : z_at mL_law 1583 (.ireturn) 1 1584 := ⟨z_D DL_law_ok 889 rfl, rfl⟩
theorem eL_law_1584 : z_ld mL_law 1584 6 1586 := Or.inr ⟨z_D DL_law_ok 890 rfl, rfl⟩
theorem eL_law_1586 : z_br mL_law 1586 (.ifCond .ne 15) (15) 1589 1601 := ⟨z_D DL_law_ok 891 rfl, rfl, by decide⟩
theorem eL_law_1589 : z_ad mL_law 1589 3 1590 := Or.inl ⟨3, z_D DL_law_ok 892 rfl, rfl, rfl⟩
theorem eL_law_1590 : z_co mL_law 1590 (0) 1591 := Or.inl ⟨z_D DL_law_ok 893 rfl, rfl⟩
theorem eL_law_1591 : z_at mL_law 1591 (.laload) 1 1592 := ⟨z_D DL_law_ok 894 rfl, rfl⟩
theorem eL_law_1592 : z_ld mL_law 1592 7 1594 := Or.inr ⟨z_D DL_law_ok 895 rfl, rfl⟩
theorem eL_law_1594 : z_at mL_law 1594 (.i2l) 1 1595 := ⟨z_D DL_law_ok 896 rfl, rfl⟩
theorem eL_law_1595 : z_at mL_law 1595 (.lcmp) 1 1596 := ⟨z_D DL_law_ok 897 rfl, rfl⟩
theorem eL_law_1596 : z_br mL_law 1596 (.ifCond .eq 5) (5) 1599 1601 := ⟨z_D DL_law_ok 898 rfl, rfl, by decide⟩
theorem eL_law_1599 : z_co mL_law 1599 (0) 1600 := Or.inl ⟨z_D DL_law_ok 899 rfl, rfl⟩
theorem eL_law_1600 : z_at mL_law 1600 (.ireturn) 1 1601 := ⟨z_D DL_law_ok 900 rfl, rfl⟩
theorem eL_law_1601 : z_br mL_law 1601 (.goto 1380) (1380) 1604 2981 := ⟨z_D DL_law_ok 901 rfl, rfl, by decide⟩
theorem eL_law_1604 : z_ad mL_law 1604 1 1605 := Or.inl ⟨1, z_D DL_law_ok 902 rfl, rfl, rfl⟩
theorem eL_law_1605 : z_ad mL_law 1605 0 1606 := Or.inl ⟨0, z_D DL_law_ok 903 rfl, rfl, rfl⟩
theorem eL_law_1606 : z_ld mL_law 1606 5 1608 := Or.inr ⟨z_D DL_law_ok 904 rfl, rfl⟩
theorem eL_law_1608 : z_co mL_law 1608 (1) 1609 := Or.inl ⟨z_D DL_law_ok 905 rfl, rfl⟩
theorem eL_law_1609 : z_at mL_law 1609 (.iadd) 1 1610 := ⟨z_D DL_law_ok 906 rfl, rfl⟩
theorem eL_law_1610 : z_at mL_law 1610 (.iaload) 1 1611 := ⟨z_D DL_law_ok 907 rfl, rfl⟩
theorem eL_law_1611 : z_ad mL_law 1611 0 1612 := Or.inl ⟨0, z_D DL_law_ok 908 rfl, rfl, rfl⟩
theorem eL_law_1612 : z_ld mL_law 1612 5 1614 := Or.inr ⟨z_D DL_law_ok 909 rfl, rfl⟩
theorem eL_law_1614 : z_co mL_law 1614 (2) 1615 := Or.inl ⟨z_D DL_law_ok 910 rfl, rfl⟩
theorem eL_law_1615 : z_at mL_law 1615 (.iadd) 1 1616 := ⟨z_D DL_law_ok 911 rfl, rfl⟩
theorem eL_law_1616 : z_at mL_law 1616 (.iaload) 1 1617 := ⟨z_D DL_law_ok 912 rfl, rfl⟩
theorem eL_law_1617 : z_ad mL_law 1617 3 1618 := Or.inl ⟨3, z_D DL_law_ok 913 rfl, rfl, rfl⟩
theorem eL_law_1618 : z_at mL_law 1618 (.invokestatic 243) 3 1621 ∧ z_lk mL_law.1.cls 243 mL_quantile.1 ∧ z_mtH mL_quantile hL_quantile 4 ∧ Cond.static mL_quantile.1 ∈ lw_tbl := ⟨⟨z_D DL_law_ok 914 rfl, rfl⟩, Or.inl w5_208, tL_quantile, sL_quantile⟩
theorem eL_law_1621 : z_sd mL_law 1621 6 1623 := ⟨Or.inr ⟨z_D DL_law_ok 915 rfl, rfl⟩, by decide⟩
theorem eL_law_1623 : z_ad mL_law 1623 2 1624 := Or.inl ⟨2, z_D DL_law_ok 916 rfl, rfl, rfl⟩
theorem eL_law_1624 : z_ad mL_law 1624 0 1625 := Or.inl ⟨0, z_D DL_law_ok 917 rfl, rfl, rfl⟩
theorem eL_law_1625 : z_ld mL_law 1625 5 1627 := Or.inr ⟨z_D DL_law_ok 918 rfl, rfl⟩
theorem eL_law_1627 : z_co mL_law 1627 (1) 1628 := Or.inl ⟨z_D DL_law_ok 919 rfl, rfl⟩
theorem eL_law_1628 : z_at mL_law 1628 (.iadd) 1 1629 := ⟨z_D DL_law_ok 920 rfl, rfl⟩
theorem eL_law_1629 : z_at mL_law 1629 (.iaload) 1 1630 := ⟨z_D DL_law_ok 921 rfl, rfl⟩
theorem eL_law_1630 : z_ad mL_law 1630 0 1631 := Or.inl ⟨0, z_D DL_law_ok 922 rfl, rfl, rfl⟩
theorem eL_law_1631 : z_ld mL_law 1631 5 1633 := Or.inr ⟨z_D DL_law_ok 923 rfl, rfl⟩
theorem eL_law_1633 : z_co mL_law 1633 (2) 1634 := Or.inl ⟨z_D DL_law_ok 924 rfl, rfl⟩
theorem eL_law_1634 : z_at mL_law 1634 (.iadd) 1 1635 := ⟨z_D DL_law_ok 925 rfl, rfl⟩
theorem eL_law_1635 : z_at mL_law 1635 (.iaload) 1 1636 := ⟨z_D DL_law_ok 926 rfl, rfl⟩
theorem eL_law_1636 : z_at mL_law 1636 (.invokevirtual 245) 3 1639 ∧ z_lk mL_law.1.cls 245 mX8_quantile.1 ∧ z_mt mX8_quantile 2 ∧ z_mv mX8_quantile 8 := ⟨⟨z_D DL_law_ok 927 rfl, rfl⟩, Or.inl w8_56, tX8_quantile, vX8_quantile⟩
theorem eL_law_1639 : z_sd mL_law 1639 7 1641 := ⟨Or.inr ⟨z_D DL_law_ok 928 rfl, rfl⟩, by decide⟩
theorem eL_law_1641 : z_ad mL_law 1641 2 1642 := Or.inl ⟨2, z_D DL_law_ok 929 rfl, rfl, rfl⟩
theorem eL_law_1642 : z_at mL_law 1642 (.invokevirtual 152) 3 1645 ∧ z_lk mL_law.1.cls 152 mX8_thrown.1 ∧ z_mt mX8_thrown 0 ∧ z_mv mX8_thrown 8 := ⟨⟨z_D DL_law_ok 930 rfl, rfl⟩, Or.inl w6_213, tX8_thrown, vX8_thrown⟩
theorem eL_law_1645 : z_ld mL_law 1645 6 1647 := Or.inr ⟨z_D DL_law_ok 931 rfl, rfl⟩
theorem eL_law_1647 : z_br mL_law 1647 (.if_icmp .eq 5) (5) 1650 1652 := ⟨z_D DL_law_ok 932 rfl, rfl, by decide⟩
theorem eL_law_1650 : z_co mL_law 1650 (0) 1651 := Or.inl ⟨z_D DL_law_ok 933 rfl, rfl⟩
theorem eL_law_1651 : z_at mL_law 1651 (.ireturn) 1 1652 := ⟨z_D DL_law_ok 934 rfl, rfl⟩
theorem eL_law_1652 : z_ld mL_law 1652 6 1654 := Or.inr ⟨z_D DL_law_ok 935 rfl, rfl⟩
theorem eL_law_1654 : z_br mL_law 1654 (.ifCond .ne 15) (15) 1657 1669 := ⟨z_D DL_law_ok 936 rfl, rfl, by decide⟩
theorem eL_law_1657 : z_ad mL_law 1657 3 1658 := Or.inl ⟨3, z_D DL_law_ok 937 rfl, rfl, rfl⟩
theorem eL_law_1658 : z_co mL_law 1658 (0) 1659 := Or.inl ⟨z_D DL_law_ok 938 rfl, rfl⟩
theorem eL_law_1659 : z_at mL_law 1659 (.laload) 1 1660 := ⟨z_D DL_law_ok 939 rfl, rfl⟩
theorem eL_law_1660 : z_ld mL_law 1660 7 1662 := Or.inr ⟨z_D DL_law_ok 940 rfl, rfl⟩
theorem eL_law_1662 : z_at mL_law 1662 (.i2l) 1 1663 := ⟨z_D DL_law_ok 941 rfl, rfl⟩
theorem eL_law_1663 : z_at mL_law 1663 (.lcmp) 1 1664 := ⟨z_D DL_law_ok 942 rfl, rfl⟩
theorem eL_law_1664 : z_br mL_law 1664 (.ifCond .eq 5) (5) 1667 1669 := ⟨z_D DL_law_ok 943 rfl, rfl, by decide⟩
theorem eL_law_1667 : z_co mL_law 1667 (0) 1668 := Or.inl ⟨z_D DL_law_ok 944 rfl, rfl⟩
theorem eL_law_1668 : z_at mL_law 1668 (.ireturn) 1 1669 := ⟨z_D DL_law_ok 945 rfl, rfl⟩
theorem eL_law_1669 : z_br mL_law 1669 (.goto 1312) (1312) 1672 2981 := ⟨z_D DL_law_ok 946 rfl, rfl, by decide⟩
theorem eL_law_1672 : z_ad mL_law 1672 1 1673 := Or.inl ⟨1, z_D DL_law_ok 947 rfl, rfl, rfl⟩
theorem eL_law_1673 : z_ad mL_law 1673 0 1674 := Or.inl ⟨0, z_D DL_law_ok 948 rfl, rfl, rfl⟩
theorem eL_law_1674 : z_ld mL_law 1674 5 1676 := Or.inr ⟨z_D DL_law_ok 949 rfl, rfl⟩
theorem eL_law_1676 : z_co mL_law 1676 (1) 1677 := Or.inl ⟨z_D DL_law_ok 950 rfl, rfl⟩
theorem eL_law_1677 : z_at mL_law 1677 (.iadd) 1 1678 := ⟨z_D DL_law_ok 951 rfl, rfl⟩
theorem eL_law_1678 : z_at mL_law 1678 (.iaload) 1 1679 := ⟨z_D DL_law_ok 952 rfl, rfl⟩
theorem eL_law_1679 : z_ad mL_law 1679 3 1680 := Or.inl ⟨3, z_D DL_law_ok 953 rfl, rfl, rfl⟩
theorem eL_law_1680 : z_at mL_law 1680 (.invokestatic 246) 3 1683 ∧ z_lk mL_law.1.cls 246 mL_enter.1 ∧ z_mtH mL_enter hL_enter 3 ∧ Cond.static mL_enter.1 ∈ lw_tbl := ⟨⟨z_D DL_law_ok 954 rfl, rfl⟩, Or.inl w5_217, tL_enter, sL_enter⟩
theorem eL_law_1683 : z_sd mL_law 1683 6 1685 := ⟨Or.inr ⟨z_D DL_law_ok 955 rfl, rfl⟩, by decide⟩
theorem eL_law_1685 : z_ad mL_law 1685 2 1686 := Or.inl ⟨2, z_D DL_law_ok 956 rfl, rfl, rfl⟩
theorem eL_law_1686 : z_ad mL_law 1686 0 1687 := Or.inl ⟨0, z_D DL_law_ok 957 rfl, rfl, rfl⟩
theorem eL_law_1687 : z_ld mL_law 1687 5 1689 := Or.inr ⟨z_D DL_law_ok 958 rfl, rfl⟩
theorem eL_law_1689 : z_co mL_law 1689 (1) 1690 := Or.inl ⟨z_D DL_law_ok 959 rfl, rfl⟩
theorem eL_law_1690 : z_at mL_law 1690 (.iadd) 1 1691 := ⟨z_D DL_law_ok 960 rfl, rfl⟩
theorem eL_law_1691 : z_at mL_law 1691 (.iaload) 1 1692 := ⟨z_D DL_law_ok 961 rfl, rfl⟩
theorem eL_law_1692 : z_at mL_law 1692 (.invokevirtual 248) 3 1695 ∧ z_lk mL_law.1.cls 248 mX8_enter.1 ∧ z_mt mX8_enter 1 ∧ z_mv mX8_enter 8 := ⟨⟨z_D DL_law_ok 962 rfl, rfl⟩, Or.inl w8_60, tX8_enter, vX8_enter⟩
theorem eL_law_1695 : z_sd mL_law 1695 7 1697 := ⟨Or.inr ⟨z_D DL_law_ok 963 rfl, rfl⟩, by decide⟩
theorem eL_law_1697 : z_ad mL_law 1697 2 1698 := Or.inl ⟨2, z_D DL_law_ok 964 rfl, rfl, rfl⟩
theorem eL_law_1698 : z_at mL_law 1698 (.invokevirtual 152) 3 1701 ∧ z_lk mL_law.1.cls 152 mX8_thrown.1 ∧ z_mt mX8_thrown 0 ∧ z_mv mX8_thrown 8 := ⟨⟨z_D DL_law_ok 965 rfl, rfl⟩, Or.inl w6_213, tX8_thrown, vX8_thrown⟩
theorem eL_law_1701 : z_ld mL_law 1701 6 1703 := Or.inr ⟨z_D DL_law_ok 966 rfl, rfl⟩
theorem eL_law_1703 : z_br mL_law 1703 (.if_icmp .eq 5) (5) 1706 1708 := ⟨z_D DL_law_ok 967 rfl, rfl, by decide⟩
theorem eL_law_1706 : z_co mL_law 1706 (0) 1707 := Or.inl ⟨z_D DL_law_ok 968 rfl, rfl⟩
theorem eL_law_1707 : z_at mL_law 1707 (.ireturn) 1 1708 := ⟨z_D DL_law_ok 969 rfl, rfl⟩
theorem eL_law_1708 : z_ld mL_law 1708 6 1710 := Or.inr ⟨z_D DL_law_ok 970 rfl, rfl⟩
theorem eL_law_1710 : z_br mL_law 1710 (.ifCond .ne 15) (15) 1713 1725 := ⟨z_D DL_law_ok 971 rfl, rfl, by decide⟩
theorem eL_law_1713 : z_ad mL_law 1713 3 1714 := Or.inl ⟨3, z_D DL_law_ok 972 rfl, rfl, rfl⟩
theorem eL_law_1714 : z_co mL_law 1714 (0) 1715 := Or.inl ⟨z_D DL_law_ok 973 rfl, rfl⟩
theorem eL_law_1715 : z_at mL_law 1715 (.laload) 1 1716 := ⟨z_D DL_law_ok 974 rfl, rfl⟩
theorem eL_law_1716 : z_ld mL_law 1716 7 1718 := Or.inr ⟨z_D DL_law_ok 975 rfl, rfl⟩
theorem eL_law_1718 : z_at mL_law 1718 (.i2l) 1 1719 := ⟨z_D DL_law_ok 976 rfl, rfl⟩
theorem eL_law_1719 : z_at mL_law 1719 (.lcmp) 1 1720 := ⟨z_D DL_law_ok 977 rfl, rfl⟩
theorem eL_law_1720 : z_br mL_law 1720 (.ifCond .eq 5) (5) 1723 1725 := ⟨z_D DL_law_ok 978 rfl, rfl, by decide⟩
theorem eL_law_1723 : z_co mL_law 1723 (0) 1724 := Or.inl ⟨z_D DL_law_ok 979 rfl, rfl⟩
theorem eL_law_1724 : z_at mL_law 1724 (.ireturn) 1 1725 := ⟨z_D DL_law_ok 980 rfl, rfl⟩
theorem eL_law_1725 : z_br mL_law 1725 (.goto 1256) (1256) 1728 2981 := ⟨z_D DL_law_ok 981 rfl, rfl, by decide⟩
theorem eL_law_1728 : z_ad mL_law 1728 1 1729 := Or.inl ⟨1, z_D DL_law_ok 982 rfl, rfl, rfl⟩
theorem eL_law_1729 : z_ad mL_law 1729 0 1730 := Or.inl ⟨0, z_D DL_law_ok 983 rfl, rfl, rfl⟩
theorem eL_law_1730 : z_ld mL_law 1730 5 1732 := Or.inr ⟨z_D DL_law_ok 984 rfl, rfl⟩
theorem eL_law_1732 : z_co mL_law 1732 (1) 1733 := Or.inl ⟨z_D DL_law_ok 985 rfl, rfl⟩
theorem eL_law_1733 : z_at mL_law 1733 (.iadd) 1 1734 := ⟨z_D DL_law_ok 986 rfl, rfl⟩
theorem eL_law_1734 : z_at mL_law 1734 (.iaload) 1 1735 := ⟨z_D DL_law_ok 987 rfl, rfl⟩
theorem eL_law_1735 : z_ad mL_law 1735 0 1736 := Or.inl ⟨0, z_D DL_law_ok 988 rfl, rfl, rfl⟩
theorem eL_law_1736 : z_ld mL_law 1736 5 1738 := Or.inr ⟨z_D DL_law_ok 989 rfl, rfl⟩
theorem eL_law_1738 : z_co mL_law 1738 (2) 1739 := Or.inl ⟨z_D DL_law_ok 990 rfl, rfl⟩
theorem eL_law_1739 : z_at mL_law 1739 (.iadd) 1 1740 := ⟨z_D DL_law_ok 991 rfl, rfl⟩
theorem eL_law_1740 : z_at mL_law 1740 (.iaload) 1 1741 := ⟨z_D DL_law_ok 992 rfl, rfl⟩
theorem eL_law_1741 : z_ad mL_law 1741 0 1742 := Or.inl ⟨0, z_D DL_law_ok 993 rfl, rfl, rfl⟩
theorem eL_law_1742 : z_ld mL_law 1742 5 1744 := Or.inr ⟨z_D DL_law_ok 994 rfl, rfl⟩
theorem eL_law_1744 : z_co mL_law 1744 (3) 1745 := Or.inl ⟨z_D DL_law_ok 995 rfl, rfl⟩
theorem eL_law_1745 : z_at mL_law 1745 (.iadd) 1 1746 := ⟨z_D DL_law_ok 996 rfl, rfl⟩
theorem eL_law_1746 : z_at mL_law 1746 (.iaload) 1 1747 := ⟨z_D DL_law_ok 997 rfl, rfl⟩
theorem eL_law_1747 : z_br mL_law 1747 (.ifCond .eq 7) (7) 1750 1754 := ⟨z_D DL_law_ok 998 rfl, rfl, by decide⟩
theorem eL_law_1750 : z_co mL_law 1750 (1) 1751 := Or.inl ⟨z_D DL_law_ok 999 rfl, rfl⟩
theorem eL_law_1751 : z_br mL_law 1751 (.goto 4) (4) 1754 1755 := ⟨z_D DL_law_ok 1000 rfl, rfl, by decide⟩
theorem eL_law_1754 : z_co mL_law 1754 (0) 1755 := Or.inl ⟨z_D DL_law_ok 1001 rfl, rfl⟩
theorem eL_law_1755 : z_ad mL_law 1755 3 1756 := Or.inl ⟨3, z_D DL_law_ok 1002 rfl, rfl, rfl⟩
theorem eL_law_1756 : z_at mL_law 1756 (.invokestatic 249) 3 1759 ∧ z_lk mL_law.1.cls 249 mL_challenge.1 ∧ z_mtH mL_challenge hL_challenge 5 ∧ Cond.static mL_challenge.1 ∈ lw_tbl := ⟨⟨z_D DL_law_ok 1003 rfl, rfl⟩, Or.inl w5_231, tL_challenge, sL_challenge⟩
theorem eL_law_1759 : z_sd mL_law 1759 6 1761 := ⟨Or.inr ⟨z_D DL_law_ok 1004 rfl, rfl⟩, by decide⟩
theorem eL_law_1761 : z_ad mL_law 1761 2 1762 := Or.inl ⟨2, z_D DL_law_ok 1005 rfl, rfl, rfl⟩
theorem eL_law_1762 : z_ad mL_law 1762 0 1763 := Or.inl ⟨0, z_D DL_law_ok 1006 rfl, rfl, rfl⟩
theorem eL_law_1763 : z_ld mL_law 1763 5 1765 := Or.inr ⟨z_D DL_law_ok 1007 rfl, rfl⟩
theorem eL_law_1765 : z_co mL_law 1765 (1) 1766 := Or.inl ⟨z_D DL_law_ok 1008 rfl, rfl⟩
theorem eL_law_1766 : z_at mL_law 1766 (.iadd) 1 1767 := ⟨z_D DL_law_ok 1009 rfl, rfl⟩
theorem eL_law_1767 : z_at mL_law 1767 (.iaload) 1 1768 := ⟨z_D DL_law_ok 1010 rfl, rfl⟩
theorem eL_law_1768 : z_ad mL_law 1768 0 1769 := Or.inl ⟨0, z_D DL_law_ok 1011 rfl, rfl, rfl⟩
theorem eL_law_1769 : z_ld mL_law 1769 5 1771 := Or.inr ⟨z_D DL_law_ok 1012 rfl, rfl⟩
theorem eL_law_1771 : z_co mL_law 1771 (2) 1772 := Or.inl ⟨z_D DL_law_ok 1013 rfl, rfl⟩
theorem eL_law_1772 : z_at mL_law 1772 (.iadd) 1 1773 := ⟨z_D DL_law_ok 1014 rfl, rfl⟩
theorem eL_law_1773 : z_at mL_law 1773 (.iaload) 1 1774 := ⟨z_D DL_law_ok 1015 rfl, rfl⟩
theorem eL_law_1774 : z_ad mL_law 1774 0 1775 := Or.inl ⟨0, z_D DL_law_ok 1016 rfl, rfl, rfl⟩
theorem eL_law_1775 : z_ld mL_law 1775 5 1777 := Or.inr ⟨z_D DL_law_ok 1017 rfl, rfl⟩
theorem eL_law_1777 : z_co mL_law 1777 (3) 1778 := Or.inl ⟨z_D DL_law_ok 1018 rfl, rfl⟩
theorem eL_law_1778 : z_at mL_law 1778 (.iadd) 1 1779 := ⟨z_D DL_law_ok 1019 rfl, rfl⟩
theorem eL_law_1779 : z_at mL_law 1779 (.iaload) 1 1780 := ⟨z_D DL_law_ok 1020 rfl, rfl⟩
theorem eL_law_1780 : z_br mL_law 1780 (.ifCond .eq 7) (7) 1783 1787 := ⟨z_D DL_law_ok 1021 rfl, rfl, by decide⟩
theorem eL_law_1783 : z_co mL_law 1783 (1) 1784 := Or.inl ⟨z_D DL_law_ok 1022 rfl, rfl⟩
theorem eL_law_1784 : z_br mL_law 1784 (.goto 4) (4) 1787 1788 := ⟨z_D DL_law_ok 1023 rfl, rfl, by decide⟩
theorem eL_law_1787 : z_co mL_law 1787 (0) 1788 := Or.inl ⟨z_D DL_law_ok 1024 rfl, rfl⟩
theorem eL_law_1788 : z_at mL_law 1788 (.invokevirtual 252) 3 1791 ∧ z_lk mL_law.1.cls 252 mX8_challenge.1 ∧ z_mt mX8_challenge 3 ∧ z_mv mX8_challenge 8 := ⟨⟨z_D DL_law_ok 1025 rfl, rfl⟩, Or.inl w8_64, tX8_challenge, vX8_challenge⟩
theorem eL_law_1791 : z_sd mL_law 1791 7 1793 := ⟨Or.inr ⟨z_D DL_law_ok 1026 rfl, rfl⟩, by decide⟩
theorem eL_law_1793 : z_ad mL_law 1793 2 1794 := Or.inl ⟨2, z_D DL_law_ok 1027 rfl, rfl, rfl⟩
theorem eL_law_1794 : z_at mL_law 1794 (.invokevirtual 152) 3 1797 ∧ z_lk mL_law.1.cls 152 mX8_thrown.1 ∧ z_mt mX8_thrown 0 ∧ z_mv mX8_thrown 8 := ⟨⟨z_D DL_law_ok 1028 rfl, rfl⟩, Or.inl w6_213, tX8_thrown, vX8_thrown⟩
theorem eL_law_1797 : z_ld mL_law 1797 6 1799 := Or.inr ⟨z_D DL_law_ok 1029 rfl, rfl⟩
theorem eL_law_1799 : z_br mL_law 1799 (.if_icmp .eq 5) (5) 1802 1804 := ⟨z_D DL_law_ok 1030 rfl, rfl, by decide⟩
theorem eL_law_1802 : z_co mL_law 1802 (0) 1803 := Or.inl ⟨z_D DL_law_ok 1031 rfl, rfl⟩
theorem eL_law_1803 : z_at mL_law 1803 (.ireturn) 1 1804 := ⟨z_D DL_law_ok 1032 rfl, rfl⟩
theorem eL_law_1804 : z_ld mL_law 1804 6 1806 := Or.inr ⟨z_D DL_law_ok 1033 rfl, rfl⟩
theorem eL_law_1806 : z_br mL_law 1806 (.ifCond .ne 15) (15) 1809 1821 := ⟨z_D DL_law_ok 1034 rfl, rfl, by decide⟩
theorem eL_law_1809 : z_ad mL_law 1809 3 1810 := Or.inl ⟨3, z_D DL_law_ok 1035 rfl, rfl, rfl⟩
theorem eL_law_1810 : z_co mL_law 1810 (0) 1811 := Or.inl ⟨z_D DL_law_ok 1036 rfl, rfl⟩
theorem eL_law_1811 : z_at mL_law 1811 (.laload) 1 1812 := ⟨z_D DL_law_ok 1037 rfl, rfl⟩
theorem eL_law_1812 : z_ld mL_law 1812 7 1814 := Or.inr ⟨z_D DL_law_ok 1038 rfl, rfl⟩
theorem eL_law_1814 : z_at mL_law 1814 (.i2l) 1 1815 := ⟨z_D DL_law_ok 1039 rfl, rfl⟩
theorem eL_law_1815 : z_at mL_law 1815 (.lcmp) 1 1816 := ⟨z_D DL_law_ok 1040 rfl, rfl⟩
theorem eL_law_1816 : z_br mL_law 1816 (.ifCond .eq 5) (5) 1819 1821 := ⟨z_D DL_law_ok 1041 rfl, rfl, by decide⟩
theorem eL_law_1819 : z_co mL_law 1819 (0) 1820 := Or.inl ⟨z_D DL_law_ok 1042 rfl, rfl⟩
theorem eL_law_1820 : z_at mL_law 1820 (.ireturn) 1 1821 := ⟨z_D DL_law_ok 1043 rfl, rfl⟩
theorem eL_law_1821 : z_br mL_law 1821 (.goto 1160) (1160) 1824 2981 := ⟨z_D DL_law_ok 1044 rfl, rfl, by decide⟩
theorem eL_law_1824 : z_ad mL_law 1824 1 1825 := Or.inl ⟨1, z_D DL_law_ok 1045 rfl, rfl, rfl⟩
theorem eL_law_1825 : z_ad mL_law 1825 0 1826 := Or.inl ⟨0, z_D DL_law_ok 1046 rfl, rfl, rfl⟩
theorem eL_law_1826 : z_ld mL_law 1826 5 1828 := Or.inr ⟨z_D DL_law_ok 1047 rfl, rfl⟩
theorem eL_law_1828 : z_co mL_law 1828 (1) 1829 := Or.inl ⟨z_D DL_law_ok 1048 rfl, rfl⟩
theorem eL_law_1829 : z_at mL_law 1829 (.iadd) 1 1830 := ⟨z_D DL_law_ok 1049 rfl, rfl⟩
theorem eL_law_1830 : z_at mL_law 1830 (.iaload) 1 1831 := ⟨z_D DL_law_ok 1050 rfl, rfl⟩
theorem eL_law_1831 : z_ad mL_law 1831 3 1832 := Or.inl ⟨3, z_D DL_law_ok 1051 rfl, rfl, rfl⟩
theorem eL_law_1832 : z_at mL_law 1832 (.invokestatic 253) 3 1835 ∧ z_lk mL_law.1.cls 253 mL_mayChallenge.1 ∧ z_mtH mL_mayChallenge hL_mayChallenge 3 ∧ Cond.static mL_mayChallenge.1 ∈ lw_tbl := ⟨⟨z_D DL_law_ok 1052 rfl, rfl⟩, Or.inl w6_5, tL_mayChallenge, sL_mayChallenge⟩
theorem eL_law_1835 : z_sd mL_law 1835 6 1837 := ⟨Or.inr ⟨z_D DL_law_ok 1053 rfl, rfl⟩, by decide⟩
theorem eL_law_1837 : z_ad mL_law 1837 2 1838 := Or.inl ⟨2, z_D DL_law_ok 1054 rfl, rfl, rfl⟩
theorem eL_law_1838 : z_ad mL_law 1838 0 1839 := Or.inl ⟨0, z_D DL_law_ok 1055 rfl, rfl, rfl⟩
theorem eL_law_1839 : z_ld mL_law 1839 5 1841 := Or.inr ⟨z_D DL_law_ok 1056 rfl, rfl⟩
theorem eL_law_1841 : z_co mL_law 1841 (1) 1842 := Or.inl ⟨z_D DL_law_ok 1057 rfl, rfl⟩
theorem eL_law_1842 : z_at mL_law 1842 (.iadd) 1 1843 := ⟨z_D DL_law_ok 1058 rfl, rfl⟩
theorem eL_law_1843 : z_at mL_law 1843 (.iaload) 1 1844 := ⟨z_D DL_law_ok 1059 rfl, rfl⟩
theorem eL_law_1844 : z_at mL_law 1844 (.invokevirtual 255) 3 1847 ∧ z_lk mL_law.1.cls 255 mX8_mayChallenge.1 ∧ z_mt mX8_mayChallenge 1 ∧ z_mv mX8_mayChallenge 8 := ⟨⟨z_D DL_law_ok 1060 rfl, rfl⟩, Or.inl w8_68, tX8_mayChallenge, vX8_mayChallenge⟩
theorem eL_law_1847 : z_sd mL_law 1847 7 1849 := ⟨Or.inr ⟨z_D DL_law_ok 1061 rfl, rfl⟩, by decide⟩
theorem eL_law_1849 : z_ad mL_law 1849 2 1850 := Or.inl ⟨2, z_D DL_law_ok 1062 rfl, rfl, rfl⟩
theorem eL_law_1850 : z_at mL_law 1850 (.invokevirtual 152) 3 1853 ∧ z_lk mL_law.1.cls 152 mX8_thrown.1 ∧ z_mt mX8_thrown 0 ∧ z_mv mX8_thrown 8 := ⟨⟨z_D DL_law_ok 1063 rfl, rfl⟩, Or.inl w6_213, tX8_thrown, vX8_thrown⟩
theorem eL_law_1853 : z_ld mL_law 1853 6 1855 := Or.inr ⟨z_D DL_law_ok 1064 rfl, rfl⟩
theorem eL_law_1855 : z_br mL_law 1855 (.if_icmp .eq 5) (5) 1858 1860 := ⟨z_D DL_law_ok 1065 rfl, rfl, by decide⟩
theorem eL_law_1858 : z_co mL_law 1858 (0) 1859 := Or.inl ⟨z_D DL_law_ok 1066 rfl, rfl⟩
theorem eL_law_1859 : z_at mL_law 1859 (.ireturn) 1 1860 := ⟨z_D DL_law_ok 1067 rfl, rfl⟩
theorem eL_law_1860 : z_ld mL_law 1860 6 1862 := Or.inr ⟨z_D DL_law_ok 1068 rfl, rfl⟩
theorem eL_law_1862 : z_br mL_law 1862 (.ifCond .ne 15) (15) 1865 1877 := ⟨z_D DL_law_ok 1069 rfl, rfl, by decide⟩
theorem eL_law_1865 : z_ad mL_law 1865 3 1866 := Or.inl ⟨3, z_D DL_law_ok 1070 rfl, rfl, rfl⟩
theorem eL_law_1866 : z_co mL_law 1866 (0) 1867 := Or.inl ⟨z_D DL_law_ok 1071 rfl, rfl⟩
theorem eL_law_1867 : z_at mL_law 1867 (.laload) 1 1868 := ⟨z_D DL_law_ok 1072 rfl, rfl⟩
theorem eL_law_1868 : z_ld mL_law 1868 7 1870 := Or.inr ⟨z_D DL_law_ok 1073 rfl, rfl⟩
theorem eL_law_1870 : z_at mL_law 1870 (.i2l) 1 1871 := ⟨z_D DL_law_ok 1074 rfl, rfl⟩
theorem eL_law_1871 : z_at mL_law 1871 (.lcmp) 1 1872 := ⟨z_D DL_law_ok 1075 rfl, rfl⟩
theorem eL_law_1872 : z_br mL_law 1872 (.ifCond .eq 5) (5) 1875 1877 := ⟨z_D DL_law_ok 1076 rfl, rfl, by decide⟩
theorem eL_law_1875 : z_co mL_law 1875 (0) 1876 := Or.inl ⟨z_D DL_law_ok 1077 rfl, rfl⟩
theorem eL_law_1876 : z_at mL_law 1876 (.ireturn) 1 1877 := ⟨z_D DL_law_ok 1078 rfl, rfl⟩
theorem eL_law_1877 : z_br mL_law 1877 (.goto 1104) (1104) 1880 2981 := ⟨z_D DL_law_ok 1079 rfl, rfl, by decide⟩
theorem eL_law_1880 : z_ad mL_law 1880 1 1881 := Or.inl ⟨1, z_D DL_law_ok 1080 rfl, rfl, rfl⟩
theorem eL_law_1881 : z_ad mL_law 1881 0 1882 := Or.inl ⟨0, z_D DL_law_ok 1081 rfl, rfl, rfl⟩
theorem eL_law_1882 : z_ld mL_law 1882 5 1884 := Or.inr ⟨z_D DL_law_ok 1082 rfl, rfl⟩
theorem eL_law_1884 : z_co mL_law 1884 (1) 1885 := Or.inl ⟨z_D DL_law_ok 1083 rfl, rfl⟩
theorem eL_law_1885 : z_at mL_law 1885 (.iadd) 1 1886 := ⟨z_D DL_law_ok 1084 rfl, rfl⟩
theorem eL_law_1886 : z_at mL_law 1886 (.iaload) 1 1887 := ⟨z_D DL_law_ok 1085 rfl, rfl⟩
theorem eL_law_1887 : z_ad mL_law 1887 3 1888 := Or.inl ⟨3, z_D DL_law_ok 1086 rfl, rfl, rfl⟩
theorem eL_law_1888 : z_at mL_law 1888 (.invokestatic 256) 3 1891 ∧ z_lk mL_law.1.cls 256 mL_setReach.1 ∧ z_mtH mL_setReach hL_setReach 3 ∧ Cond.static mL_setReach.1 ∈ lw_tbl := ⟨⟨z_D DL_law_ok 1087 rfl, rfl⟩, Or.inl w6_12, tL_setReach, sL_setReach⟩
theorem eL_law_1891 : z_sd mL_law 1891 6 1893 := ⟨Or.inr ⟨z_D DL_law_ok 1088 rfl, rfl⟩, by decide⟩
theorem eL_law_1893 : z_ad mL_law 1893 2 1894 := Or.inl ⟨2, z_D DL_law_ok 1089 rfl, rfl, rfl⟩
theorem eL_law_1894 : z_ad mL_law 1894 0 1895 := Or.inl ⟨0, z_D DL_law_ok 1090 rfl, rfl, rfl⟩
theorem eL_law_1895 : z_ld mL_law 1895 5 1897 := Or.inr ⟨z_D DL_law_ok 1091 rfl, rfl⟩
theorem eL_law_1897 : z_co mL_law 1897 (1) 1898 := Or.inl ⟨z_D DL_law_ok 1092 rfl, rfl⟩
theorem eL_law_1898 : z_at mL_law 1898 (.iadd) 1 1899 := ⟨z_D DL_law_ok 1093 rfl, rfl⟩
theorem eL_law_1899 : z_at mL_law 1899 (.iaload) 1 1900 := ⟨z_D DL_law_ok 1094 rfl, rfl⟩
theorem eL_law_1900 : z_at mL_law 1900 (.invokevirtual 258) 3 1903 ∧ z_lk mL_law.1.cls 258 mX8_setReach.1 ∧ z_mt mX8_setReach 1 ∧ z_mv mX8_setReach 8 := ⟨⟨z_D DL_law_ok 1095 rfl, rfl⟩, Or.inl w8_72, tX8_setReach, vX8_setReach⟩
theorem eL_law_1903 : z_sd mL_law 1903 7 1905 := ⟨Or.inr ⟨z_D DL_law_ok 1096 rfl, rfl⟩, by decide⟩
theorem eL_law_1905 : z_ad mL_law 1905 2 1906 := Or.inl ⟨2, z_D DL_law_ok 1097 rfl, rfl, rfl⟩
theorem eL_law_1906 : z_at mL_law 1906 (.invokevirtual 152) 3 1909 ∧ z_lk mL_law.1.cls 152 mX8_thrown.1 ∧ z_mt mX8_thrown 0 ∧ z_mv mX8_thrown 8 := ⟨⟨z_D DL_law_ok 1098 rfl, rfl⟩, Or.inl w6_213, tX8_thrown, vX8_thrown⟩
theorem eL_law_1909 : z_ld mL_law 1909 6 1911 := Or.inr ⟨z_D DL_law_ok 1099 rfl, rfl⟩
theorem eL_law_1911 : z_br mL_law 1911 (.if_icmp .eq 5) (5) 1914 1916 := ⟨z_D DL_law_ok 1100 rfl, rfl, by decide⟩
theorem eL_law_1914 : z_co mL_law 1914 (0) 1915 := Or.inl ⟨z_D DL_law_ok 1101 rfl, rfl⟩
theorem eL_law_1915 : z_at mL_law 1915 (.ireturn) 1 1916 := ⟨z_D DL_law_ok 1102 rfl, rfl⟩
theorem eL_law_1916 : z_ld mL_law 1916 6 1918 := Or.inr ⟨z_D DL_law_ok 1103 rfl, rfl⟩
theorem eL_law_1918 : z_br mL_law 1918 (.ifCond .ne 15) (15) 1921 1933 := ⟨z_D DL_law_ok 1104 rfl, rfl, by decide⟩
theorem eL_law_1921 : z_ad mL_law 1921 3 1922 := Or.inl ⟨3, z_D DL_law_ok 1105 rfl, rfl, rfl⟩
theorem eL_law_1922 : z_co mL_law 1922 (0) 1923 := Or.inl ⟨z_D DL_law_ok 1106 rfl, rfl⟩
theorem eL_law_1923 : z_at mL_law 1923 (.laload) 1 1924 := ⟨z_D DL_law_ok 1107 rfl, rfl⟩
theorem eL_law_1924 : z_ld mL_law 1924 7 1926 := Or.inr ⟨z_D DL_law_ok 1108 rfl, rfl⟩
theorem eL_law_1926 : z_at mL_law 1926 (.i2l) 1 1927 := ⟨z_D DL_law_ok 1109 rfl, rfl⟩
theorem eL_law_1927 : z_at mL_law 1927 (.lcmp) 1 1928 := ⟨z_D DL_law_ok 1110 rfl, rfl⟩
theorem eL_law_1928 : z_br mL_law 1928 (.ifCond .eq 5) (5) 1931 1933 := ⟨z_D DL_law_ok 1111 rfl, rfl, by decide⟩
theorem eL_law_1931 : z_co mL_law 1931 (0) 1932 := Or.inl ⟨z_D DL_law_ok 1112 rfl, rfl⟩
theorem eL_law_1932 : z_at mL_law 1932 (.ireturn) 1 1933 := ⟨z_D DL_law_ok 1113 rfl, rfl⟩
theorem eL_law_1933 : z_br mL_law 1933 (.goto 1048) (1048) 1936 2981 := ⟨z_D DL_law_ok 1114 rfl, rfl, by decide⟩
theorem eL_law_1936 : z_ad mL_law 1936 1 1937 := Or.inl ⟨1, z_D DL_law_ok 1115 rfl, rfl, rfl⟩
theorem eL_law_1937 : z_ad mL_law 1937 0 1938 := Or.inl ⟨0, z_D DL_law_ok 1116 rfl, rfl, rfl⟩
theorem eL_law_1938 : z_ld mL_law 1938 5 1940 := Or.inr ⟨z_D DL_law_ok 1117 rfl, rfl⟩
theorem eL_law_1940 : z_co mL_law 1940 (1) 1941 := Or.inl ⟨z_D DL_law_ok 1118 rfl, rfl⟩
theorem eL_law_1941 : z_at mL_law 1941 (.iadd) 1 1942 := ⟨z_D DL_law_ok 1119 rfl, rfl⟩
theorem eL_law_1942 : z_at mL_law 1942 (.iaload) 1 1943 := ⟨z_D DL_law_ok 1120 rfl, rfl⟩
theorem eL_law_1943 : z_ad mL_law 1943 3 1944 := Or.inl ⟨3, z_D DL_law_ok 1121 rfl, rfl, rfl⟩
theorem eL_law_1944 : z_at mL_law 1944 (.invokestatic 259) 3 1947 ∧ z_lk mL_law.1.cls 259 mL_setPatience.1 ∧ z_mtH mL_setPatience hL_setPatience 3 ∧ Cond.static mL_setPatience.1 ∈ lw_tbl := ⟨⟨z_D DL_law_ok 1122 rfl, rfl⟩, Or.inl w6_20, tL_setPatience, sL_setPatience⟩
theorem eL_law_1947 : z_sd mL_law 1947 6 1949 := ⟨Or.inr ⟨z_D DL_law_ok 1123 rfl, rfl⟩, by decide⟩
theorem eL_law_1949 : z_ad mL_law 1949 2 1950 := Or.inl ⟨2, z_D DL_law_ok 1124 rfl, rfl, rfl⟩
theorem eL_law_1950 : z_ad mL_law 1950 0 1951 := Or.inl ⟨0, z_D DL_law_ok 1125 rfl, rfl, rfl⟩
theorem eL_law_1951 : z_ld mL_law 1951 5 1953 := Or.inr ⟨z_D DL_law_ok 1126 rfl, rfl⟩
theorem eL_law_1953 : z_co mL_law 1953 (1) 1954 := Or.inl ⟨z_D DL_law_ok 1127 rfl, rfl⟩
theorem eL_law_1954 : z_at mL_law 1954 (.iadd) 1 1955 := ⟨z_D DL_law_ok 1128 rfl, rfl⟩
theorem eL_law_1955 : z_at mL_law 1955 (.iaload) 1 1956 := ⟨z_D DL_law_ok 1129 rfl, rfl⟩
theorem eL_law_1956 : z_at mL_law 1956 (.invokevirtual 261) 3 1959 ∧ z_lk mL_law.1.cls 261 mX8_setPatience.1 ∧ z_mt mX8_setPatience 1 ∧ z_mv mX8_setPatience 8 := ⟨⟨z_D DL_law_ok 1130 rfl, rfl⟩, Or.inl w8_76, tX8_setPatience, vX8_setPatience⟩
theorem eL_law_1959 : z_sd mL_law 1959 7 1961 := ⟨Or.inr ⟨z_D DL_law_ok 1131 rfl, rfl⟩, by decide⟩
theorem eL_law_1961 : z_ad mL_law 1961 2 1962 := Or.inl ⟨2, z_D DL_law_ok 1132 rfl, rfl, rfl⟩
theorem eL_law_1962 : z_at mL_law 1962 (.invokevirtual 152) 3 1965 ∧ z_lk mL_law.1.cls 152 mX8_thrown.1 ∧ z_mt mX8_thrown 0 ∧ z_mv mX8_thrown 8 := ⟨⟨z_D DL_law_ok 1133 rfl, rfl⟩, Or.inl w6_213, tX8_thrown, vX8_thrown⟩
theorem eL_law_1965 : z_ld mL_law 1965 6 1967 := Or.inr ⟨z_D DL_law_ok 1134 rfl, rfl⟩
theorem eL_law_1967 : z_br mL_law 1967 (.if_icmp .eq 5) (5) 1970 1972 := ⟨z_D DL_law_ok 1135 rfl, rfl, by decide⟩
theorem eL_law_1970 : z_co mL_law 1970 (0) 1971 := Or.inl ⟨z_D DL_law_ok 1136 rfl, rfl⟩
theorem eL_law_1971 : z_at mL_law 1971 (.ireturn) 1 1972 := ⟨z_D DL_law_ok 1137 rfl, rfl⟩
theorem eL_law_1972 : z_ld mL_law 1972 6 1974 := Or.inr ⟨z_D DL_law_ok 1138 rfl, rfl⟩
theorem eL_law_1974 : z_br mL_law 1974 (.ifCond .ne 15) (15) 1977 1989 := ⟨z_D DL_law_ok 1139 rfl, rfl, by decide⟩
theorem eL_law_1977 : z_ad mL_law 1977 3 1978 := Or.inl ⟨3, z_D DL_law_ok 1140 rfl, rfl, rfl⟩
theorem eL_law_1978 : z_co mL_law 1978 (0) 1979 := Or.inl ⟨z_D DL_law_ok 1141 rfl, rfl⟩
theorem eL_law_1979 : z_at mL_law 1979 (.laload) 1 1980 := ⟨z_D DL_law_ok 1142 rfl, rfl⟩
theorem eL_law_1980 : z_ld mL_law 1980 7 1982 := Or.inr ⟨z_D DL_law_ok 1143 rfl, rfl⟩
theorem eL_law_1982 : z_at mL_law 1982 (.i2l) 1 1983 := ⟨z_D DL_law_ok 1144 rfl, rfl⟩
theorem eL_law_1983 : z_at mL_law 1983 (.lcmp) 1 1984 := ⟨z_D DL_law_ok 1145 rfl, rfl⟩
theorem eL_law_1984 : z_br mL_law 1984 (.ifCond .eq 5) (5) 1987 1989 := ⟨z_D DL_law_ok 1146 rfl, rfl, by decide⟩
theorem eL_law_1987 : z_co mL_law 1987 (0) 1988 := Or.inl ⟨z_D DL_law_ok 1147 rfl, rfl⟩
theorem eL_law_1988 : z_at mL_law 1988 (.ireturn) 1 1989 := ⟨z_D DL_law_ok 1148 rfl, rfl⟩
theorem eL_law_1989 : z_br mL_law 1989 (.goto 992) (992) 1992 2981 := ⟨z_D DL_law_ok 1149 rfl, rfl, by decide⟩
theorem eL_law_1992 : z_ad mL_law 1992 1 1993 := Or.inl ⟨1, z_D DL_law_ok 1150 rfl, rfl, rfl⟩
theorem eL_law_1993 : z_ad mL_law 1993 0 1994 := Or.inl ⟨0, z_D DL_law_ok 1151 rfl, rfl, rfl⟩
theorem eL_law_1994 : z_ld mL_law 1994 5 1996 := Or.inr ⟨z_D DL_law_ok 1152 rfl, rfl⟩
theorem eL_law_1996 : z_co mL_law 1996 (1) 1997 := Or.inl ⟨z_D DL_law_ok 1153 rfl, rfl⟩
theorem eL_law_1997 : z_at mL_law 1997 (.iadd) 1 1998 := ⟨z_D DL_law_ok 1154 rfl, rfl⟩
theorem eL_law_1998 : z_at mL_law 1998 (.iaload) 1 1999 := ⟨z_D DL_law_ok 1155 rfl, rfl⟩
theorem eL_law_1999 : z_ad mL_law 1999 3 2000 := Or.inl ⟨3, z_D DL_law_ok 1156 rfl, rfl, rfl⟩
theorem eL_law_2000 : z_at mL_law 2000 (.invokestatic 262) 3 2003 ∧ z_lk mL_law.1.cls 262 mL_ladderAt.1 ∧ z_mtH mL_ladderAt hL_ladderAt 3 ∧ Cond.static mL_ladderAt.1 ∈ lw_tbl := ⟨⟨z_D DL_law_ok 1157 rfl, rfl⟩, Or.inl w6_28, tL_ladderAt, sL_ladderAt⟩
theorem eL_law_2003 : z_sd mL_law 2003 6 2005 := ⟨Or.inr ⟨z_D DL_law_ok 1158 rfl, rfl⟩, by decide⟩
theorem eL_law_2005 : z_ad mL_law 2005 2 2006 := Or.inl ⟨2, z_D DL_law_ok 1159 rfl, rfl, rfl⟩
theorem eL_law_2006 : z_ad mL_law 2006 0 2007 := Or.inl ⟨0, z_D DL_law_ok 1160 rfl, rfl, rfl⟩
theorem eL_law_2007 : z_ld mL_law 2007 5 2009 := Or.inr ⟨z_D DL_law_ok 1161 rfl, rfl⟩
theorem eL_law_2009 : z_co mL_law 2009 (1) 2010 := Or.inl ⟨z_D DL_law_ok 1162 rfl, rfl⟩
theorem eL_law_2010 : z_at mL_law 2010 (.iadd) 1 2011 := ⟨z_D DL_law_ok 1163 rfl, rfl⟩
theorem eL_law_2011 : z_at mL_law 2011 (.iaload) 1 2012 := ⟨z_D DL_law_ok 1164 rfl, rfl⟩
theorem eL_law_2012 : z_at mL_law 2012 (.invokevirtual 264) 3 2015 ∧ z_lk mL_law.1.cls 264 mX8_ladderAt.1 ∧ z_mt mX8_ladderAt 1 ∧ z_mv mX8_ladderAt 8 := ⟨⟨z_D DL_law_ok 1165 rfl, rfl⟩, Or.inl w8_80, tX8_ladderAt, vX8_ladderAt⟩
theorem eL_law_2015 : z_sd mL_law 2015 7 2017 := ⟨Or.inr ⟨z_D DL_law_ok 1166 rfl, rfl⟩, by decide⟩
theorem eL_law_2017 : z_ad mL_law 2017 2 2018 := Or.inl ⟨2, z_D DL_law_ok 1167 rfl, rfl, rfl⟩
theorem eL_law_2018 : z_at mL_law 2018 (.invokevirtual 152) 3 2021 ∧ z_lk mL_law.1.cls 152 mX8_thrown.1 ∧ z_mt mX8_thrown 0 ∧ z_mv mX8_thrown 8 := ⟨⟨z_D DL_law_ok 1168 rfl, rfl⟩, Or.inl w6_213, tX8_thrown, vX8_thrown⟩
theorem eL_law_2021 : z_ld mL_law 2021 6 2023 := Or.inr ⟨z_D DL_law_ok 1169 rfl, rfl⟩
theorem eL_law_2023 : z_br mL_law 2023 (.if_icmp .eq 5) (5) 2026 2028 := ⟨z_D DL_law_ok 1170 rfl, rfl, by decide⟩
theorem eL_law_2026 : z_co mL_law 2026 (0) 2027 := Or.inl ⟨z_D DL_law_ok 1171 rfl, rfl⟩
theorem eL_law_2027 : z_at mL_law 2027 (.ireturn) 1 2028 := ⟨z_D DL_law_ok 1172 rfl, rfl⟩
theorem eL_law_2028 : z_ld mL_law 2028 6 2030 := Or.inr ⟨z_D DL_law_ok 1173 rfl, rfl⟩
theorem eL_law_2030 : z_br mL_law 2030 (.ifCond .ne 15) (15) 2033 2045 := ⟨z_D DL_law_ok 1174 rfl, rfl, by decide⟩
theorem eL_law_2033 : z_ad mL_law 2033 3 2034 := Or.inl ⟨3, z_D DL_law_ok 1175 rfl, rfl, rfl⟩
theorem eL_law_2034 : z_co mL_law 2034 (0) 2035 := Or.inl ⟨z_D DL_law_ok 1176 rfl, rfl⟩
theorem eL_law_2035 : z_at mL_law 2035 (.laload) 1 2036 := ⟨z_D DL_law_ok 1177 rfl, rfl⟩
theorem eL_law_2036 : z_ld mL_law 2036 7 2038 := Or.inr ⟨z_D DL_law_ok 1178 rfl, rfl⟩
theorem eL_law_2038 : z_at mL_law 2038 (.i2l) 1 2039 := ⟨z_D DL_law_ok 1179 rfl, rfl⟩
theorem eL_law_2039 : z_at mL_law 2039 (.lcmp) 1 2040 := ⟨z_D DL_law_ok 1180 rfl, rfl⟩
theorem eL_law_2040 : z_br mL_law 2040 (.ifCond .eq 5) (5) 2043 2045 := ⟨z_D DL_law_ok 1181 rfl, rfl, by decide⟩
theorem eL_law_2043 : z_co mL_law 2043 (0) 2044 := Or.inl ⟨z_D DL_law_ok 1182 rfl, rfl⟩
theorem eL_law_2044 : z_at mL_law 2044 (.ireturn) 1 2045 := ⟨z_D DL_law_ok 1183 rfl, rfl⟩
theorem eL_law_2045 : z_br mL_law 2045 (.goto 936) (936) 2048 2981 := ⟨z_D DL_law_ok 1184 rfl, rfl, by decide⟩
theorem eL_law_2048 : z_ad mL_law 2048 1 2049 := Or.inl ⟨1, z_D DL_law_ok 1185 rfl, rfl, rfl⟩
theorem eL_law_2049 : z_ad mL_law 2049 0 2050 := Or.inl ⟨0, z_D DL_law_ok 1186 rfl, rfl, rfl⟩
theorem eL_law_2050 : z_ld mL_law 2050 5 2052 := Or.inr ⟨z_D DL_law_ok 1187 rfl, rfl⟩
theorem eL_law_2052 : z_co mL_law 2052 (1) 2053 := Or.inl ⟨z_D DL_law_ok 1188 rfl, rfl⟩
theorem eL_law_2053 : z_at mL_law 2053 (.iadd) 1 2054 := ⟨z_D DL_law_ok 1189 rfl, rfl⟩
theorem eL_law_2054 : z_at mL_law 2054 (.iaload) 1 2055 := ⟨z_D DL_law_ok 1190 rfl, rfl⟩
theorem eL_law_2055 : z_ad mL_law 2055 3 2056 := Or.inl ⟨3, z_D DL_law_ok 1191 rfl, rfl, rfl⟩
theorem eL_law_2056 : z_at mL_law 2056 (.invokestatic 265) 3 2059 ∧ z_lk mL_law.1.cls 265 mL_ladderPlace.1 ∧ z_mtH mL_ladderPlace hL_ladderPlace 3 ∧ Cond.static mL_ladderPlace.1 ∈ lw_tbl := ⟨⟨z_D DL_law_ok 1192 rfl, rfl⟩, Or.inl w6_35, tL_ladderPlace, sL_ladderPlace⟩
theorem eL_law_2059 : z_sd mL_law 2059 6 2061 := ⟨Or.inr ⟨z_D DL_law_ok 1193 rfl, rfl⟩, by decide⟩
theorem eL_law_2061 : z_ad mL_law 2061 2 2062 := Or.inl ⟨2, z_D DL_law_ok 1194 rfl, rfl, rfl⟩
theorem eL_law_2062 : z_ad mL_law 2062 0 2063 := Or.inl ⟨0, z_D DL_law_ok 1195 rfl, rfl, rfl⟩
theorem eL_law_2063 : z_ld mL_law 2063 5 2065 := Or.inr ⟨z_D DL_law_ok 1196 rfl, rfl⟩
theorem eL_law_2065 : z_co mL_law 2065 (1) 2066 := Or.inl ⟨z_D DL_law_ok 1197 rfl, rfl⟩
theorem eL_law_2066 : z_at mL_law 2066 (.iadd) 1 2067 := ⟨z_D DL_law_ok 1198 rfl, rfl⟩
theorem eL_law_2067 : z_at mL_law 2067 (.iaload) 1 2068 := ⟨z_D DL_law_ok 1199 rfl, rfl⟩
theorem eL_law_2068 : z_at mL_law 2068 (.invokevirtual 267) 3 2071 ∧ z_lk mL_law.1.cls 267 mX8_ladderPlace.1 ∧ z_mt mX8_ladderPlace 1 ∧ z_mv mX8_ladderPlace 8 := ⟨⟨z_D DL_law_ok 1200 rfl, rfl⟩, Or.inl w8_84, tX8_ladderPlace, vX8_ladderPlace⟩
theorem eL_law_2071 : z_sd mL_law 2071 7 2073 := ⟨Or.inr ⟨z_D DL_law_ok 1201 rfl, rfl⟩, by decide⟩
theorem eL_law_2073 : z_ad mL_law 2073 2 2074 := Or.inl ⟨2, z_D DL_law_ok 1202 rfl, rfl, rfl⟩
theorem eL_law_2074 : z_at mL_law 2074 (.invokevirtual 152) 3 2077 ∧ z_lk mL_law.1.cls 152 mX8_thrown.1 ∧ z_mt mX8_thrown 0 ∧ z_mv mX8_thrown 8 := ⟨⟨z_D DL_law_ok 1203 rfl, rfl⟩, Or.inl w6_213, tX8_thrown, vX8_thrown⟩
theorem eL_law_2077 : z_ld mL_law 2077 6 2079 := Or.inr ⟨z_D DL_law_ok 1204 rfl, rfl⟩
theorem eL_law_2079 : z_br mL_law 2079 (.if_icmp .eq 5) (5) 2082 2084 := ⟨z_D DL_law_ok 1205 rfl, rfl, by decide⟩
theorem eL_law_2082 : z_co mL_law 2082 (0) 2083 := Or.inl ⟨z_D DL_law_ok 1206 rfl, rfl⟩
theorem eL_law_2083 : z_at mL_law 2083 (.ireturn) 1 2084 := ⟨z_D DL_law_ok 1207 rfl, rfl⟩
theorem eL_law_2084 : z_ld mL_law 2084 6 2086 := Or.inr ⟨z_D DL_law_ok 1208 rfl, rfl⟩
theorem eL_law_2086 : z_br mL_law 2086 (.ifCond .ne 15) (15) 2089 2101 := ⟨z_D DL_law_ok 1209 rfl, rfl, by decide⟩
theorem eL_law_2089 : z_ad mL_law 2089 3 2090 := Or.inl ⟨3, z_D DL_law_ok 1210 rfl, rfl, rfl⟩
theorem eL_law_2090 : z_co mL_law 2090 (0) 2091 := Or.inl ⟨z_D DL_law_ok 1211 rfl, rfl⟩
theorem eL_law_2091 : z_at mL_law 2091 (.laload) 1 2092 := ⟨z_D DL_law_ok 1212 rfl, rfl⟩
theorem eL_law_2092 : z_ld mL_law 2092 7 2094 := Or.inr ⟨z_D DL_law_ok 1213 rfl, rfl⟩
theorem eL_law_2094 : z_at mL_law 2094 (.i2l) 1 2095 := ⟨z_D DL_law_ok 1214 rfl, rfl⟩
theorem eL_law_2095 : z_at mL_law 2095 (.lcmp) 1 2096 := ⟨z_D DL_law_ok 1215 rfl, rfl⟩
theorem eL_law_2096 : z_br mL_law 2096 (.ifCond .eq 5) (5) 2099 2101 := ⟨z_D DL_law_ok 1216 rfl, rfl, by decide⟩
theorem eL_law_2099 : z_co mL_law 2099 (0) 2100 := Or.inl ⟨z_D DL_law_ok 1217 rfl, rfl⟩
theorem eL_law_2100 : z_at mL_law 2100 (.ireturn) 1 2101 := ⟨z_D DL_law_ok 1218 rfl, rfl⟩
theorem eL_law_2101 : z_br mL_law 2101 (.goto 880) (880) 2104 2981 := ⟨z_D DL_law_ok 1219 rfl, rfl, by decide⟩
theorem eL_law_2104 : z_ad mL_law 2104 1 2105 := Or.inl ⟨1, z_D DL_law_ok 1220 rfl, rfl, rfl⟩
theorem eL_law_2105 : z_ad mL_law 2105 3 2106 := Or.inl ⟨3, z_D DL_law_ok 1221 rfl, rfl, rfl⟩
theorem eL_law_2106 : z_at mL_law 2106 (.invokestatic 268) 3 2109 ∧ z_lk mL_law.1.cls 268 mL_endRound.1 ∧ z_mtH mL_endRound hL_endRound 2 ∧ Cond.static mL_endRound.1 ∈ lw_tbl := ⟨⟨z_D DL_law_ok 1222 rfl, rfl⟩, Or.inl w6_42, tL_endRound, sL_endRound⟩
theorem eL_law_2109 : z_sd mL_law 2109 6 2111 := ⟨Or.inr ⟨z_D DL_law_ok 1223 rfl, rfl⟩, by decide⟩
theorem eL_law_2111 : z_ad mL_law 2111 2 2112 := Or.inl ⟨2, z_D DL_law_ok 1224 rfl, rfl, rfl⟩
theorem eL_law_2112 : z_at mL_law 2112 (.invokevirtual 270) 3 2115 ∧ z_lk mL_law.1.cls 270 mX8_endRound.1 ∧ z_mt mX8_endRound 0 ∧ z_mv mX8_endRound 8 := ⟨⟨z_D DL_law_ok 1225 rfl, rfl⟩, Or.inl w8_88, tX8_endRound, vX8_endRound⟩
theorem eL_law_2115 : z_sd mL_law 2115 7 2117 := ⟨Or.inr ⟨z_D DL_law_ok 1226 rfl, rfl⟩, by decide⟩
theorem eL_law_2117 : z_ad mL_law 2117 2 2118 := Or.inl ⟨2, z_D DL_law_ok 1227 rfl, rfl, rfl⟩
theorem eL_law_2118 : z_at mL_law 2118 (.invokevirtual 152) 3 2121 ∧ z_lk mL_law.1.cls 152 mX8_thrown.1 ∧ z_mt mX8_thrown 0 ∧ z_mv mX8_thrown 8 := ⟨⟨z_D DL_law_ok 1228 rfl, rfl⟩, Or.inl w6_213, tX8_thrown, vX8_thrown⟩
theorem eL_law_2121 : z_ld mL_law 2121 6 2123 := Or.inr ⟨z_D DL_law_ok 1229 rfl, rfl⟩
theorem eL_law_2123 : z_br mL_law 2123 (.if_icmp .eq 5) (5) 2126 2128 := ⟨z_D DL_law_ok 1230 rfl, rfl, by decide⟩
theorem eL_law_2126 : z_co mL_law 2126 (0) 2127 := Or.inl ⟨z_D DL_law_ok 1231 rfl, rfl⟩
theorem eL_law_2127 : z_at mL_law 2127 (.ireturn) 1 2128 := ⟨z_D DL_law_ok 1232 rfl, rfl⟩
theorem eL_law_2128 : z_ld mL_law 2128 6 2130 := Or.inr ⟨z_D DL_law_ok 1233 rfl, rfl⟩
theorem eL_law_2130 : z_br mL_law 2130 (.ifCond .ne 15) (15) 2133 2145 := ⟨z_D DL_law_ok 1234 rfl, rfl, by decide⟩
theorem eL_law_2133 : z_ad mL_law 2133 3 2134 := Or.inl ⟨3, z_D DL_law_ok 1235 rfl, rfl, rfl⟩
theorem eL_law_2134 : z_co mL_law 2134 (0) 2135 := Or.inl ⟨z_D DL_law_ok 1236 rfl, rfl⟩
theorem eL_law_2135 : z_at mL_law 2135 (.laload) 1 2136 := ⟨z_D DL_law_ok 1237 rfl, rfl⟩
theorem eL_law_2136 : z_ld mL_law 2136 7 2138 := Or.inr ⟨z_D DL_law_ok 1238 rfl, rfl⟩
theorem eL_law_2138 : z_at mL_law 2138 (.i2l) 1 2139 := ⟨z_D DL_law_ok 1239 rfl, rfl⟩
theorem eL_law_2139 : z_at mL_law 2139 (.lcmp) 1 2140 := ⟨z_D DL_law_ok 1240 rfl, rfl⟩
theorem eL_law_2140 : z_br mL_law 2140 (.ifCond .eq 5) (5) 2143 2145 := ⟨z_D DL_law_ok 1241 rfl, rfl, by decide⟩
theorem eL_law_2143 : z_co mL_law 2143 (0) 2144 := Or.inl ⟨z_D DL_law_ok 1242 rfl, rfl⟩
theorem eL_law_2144 : z_at mL_law 2144 (.ireturn) 1 2145 := ⟨z_D DL_law_ok 1243 rfl, rfl⟩
theorem eL_law_2145 : z_br mL_law 2145 (.goto 836) (836) 2148 2981 := ⟨z_D DL_law_ok 1244 rfl, rfl, by decide⟩
theorem eL_law_2148 : z_ad mL_law 2148 1 2149 := Or.inl ⟨1, z_D DL_law_ok 1245 rfl, rfl, rfl⟩
theorem eL_law_2149 : z_at mL_law 2149 (.invokevirtual 271) 3 2152 ∧ z_lk mL_law.1.cls 271 mX7_round.1 ∧ z_mt mX7_round 0 ∧ z_mv mX7_round 7 := ⟨⟨z_D DL_law_ok 1246 rfl, rfl⟩, Or.inl w2_136, tX7_round, vX7_round⟩
theorem eL_law_2152 : z_ad mL_law 2152 2 2153 := Or.inl ⟨2, z_D DL_law_ok 1247 rfl, rfl, rfl⟩
theorem eL_law_2153 : z_at mL_law 2153 (.invokevirtual 274) 3 2156 ∧ z_lk mL_law.1.cls 274 mX8_round.1 ∧ z_mt mX8_round 0 ∧ z_mv mX8_round 8 := ⟨⟨z_D DL_law_ok 1248 rfl, rfl⟩, Or.inl w8_100, tX8_round, vX8_round⟩
theorem eL_law_2156 : z_br mL_law 2156 (.if_icmp .eq 825) (825) 2159 2981 := ⟨z_D DL_law_ok 1249 rfl, rfl, by decide⟩
theorem eL_law_2159 : z_co mL_law 2159 (0) 2160 := Or.inl ⟨z_D DL_law_ok 1250 rfl, rfl⟩
theorem eL_law_2160 : z_at mL_law 2160 (.ireturn) 1 2161 := ⟨z_D DL_law_ok 1251 rfl, rfl⟩
theorem eL_law_2161 : z_ad mL_law 2161 1 2162 := Or.inl ⟨1, z_D DL_law_ok 1252 rfl, rfl, rfl⟩
theorem eL_law_2162 : z_ad mL_law 2162 0 2163 := Or.inl ⟨0, z_D DL_law_ok 1253 rfl, rfl, rfl⟩
theorem eL_law_2163 : z_ld mL_law 2163 5 2165 := Or.inr ⟨z_D DL_law_ok 1254 rfl, rfl⟩
theorem eL_law_2165 : z_co mL_law 2165 (1) 2166 := Or.inl ⟨z_D DL_law_ok 1255 rfl, rfl⟩
theorem eL_law_2166 : z_at mL_law 2166 (.iadd) 1 2167 := ⟨z_D DL_law_ok 1256 rfl, rfl⟩
theorem eL_law_2167 : z_at mL_law 2167 (.iaload) 1 2168 := ⟨z_D DL_law_ok 1257 rfl, rfl⟩
theorem eL_law_2168 : z_ad mL_law 2168 3 2169 := Or.inl ⟨3, z_D DL_law_ok 1258 rfl, rfl, rfl⟩
theorem eL_law_2169 : z_at mL_law 2169 (.invokestatic 275) 3 2172 ∧ z_lk mL_law.1.cls 275 mL_gain.1 ∧ z_mtH mL_gain hL_gain 3 ∧ Cond.static mL_gain.1 ∈ lw_tbl := ⟨⟨z_D DL_law_ok 1259 rfl, rfl⟩, Or.inl w6_65, tL_gain, sL_gain⟩
theorem eL_law_2172 : z_sd mL_law 2172 6 2174 := ⟨Or.inr ⟨z_D DL_law_ok 1260 rfl, rfl⟩, by decide⟩
theorem eL_law_2174 : z_ad mL_law 2174 2 2175 := Or.inl ⟨2, z_D DL_law_ok 1261 rfl, rfl, rfl⟩
theorem eL_law_2175 : z_ad mL_law 2175 0 2176 := Or.inl ⟨0, z_D DL_law_ok 1262 rfl, rfl, rfl⟩
theorem eL_law_2176 : z_ld mL_law 2176 5 2178 := Or.inr ⟨z_D DL_law_ok 1263 rfl, rfl⟩
theorem eL_law_2178 : z_co mL_law 2178 (1) 2179 := Or.inl ⟨z_D DL_law_ok 1264 rfl, rfl⟩
theorem eL_law_2179 : z_at mL_law 2179 (.iadd) 1 2180 := ⟨z_D DL_law_ok 1265 rfl, rfl⟩
theorem eL_law_2180 : z_at mL_law 2180 (.iaload) 1 2181 := ⟨z_D DL_law_ok 1266 rfl, rfl⟩
theorem eL_law_2181 : z_at mL_law 2181 (.invokevirtual 277) 3 2184 ∧ z_lk mL_law.1.cls 277 mX8_gain.1 ∧ z_mt mX8_gain 1 ∧ z_mv mX8_gain 8 := ⟨⟨z_D DL_law_ok 1267 rfl, rfl⟩, Or.inl w8_104, tX8_gain, vX8_gain⟩
theorem eL_law_2184 : z_sd mL_law 2184 7 2186 := ⟨Or.inr ⟨z_D DL_law_ok 1268 rfl, rfl⟩, by decide⟩
theorem eL_law_2186 : z_ad mL_law 2186 2 2187 := Or.inl ⟨2, z_D DL_law_ok 1269 rfl, rfl, rfl⟩
theorem eL_law_2187 : z_at mL_law 2187 (.invokevirtual 152) 3 2190 ∧ z_lk mL_law.1.cls 152 mX8_thrown.1 ∧ z_mt mX8_thrown 0 ∧ z_mv mX8_thrown 8 := ⟨⟨z_D DL_law_ok 1270 rfl, rfl⟩, Or.inl w6_213, tX8_thrown, vX8_thrown⟩
theorem eL_law_2190 : z_ld mL_law 2190 6 2192 := Or.inr ⟨z_D DL_law_ok 1271 rfl, rfl⟩
theorem eL_law_2192 : z_br mL_law 2192 (.if_icmp .eq 5) (5) 2195 2197 := ⟨z_D DL_law_ok 1272 rfl, rfl, by decide⟩
theorem eL_law_2195 : z_co mL_law 2195 (0) 2196 := Or.inl ⟨z_D DL_law_ok 1273 rfl, rfl⟩
theorem eL_law_2196 : z_at mL_law 2196 (.ireturn) 1 2197 := ⟨z_D DL_law_ok 1274 rfl, rfl⟩
theorem eL_law_2197 : z_ld mL_law 2197 6 2199 := Or.inr ⟨z_D DL_law_ok 1275 rfl, rfl⟩
theorem eL_law_2199 : z_br mL_law 2199 (.ifCond .ne 15) (15) 2202 2214 := ⟨z_D DL_law_ok 1276 rfl, rfl, by decide⟩
theorem eL_law_2202 : z_ad mL_law 2202 3 2203 := Or.inl ⟨3, z_D DL_law_ok 1277 rfl, rfl, rfl⟩
theorem eL_law_2203 : z_co mL_law 2203 (0) 2204 := Or.inl ⟨z_D DL_law_ok 1278 rfl, rfl⟩
theorem eL_law_2204 : z_at mL_law 2204 (.laload) 1 2205 := ⟨z_D DL_law_ok 1279 rfl, rfl⟩
theorem eL_law_2205 : z_ld mL_law 2205 7 2207 := Or.inr ⟨z_D DL_law_ok 1280 rfl, rfl⟩
theorem eL_law_2207 : z_at mL_law 2207 (.i2l) 1 2208 := ⟨z_D DL_law_ok 1281 rfl, rfl⟩
theorem eL_law_2208 : z_at mL_law 2208 (.lcmp) 1 2209 := ⟨z_D DL_law_ok 1282 rfl, rfl⟩
theorem eL_law_2209 : z_br mL_law 2209 (.ifCond .eq 5) (5) 2212 2214 := ⟨z_D DL_law_ok 1283 rfl, rfl, by decide⟩
theorem eL_law_2212 : z_co mL_law 2212 (0) 2213 := Or.inl ⟨z_D DL_law_ok 1284 rfl, rfl⟩
theorem eL_law_2213 : z_at mL_law 2213 (.ireturn) 1 2214 := ⟨z_D DL_law_ok 1285 rfl, rfl⟩
theorem eL_law_2214 : z_br mL_law 2214 (.goto 767) (767) 2217 2981 := ⟨z_D DL_law_ok 1286 rfl, rfl, by decide⟩
theorem eL_law_2217 : z_ad mL_law 2217 1 2218 := Or.inl ⟨1, z_D DL_law_ok 1287 rfl, rfl, rfl⟩
theorem eL_law_2218 : z_ad mL_law 2218 0 2219 := Or.inl ⟨0, z_D DL_law_ok 1288 rfl, rfl, rfl⟩
theorem eL_law_2219 : z_ld mL_law 2219 5 2221 := Or.inr ⟨z_D DL_law_ok 1289 rfl, rfl⟩
theorem eL_law_2221 : z_co mL_law 2221 (1) 2222 := Or.inl ⟨z_D DL_law_ok 1290 rfl, rfl⟩
theorem eL_law_2222 : z_at mL_law 2222 (.iadd) 1 2223 := ⟨z_D DL_law_ok 1291 rfl, rfl⟩
theorem eL_law_2223 : z_at mL_law 2223 (.iaload) 1 2224 := ⟨z_D DL_law_ok 1292 rfl, rfl⟩
theorem eL_law_2224 : z_ad mL_law 2224 0 2225 := Or.inl ⟨0, z_D DL_law_ok 1293 rfl, rfl, rfl⟩
theorem eL_law_2225 : z_ld mL_law 2225 5 2227 := Or.inr ⟨z_D DL_law_ok 1294 rfl, rfl⟩
theorem eL_law_2227 : z_co mL_law 2227 (2) 2228 := Or.inl ⟨z_D DL_law_ok 1295 rfl, rfl⟩
theorem eL_law_2228 : z_at mL_law 2228 (.iadd) 1 2229 := ⟨z_D DL_law_ok 1296 rfl, rfl⟩
theorem eL_law_2229 : z_at mL_law 2229 (.iaload) 1 2230 := ⟨z_D DL_law_ok 1297 rfl, rfl⟩
theorem eL_law_2230 : z_ad mL_law 2230 0 2231 := Or.inl ⟨0, z_D DL_law_ok 1298 rfl, rfl, rfl⟩
theorem eL_law_2231 : z_ld mL_law 2231 5 2233 := Or.inr ⟨z_D DL_law_ok 1299 rfl, rfl⟩
theorem eL_law_2233 : z_co mL_law 2233 (3) 2234 := Or.inl ⟨z_D DL_law_ok 1300 rfl, rfl⟩
theorem eL_law_2234 : z_at mL_law 2234 (.iadd) 1 2235 := ⟨z_D DL_law_ok 1301 rfl, rfl⟩
theorem eL_law_2235 : z_at mL_law 2235 (.iaload) 1 2236 := ⟨z_D DL_law_ok 1302 rfl, rfl⟩
theorem eL_law_2236 : z_ad mL_law 2236 3 2237 := Or.inl ⟨3, z_D DL_law_ok 1303 rfl, rfl, rfl⟩
theorem eL_law_2237 : z_at mL_law 2237 (.invokestatic 278) 3 2240 ∧ z_lk mL_law.1.cls 278 mL_form.1 ∧ z_mtH mL_form hL_form 5 ∧ Cond.static mL_form.1 ∈ lw_tbl := ⟨⟨z_D DL_law_ok 1304 rfl, rfl⟩, Or.inl w6_72, tL_form, sL_form⟩
theorem eL_law_2240 : z_sd mL_law 2240 6 2242 := ⟨Or.inr ⟨z_D DL_law_ok 1305 rfl, rfl⟩, by decide⟩
theorem eL_law_2242 : z_ad mL_law 2242 2 2243 := Or.inl ⟨2, z_D DL_law_ok 1306 rfl, rfl, rfl⟩
theorem eL_law_2243 : z_ad mL_law 2243 0 2244 := Or.inl ⟨0, z_D DL_law_ok 1307 rfl, rfl, rfl⟩
theorem eL_law_2244 : z_ld mL_law 2244 5 2246 := Or.inr ⟨z_D DL_law_ok 1308 rfl, rfl⟩
theorem eL_law_2246 : z_co mL_law 2246 (1) 2247 := Or.inl ⟨z_D DL_law_ok 1309 rfl, rfl⟩
theorem eL_law_2247 : z_at mL_law 2247 (.iadd) 1 2248 := ⟨z_D DL_law_ok 1310 rfl, rfl⟩
theorem eL_law_2248 : z_at mL_law 2248 (.iaload) 1 2249 := ⟨z_D DL_law_ok 1311 rfl, rfl⟩
theorem eL_law_2249 : z_ad mL_law 2249 0 2250 := Or.inl ⟨0, z_D DL_law_ok 1312 rfl, rfl, rfl⟩
theorem eL_law_2250 : z_ld mL_law 2250 5 2252 := Or.inr ⟨z_D DL_law_ok 1313 rfl, rfl⟩
theorem eL_law_2252 : z_co mL_law 2252 (2) 2253 := Or.inl ⟨z_D DL_law_ok 1314 rfl, rfl⟩
theorem eL_law_2253 : z_at mL_law 2253 (.iadd) 1 2254 := ⟨z_D DL_law_ok 1315 rfl, rfl⟩
theorem eL_law_2254 : z_at mL_law 2254 (.iaload) 1 2255 := ⟨z_D DL_law_ok 1316 rfl, rfl⟩
theorem eL_law_2255 : z_ad mL_law 2255 0 2256 := Or.inl ⟨0, z_D DL_law_ok 1317 rfl, rfl, rfl⟩
theorem eL_law_2256 : z_ld mL_law 2256 5 2258 := Or.inr ⟨z_D DL_law_ok 1318 rfl, rfl⟩
theorem eL_law_2258 : z_co mL_law 2258 (3) 2259 := Or.inl ⟨z_D DL_law_ok 1319 rfl, rfl⟩
theorem eL_law_2259 : z_at mL_law 2259 (.iadd) 1 2260 := ⟨z_D DL_law_ok 1320 rfl, rfl⟩
theorem eL_law_2260 : z_at mL_law 2260 (.iaload) 1 2261 := ⟨z_D DL_law_ok 1321 rfl, rfl⟩
theorem eL_law_2261 : z_at mL_law 2261 (.invokevirtual 280) 3 2264 ∧ z_lk mL_law.1.cls 280 mX8_form.1 ∧ z_mt mX8_form 3 ∧ z_mv mX8_form 8 := ⟨⟨z_D DL_law_ok 1322 rfl, rfl⟩, Or.inl w8_108, tX8_form, vX8_form⟩
theorem eL_law_2264 : z_sd mL_law 2264 7 2266 := ⟨Or.inr ⟨z_D DL_law_ok 1323 rfl, rfl⟩, by decide⟩
theorem eL_law_2266 : z_ad mL_law 2266 2 2267 := Or.inl ⟨2, z_D DL_law_ok 1324 rfl, rfl, rfl⟩
theorem eL_law_2267 : z_at mL_law 2267 (.invokevirtual 152) 3 2270 ∧ z_lk mL_law.1.cls 152 mX8_thrown.1 ∧ z_mt mX8_thrown 0 ∧ z_mv mX8_thrown 8 := ⟨⟨z_D DL_law_ok 1325 rfl, rfl⟩, Or.inl w6_213, tX8_thrown, vX8_thrown⟩
theorem eL_law_2270 : z_ld mL_law 2270 6 2272 := Or.inr ⟨z_D DL_law_ok 1326 rfl, rfl⟩
theorem eL_law_2272 : z_br mL_law 2272 (.if_icmp .eq 5) (5) 2275 2277 := ⟨z_D DL_law_ok 1327 rfl, rfl, by decide⟩
theorem eL_law_2275 : z_co mL_law 2275 (0) 2276 := Or.inl ⟨z_D DL_law_ok 1328 rfl, rfl⟩
theorem eL_law_2276 : z_at mL_law 2276 (.ireturn) 1 2277 := ⟨z_D DL_law_ok 1329 rfl, rfl⟩
theorem eL_law_2277 : z_ld mL_law 2277 6 2279 := Or.inr ⟨z_D DL_law_ok 1330 rfl, rfl⟩
theorem eL_law_2279 : z_br mL_law 2279 (.ifCond .ne 15) (15) 2282 2294 := ⟨z_D DL_law_ok 1331 rfl, rfl, by decide⟩
theorem eL_law_2282 : z_ad mL_law 2282 3 2283 := Or.inl ⟨3, z_D DL_law_ok 1332 rfl, rfl, rfl⟩
theorem eL_law_2283 : z_co mL_law 2283 (0) 2284 := Or.inl ⟨z_D DL_law_ok 1333 rfl, rfl⟩
theorem eL_law_2284 : z_at mL_law 2284 (.laload) 1 2285 := ⟨z_D DL_law_ok 1334 rfl, rfl⟩
theorem eL_law_2285 : z_ld mL_law 2285 7 2287 := Or.inr ⟨z_D DL_law_ok 1335 rfl, rfl⟩
theorem eL_law_2287 : z_at mL_law 2287 (.i2l) 1 2288 := ⟨z_D DL_law_ok 1336 rfl, rfl⟩
theorem eL_law_2288 : z_at mL_law 2288 (.lcmp) 1 2289 := ⟨z_D DL_law_ok 1337 rfl, rfl⟩
theorem eL_law_2289 : z_br mL_law 2289 (.ifCond .eq 5) (5) 2292 2294 := ⟨z_D DL_law_ok 1338 rfl, rfl, by decide⟩
theorem eL_law_2292 : z_co mL_law 2292 (0) 2293 := Or.inl ⟨z_D DL_law_ok 1339 rfl, rfl⟩
theorem eL_law_2293 : z_at mL_law 2293 (.ireturn) 1 2294 := ⟨z_D DL_law_ok 1340 rfl, rfl⟩
theorem eL_law_2294 : z_br mL_law 2294 (.goto 687) (687) 2297 2981 := ⟨z_D DL_law_ok 1341 rfl, rfl, by decide⟩
theorem eL_law_2297 : z_ad mL_law 2297 1 2298 := Or.inl ⟨1, z_D DL_law_ok 1342 rfl, rfl, rfl⟩
theorem eL_law_2298 : z_ad mL_law 2298 0 2299 := Or.inl ⟨0, z_D DL_law_ok 1343 rfl, rfl, rfl⟩
theorem eL_law_2299 : z_ld mL_law 2299 5 2301 := Or.inr ⟨z_D DL_law_ok 1344 rfl, rfl⟩
theorem eL_law_2301 : z_co mL_law 2301 (1) 2302 := Or.inl ⟨z_D DL_law_ok 1345 rfl, rfl⟩
theorem eL_law_2302 : z_at mL_law 2302 (.iadd) 1 2303 := ⟨z_D DL_law_ok 1346 rfl, rfl⟩
theorem eL_law_2303 : z_at mL_law 2303 (.iaload) 1 2304 := ⟨z_D DL_law_ok 1347 rfl, rfl⟩
theorem eL_law_2304 : z_ad mL_law 2304 0 2305 := Or.inl ⟨0, z_D DL_law_ok 1348 rfl, rfl, rfl⟩
theorem eL_law_2305 : z_ld mL_law 2305 5 2307 := Or.inr ⟨z_D DL_law_ok 1349 rfl, rfl⟩
theorem eL_law_2307 : z_co mL_law 2307 (2) 2308 := Or.inl ⟨z_D DL_law_ok 1350 rfl, rfl⟩
theorem eL_law_2308 : z_at mL_law 2308 (.iadd) 1 2309 := ⟨z_D DL_law_ok 1351 rfl, rfl⟩
theorem eL_law_2309 : z_at mL_law 2309 (.iaload) 1 2310 := ⟨z_D DL_law_ok 1352 rfl, rfl⟩
theorem eL_law_2310 : z_ad mL_law 2310 3 2311 := Or.inl ⟨3, z_D DL_law_ok 1353 rfl, rfl, rfl⟩
theorem eL_law_2311 : z_at mL_law 2311 (.invokestatic 281) 3 2314 ∧ z_lk mL_law.1.cls 281 mL_inForm.1 ∧ z_mtH mL_inForm hL_inForm 4 ∧ Cond.static mL_inForm.1 ∈ lw_tbl := ⟨⟨z_D DL_law_ok 1354 rfl, rfl⟩, Or.inl w6_92, tL_inForm, sL_inForm⟩
theorem eL_law_2314 : z_sd mL_law 2314 6 2316 := ⟨Or.inr ⟨z_D DL_law_ok 1355 rfl, rfl⟩, by decide⟩
theorem eL_law_2316 : z_ad mL_law 2316 2 2317 := Or.inl ⟨2, z_D DL_law_ok 1356 rfl, rfl, rfl⟩
theorem eL_law_2317 : z_ad mL_law 2317 0 2318 := Or.inl ⟨0, z_D DL_law_ok 1357 rfl, rfl, rfl⟩
theorem eL_law_2318 : z_ld mL_law 2318 5 2320 := Or.inr ⟨z_D DL_law_ok 1358 rfl, rfl⟩
theorem eL_law_2320 : z_co mL_law 2320 (1) 2321 := Or.inl ⟨z_D DL_law_ok 1359 rfl, rfl⟩
theorem eL_law_2321 : z_at mL_law 2321 (.iadd) 1 2322 := ⟨z_D DL_law_ok 1360 rfl, rfl⟩
theorem eL_law_2322 : z_at mL_law 2322 (.iaload) 1 2323 := ⟨z_D DL_law_ok 1361 rfl, rfl⟩
theorem eL_law_2323 : z_ad mL_law 2323 0 2324 := Or.inl ⟨0, z_D DL_law_ok 1362 rfl, rfl, rfl⟩
theorem eL_law_2324 : z_ld mL_law 2324 5 2326 := Or.inr ⟨z_D DL_law_ok 1363 rfl, rfl⟩
theorem eL_law_2326 : z_co mL_law 2326 (2) 2327 := Or.inl ⟨z_D DL_law_ok 1364 rfl, rfl⟩
theorem eL_law_2327 : z_at mL_law 2327 (.iadd) 1 2328 := ⟨z_D DL_law_ok 1365 rfl, rfl⟩
theorem eL_law_2328 : z_at mL_law 2328 (.iaload) 1 2329 := ⟨z_D DL_law_ok 1366 rfl, rfl⟩
theorem eL_law_2329 : z_at mL_law 2329 (.invokevirtual 283) 3 2332 ∧ z_lk mL_law.1.cls 283 mX8_inForm.1 ∧ z_mt mX8_inForm 2 ∧ z_mv mX8_inForm 8 := ⟨⟨z_D DL_law_ok 1367 rfl, rfl⟩, Or.inl w8_119, tX8_inForm, vX8_inForm⟩
theorem eL_law_2332 : z_sd mL_law 2332 7 2334 := ⟨Or.inr ⟨z_D DL_law_ok 1368 rfl, rfl⟩, by decide⟩
theorem eL_law_2334 : z_ad mL_law 2334 2 2335 := Or.inl ⟨2, z_D DL_law_ok 1369 rfl, rfl, rfl⟩
theorem eL_law_2335 : z_at mL_law 2335 (.invokevirtual 152) 3 2338 ∧ z_lk mL_law.1.cls 152 mX8_thrown.1 ∧ z_mt mX8_thrown 0 ∧ z_mv mX8_thrown 8 := ⟨⟨z_D DL_law_ok 1370 rfl, rfl⟩, Or.inl w6_213, tX8_thrown, vX8_thrown⟩
theorem eL_law_2338 : z_ld mL_law 2338 6 2340 := Or.inr ⟨z_D DL_law_ok 1371 rfl, rfl⟩
theorem eL_law_2340 : z_br mL_law 2340 (.if_icmp .eq 5) (5) 2343 2345 := ⟨z_D DL_law_ok 1372 rfl, rfl, by decide⟩
theorem eL_law_2343 : z_co mL_law 2343 (0) 2344 := Or.inl ⟨z_D DL_law_ok 1373 rfl, rfl⟩
theorem eL_law_2344 : z_at mL_law 2344 (.ireturn) 1 2345 := ⟨z_D DL_law_ok 1374 rfl, rfl⟩
theorem eL_law_2345 : z_ld mL_law 2345 6 2347 := Or.inr ⟨z_D DL_law_ok 1375 rfl, rfl⟩
theorem eL_law_2347 : z_br mL_law 2347 (.ifCond .ne 15) (15) 2350 2362 := ⟨z_D DL_law_ok 1376 rfl, rfl, by decide⟩
theorem eL_law_2350 : z_ad mL_law 2350 3 2351 := Or.inl ⟨3, z_D DL_law_ok 1377 rfl, rfl, rfl⟩
theorem eL_law_2351 : z_co mL_law 2351 (0) 2352 := Or.inl ⟨z_D DL_law_ok 1378 rfl, rfl⟩
theorem eL_law_2352 : z_at mL_law 2352 (.laload) 1 2353 := ⟨z_D DL_law_ok 1379 rfl, rfl⟩
theorem eL_law_2353 : z_ld mL_law 2353 7 2355 := Or.inr ⟨z_D DL_law_ok 1380 rfl, rfl⟩
theorem eL_law_2355 : z_at mL_law 2355 (.i2l) 1 2356 := ⟨z_D DL_law_ok 1381 rfl, rfl⟩
theorem eL_law_2356 : z_at mL_law 2356 (.lcmp) 1 2357 := ⟨z_D DL_law_ok 1382 rfl, rfl⟩
theorem eL_law_2357 : z_br mL_law 2357 (.ifCond .eq 5) (5) 2360 2362 := ⟨z_D DL_law_ok 1383 rfl, rfl, by decide⟩
theorem eL_law_2360 : z_co mL_law 2360 (0) 2361 := Or.inl ⟨z_D DL_law_ok 1384 rfl, rfl⟩
theorem eL_law_2361 : z_at mL_law 2361 (.ireturn) 1 2362 := ⟨z_D DL_law_ok 1385 rfl, rfl⟩
theorem eL_law_2362 : z_br mL_law 2362 (.goto 619) (619) 2365 2981 := ⟨z_D DL_law_ok 1386 rfl, rfl, by decide⟩
theorem eL_law_2365 : z_ad mL_law 2365 1 2366 := Or.inl ⟨1, z_D DL_law_ok 1387 rfl, rfl, rfl⟩
theorem eL_law_2366 : z_ad mL_law 2366 0 2367 := Or.inl ⟨0, z_D DL_law_ok 1388 rfl, rfl, rfl⟩
theorem eL_law_2367 : z_ld mL_law 2367 5 2369 := Or.inr ⟨z_D DL_law_ok 1389 rfl, rfl⟩
theorem eL_law_2369 : z_co mL_law 2369 (1) 2370 := Or.inl ⟨z_D DL_law_ok 1390 rfl, rfl⟩
theorem eL_law_2370 : z_at mL_law 2370 (.iadd) 1 2371 := ⟨z_D DL_law_ok 1391 rfl, rfl⟩
theorem eL_law_2371 : z_at mL_law 2371 (.iaload) 1 2372 := ⟨z_D DL_law_ok 1392 rfl, rfl⟩
theorem eL_law_2372 : z_ad mL_law 2372 0 2373 := Or.inl ⟨0, z_D DL_law_ok 1393 rfl, rfl, rfl⟩
theorem eL_law_2373 : z_ld mL_law 2373 5 2375 := Or.inr ⟨z_D DL_law_ok 1394 rfl, rfl⟩
theorem eL_law_2375 : z_co mL_law 2375 (2) 2376 := Or.inl ⟨z_D DL_law_ok 1395 rfl, rfl⟩
theorem eL_law_2376 : z_at mL_law 2376 (.iadd) 1 2377 := ⟨z_D DL_law_ok 1396 rfl, rfl⟩
theorem eL_law_2377 : z_at mL_law 2377 (.iaload) 1 2378 := ⟨z_D DL_law_ok 1397 rfl, rfl⟩
theorem eL_law_2378 : z_ad mL_law 2378 3 2379 := Or.inl ⟨3, z_D DL_law_ok 1398 rfl, rfl, rfl⟩
theorem eL_law_2379 : z_at mL_law 2379 (.invokestatic 284) 3 2382 ∧ z_lk mL_law.1.cls 284 mL_placeThen.1 ∧ z_mtH mL_placeThen hL_placeThen 4 ∧ Cond.static mL_placeThen.1 ∈ lw_tbl := ⟨⟨z_D DL_law_ok 1399 rfl, rfl⟩, Or.inl w6_99, tL_placeThen, sL_placeThen⟩
theorem eL_law_2382 : z_sd mL_law 2382 6 2384 := ⟨Or.inr ⟨z_D DL_law_ok 1400 rfl, rfl⟩, by decide⟩
theorem eL_law_2384 : z_ad mL_law 2384 2 2385 := Or.inl ⟨2, z_D DL_law_ok 1401 rfl, rfl, rfl⟩
theorem eL_law_2385 : z_ad mL_law 2385 0 2386 := Or.inl ⟨0, z_D DL_law_ok 1402 rfl, rfl, rfl⟩
theorem eL_law_2386 : z_ld mL_law 2386 5 2388 := Or.inr ⟨z_D DL_law_ok 1403 rfl, rfl⟩
theorem eL_law_2388 : z_co mL_law 2388 (1) 2389 := Or.inl ⟨z_D DL_law_ok 1404 rfl, rfl⟩
theorem eL_law_2389 : z_at mL_law 2389 (.iadd) 1 2390 := ⟨z_D DL_law_ok 1405 rfl, rfl⟩
theorem eL_law_2390 : z_at mL_law 2390 (.iaload) 1 2391 := ⟨z_D DL_law_ok 1406 rfl, rfl⟩
theorem eL_law_2391 : z_ad mL_law 2391 0 2392 := Or.inl ⟨0, z_D DL_law_ok 1407 rfl, rfl, rfl⟩
theorem eL_law_2392 : z_ld mL_law 2392 5 2394 := Or.inr ⟨z_D DL_law_ok 1408 rfl, rfl⟩
theorem eL_law_2394 : z_co mL_law 2394 (2) 2395 := Or.inl ⟨z_D DL_law_ok 1409 rfl, rfl⟩
theorem eL_law_2395 : z_at mL_law 2395 (.iadd) 1 2396 := ⟨z_D DL_law_ok 1410 rfl, rfl⟩
theorem eL_law_2396 : z_at mL_law 2396 (.iaload) 1 2397 := ⟨z_D DL_law_ok 1411 rfl, rfl⟩
theorem eL_law_2397 : z_at mL_law 2397 (.invokevirtual 286) 3 2400 ∧ z_lk mL_law.1.cls 286 mX8_placeThen.1 ∧ z_mt mX8_placeThen 2 ∧ z_mv mX8_placeThen 8 := ⟨⟨z_D DL_law_ok 1412 rfl, rfl⟩, Or.inl w8_123, tX8_placeThen, vX8_placeThen⟩
theorem eL_law_2400 : z_sd mL_law 2400 7 2402 := ⟨Or.inr ⟨z_D DL_law_ok 1413 rfl, rfl⟩, by decide⟩
theorem eL_law_2402 : z_ad mL_law 2402 2 2403 := Or.inl ⟨2, z_D DL_law_ok 1414 rfl, rfl, rfl⟩
theorem eL_law_2403 : z_at mL_law 2403 (.invokevirtual 152) 3 2406 ∧ z_lk mL_law.1.cls 152 mX8_thrown.1 ∧ z_mt mX8_thrown 0 ∧ z_mv mX8_thrown 8 := ⟨⟨z_D DL_law_ok 1415 rfl, rfl⟩, Or.inl w6_213, tX8_thrown, vX8_thrown⟩
theorem eL_law_2406 : z_ld mL_law 2406 6 2408 := Or.inr ⟨z_D DL_law_ok 1416 rfl, rfl⟩
theorem eL_law_2408 : z_br mL_law 2408 (.if_icmp .eq 5) (5) 2411 2413 := ⟨z_D DL_law_ok 1417 rfl, rfl, by decide⟩
theorem eL_law_2411 : z_co mL_law 2411 (0) 2412 := Or.inl ⟨z_D DL_law_ok 1418 rfl, rfl⟩
theorem eL_law_2412 : z_at mL_law 2412 (.ireturn) 1 2413 := ⟨z_D DL_law_ok 1419 rfl, rfl⟩
theorem eL_law_2413 : z_ld mL_law 2413 6 2415 := Or.inr ⟨z_D DL_law_ok 1420 rfl, rfl⟩
theorem eL_law_2415 : z_br mL_law 2415 (.ifCond .ne 15) (15) 2418 2430 := ⟨z_D DL_law_ok 1421 rfl, rfl, by decide⟩
theorem eL_law_2418 : z_ad mL_law 2418 3 2419 := Or.inl ⟨3, z_D DL_law_ok 1422 rfl, rfl, rfl⟩
theorem eL_law_2419 : z_co mL_law 2419 (0) 2420 := Or.inl ⟨z_D DL_law_ok 1423 rfl, rfl⟩
theorem eL_law_2420 : z_at mL_law 2420 (.laload) 1 2421 := ⟨z_D DL_law_ok 1424 rfl, rfl⟩
theorem eL_law_2421 : z_ld mL_law 2421 7 2423 := Or.inr ⟨z_D DL_law_ok 1425 rfl, rfl⟩
theorem eL_law_2423 : z_at mL_law 2423 (.i2l) 1 2424 := ⟨z_D DL_law_ok 1426 rfl, rfl⟩
theorem eL_law_2424 : z_at mL_law 2424 (.lcmp) 1 2425 := ⟨z_D DL_law_ok 1427 rfl, rfl⟩
theorem eL_law_2425 : z_br mL_law 2425 (.ifCond .eq 5) (5) 2428 2430 := ⟨z_D DL_law_ok 1428 rfl, rfl, by decide⟩
theorem eL_law_2428 : z_co mL_law 2428 (0) 2429 := Or.inl ⟨z_D DL_law_ok 1429 rfl, rfl⟩
theorem eL_law_2429 : z_at mL_law 2429 (.ireturn) 1 2430 := ⟨z_D DL_law_ok 1430 rfl, rfl⟩
theorem eL_law_2430 : z_br mL_law 2430 (.goto 551) (551) 2433 2981 := ⟨z_D DL_law_ok 1431 rfl, rfl, by decide⟩
theorem eL_law_2433 : z_ad mL_law 2433 1 2434 := Or.inl ⟨1, z_D DL_law_ok 1432 rfl, rfl, rfl⟩
theorem eL_law_2434 : z_ad mL_law 2434 0 2435 := Or.inl ⟨0, z_D DL_law_ok 1433 rfl, rfl, rfl⟩
theorem eL_law_2435 : z_ld mL_law 2435 5 2437 := Or.inr ⟨z_D DL_law_ok 1434 rfl, rfl⟩
theorem eL_law_2437 : z_co mL_law 2437 (1) 2438 := Or.inl ⟨z_D DL_law_ok 1435 rfl, rfl⟩
theorem eL_law_2438 : z_at mL_law 2438 (.iadd) 1 2439 := ⟨z_D DL_law_ok 1436 rfl, rfl⟩
theorem eL_law_2439 : z_at mL_law 2439 (.iaload) 1 2440 := ⟨z_D DL_law_ok 1437 rfl, rfl⟩
theorem eL_law_2440 : z_ad mL_law 2440 3 2441 := Or.inl ⟨3, z_D DL_law_ok 1438 rfl, rfl, rfl⟩
theorem eL_law_2441 : z_at mL_law 2441 (.invokestatic 287) 3 2444 ∧ z_lk mL_law.1.cls 287 mL_climb.1 ∧ z_mtH mL_climb hL_climb 3 ∧ Cond.static mL_climb.1 ∈ lw_tbl := ⟨⟨z_D DL_law_ok 1439 rfl, rfl⟩, Or.inl w6_116, tL_climb, sL_climb⟩
theorem eL_law_2444 : z_sd mL_law 2444 6 2446 := ⟨Or.inr ⟨z_D DL_law_ok 1440 rfl, rfl⟩, by decide⟩
theorem eL_law_2446 : z_ad mL_law 2446 2 2447 := Or.inl ⟨2, z_D DL_law_ok 1441 rfl, rfl, rfl⟩
theorem eL_law_2447 : z_ad mL_law 2447 0 2448 := Or.inl ⟨0, z_D DL_law_ok 1442 rfl, rfl, rfl⟩
theorem eL_law_2448 : z_ld mL_law 2448 5 2450 := Or.inr ⟨z_D DL_law_ok 1443 rfl, rfl⟩
theorem eL_law_2450 : z_co mL_law 2450 (1) 2451 := Or.inl ⟨z_D DL_law_ok 1444 rfl, rfl⟩
theorem eL_law_2451 : z_at mL_law 2451 (.iadd) 1 2452 := ⟨z_D DL_law_ok 1445 rfl, rfl⟩
theorem eL_law_2452 : z_at mL_law 2452 (.iaload) 1 2453 := ⟨z_D DL_law_ok 1446 rfl, rfl⟩
theorem eL_law_2453 : z_at mL_law 2453 (.invokevirtual 289) 3 2456 ∧ z_lk mL_law.1.cls 289 mX8_climb.1 ∧ z_mt mX8_climb 1 ∧ z_mv mX8_climb 8 := ⟨⟨z_D DL_law_ok 1447 rfl, rfl⟩, Or.inl w8_135, tX8_climb, vX8_climb⟩
theorem eL_law_2456 : z_sd mL_law 2456 7 2458 := ⟨Or.inr ⟨z_D DL_law_ok 1448 rfl, rfl⟩, by decide⟩
theorem eL_law_2458 : z_ad mL_law 2458 2 2459 := Or.inl ⟨2, z_D DL_law_ok 1449 rfl, rfl, rfl⟩
theorem eL_law_2459 : z_at mL_law 2459 (.invokevirtual 152) 3 2462 ∧ z_lk mL_law.1.cls 152 mX8_thrown.1 ∧ z_mt mX8_thrown 0 ∧ z_mv mX8_thrown 8 := ⟨⟨z_D DL_law_ok 1450 rfl, rfl⟩, Or.inl w6_213, tX8_thrown, vX8_thrown⟩
theorem eL_law_2462 : z_ld mL_law 2462 6 2464 := Or.inr ⟨z_D DL_law_ok 1451 rfl, rfl⟩
theorem eL_law_2464 : z_br mL_law 2464 (.if_icmp .eq 5) (5) 2467 2469 := ⟨z_D DL_law_ok 1452 rfl, rfl, by decide⟩
theorem eL_law_2467 : z_co mL_law 2467 (0) 2468 := Or.inl ⟨z_D DL_law_ok 1453 rfl, rfl⟩
theorem eL_law_2468 : z_at mL_law 2468 (.ireturn) 1 2469 := ⟨z_D DL_law_ok 1454 rfl, rfl⟩
theorem eL_law_2469 : z_ld mL_law 2469 6 2471 := Or.inr ⟨z_D DL_law_ok 1455 rfl, rfl⟩
theorem eL_law_2471 : z_br mL_law 2471 (.ifCond .ne 15) (15) 2474 2486 := ⟨z_D DL_law_ok 1456 rfl, rfl, by decide⟩
theorem eL_law_2474 : z_ad mL_law 2474 3 2475 := Or.inl ⟨3, z_D DL_law_ok 1457 rfl, rfl, rfl⟩
theorem eL_law_2475 : z_co mL_law 2475 (0) 2476 := Or.inl ⟨z_D DL_law_ok 1458 rfl, rfl⟩
theorem eL_law_2476 : z_at mL_law 2476 (.laload) 1 2477 := ⟨z_D DL_law_ok 1459 rfl, rfl⟩
theorem eL_law_2477 : z_ld mL_law 2477 7 2479 := Or.inr ⟨z_D DL_law_ok 1460 rfl, rfl⟩
theorem eL_law_2479 : z_at mL_law 2479 (.i2l) 1 2480 := ⟨z_D DL_law_ok 1461 rfl, rfl⟩
theorem eL_law_2480 : z_at mL_law 2480 (.lcmp) 1 2481 := ⟨z_D DL_law_ok 1462 rfl, rfl⟩
theorem eL_law_2481 : z_br mL_law 2481 (.ifCond .eq 5) (5) 2484 2486 := ⟨z_D DL_law_ok 1463 rfl, rfl, by decide⟩
theorem eL_law_2484 : z_co mL_law 2484 (0) 2485 := Or.inl ⟨z_D DL_law_ok 1464 rfl, rfl⟩
theorem eL_law_2485 : z_at mL_law 2485 (.ireturn) 1 2486 := ⟨z_D DL_law_ok 1465 rfl, rfl⟩
theorem eL_law_2486 : z_br mL_law 2486 (.goto 495) (495) 2489 2981 := ⟨z_D DL_law_ok 1466 rfl, rfl, by decide⟩
theorem eL_law_2489 : z_ad mL_law 2489 1 2490 := Or.inl ⟨1, z_D DL_law_ok 1467 rfl, rfl, rfl⟩
theorem eL_law_2490 : z_ad mL_law 2490 0 2491 := Or.inl ⟨0, z_D DL_law_ok 1468 rfl, rfl, rfl⟩
theorem eL_law_2491 : z_ld mL_law 2491 5 2493 := Or.inr ⟨z_D DL_law_ok 1469 rfl, rfl⟩
theorem eL_law_2493 : z_co mL_law 2493 (1) 2494 := Or.inl ⟨z_D DL_law_ok 1470 rfl, rfl⟩
theorem eL_law_2494 : z_at mL_law 2494 (.iadd) 1 2495 := ⟨z_D DL_law_ok 1471 rfl, rfl⟩
theorem eL_law_2495 : z_at mL_law 2495 (.iaload) 1 2496 := ⟨z_D DL_law_ok 1472 rfl, rfl⟩
theorem eL_law_2496 : z_ad mL_law 2496 3 2497 := Or.inl ⟨3, z_D DL_law_ok 1473 rfl, rfl, rfl⟩
theorem eL_law_2497 : z_at mL_law 2497 (.invokestatic 290) 3 2500 ∧ z_lk mL_law.1.cls 290 mL_best.1 ∧ z_mtH mL_best hL_best 3 ∧ Cond.static mL_best.1 ∈ lw_tbl := ⟨⟨z_D DL_law_ok 1474 rfl, rfl⟩, Or.inl w6_123, tL_best, sL_best⟩
theorem eL_law_2500 : z_sd mL_law 2500 6 2502 := ⟨Or.inr ⟨z_D DL_law_ok 1475 rfl, rfl⟩, by decide⟩
theorem eL_law_2502 : z_ad mL_law 2502 2 2503 := Or.inl ⟨2, z_D DL_law_ok 1476 rfl, rfl, rfl⟩
theorem eL_law_2503 : z_ad mL_law 2503 0 2504 := Or.inl ⟨0, z_D DL_law_ok 1477 rfl, rfl, rfl⟩
theorem eL_law_2504 : z_ld mL_law 2504 5 2506 := Or.inr ⟨z_D DL_law_ok 1478 rfl, rfl⟩
theorem eL_law_2506 : z_co mL_law 2506 (1) 2507 := Or.inl ⟨z_D DL_law_ok 1479 rfl, rfl⟩
theorem eL_law_2507 : z_at mL_law 2507 (.iadd) 1 2508 := ⟨z_D DL_law_ok 1480 rfl, rfl⟩
theorem eL_law_2508 : z_at mL_law 2508 (.iaload) 1 2509 := ⟨z_D DL_law_ok 1481 rfl, rfl⟩
theorem eL_law_2509 : z_at mL_law 2509 (.invokevirtual 292) 3 2512 ∧ z_lk mL_law.1.cls 292 mX8_best.1 ∧ z_mt mX8_best 1 ∧ z_mv mX8_best 8 := ⟨⟨z_D DL_law_ok 1482 rfl, rfl⟩, Or.inl w8_139, tX8_best, vX8_best⟩
theorem eL_law_2512 : z_sd mL_law 2512 7 2514 := ⟨Or.inr ⟨z_D DL_law_ok 1483 rfl, rfl⟩, by decide⟩
theorem eL_law_2514 : z_ad mL_law 2514 2 2515 := Or.inl ⟨2, z_D DL_law_ok 1484 rfl, rfl, rfl⟩
theorem eL_law_2515 : z_at mL_law 2515 (.invokevirtual 152) 3 2518 ∧ z_lk mL_law.1.cls 152 mX8_thrown.1 ∧ z_mt mX8_thrown 0 ∧ z_mv mX8_thrown 8 := ⟨⟨z_D DL_law_ok 1485 rfl, rfl⟩, Or.inl w6_213, tX8_thrown, vX8_thrown⟩
theorem eL_law_2518 : z_ld mL_law 2518 6 2520 := Or.inr ⟨z_D DL_law_ok 1486 rfl, rfl⟩
theorem eL_law_2520 : z_br mL_law 2520 (.if_icmp .eq 5) (5) 2523 2525 := ⟨z_D DL_law_ok 1487 rfl, rfl, by decide⟩
theorem eL_law_2523 : z_co mL_law 2523 (0) 2524 := Or.inl ⟨z_D DL_law_ok 1488 rfl, rfl⟩
theorem eL_law_2524 : z_at mL_law 2524 (.ireturn) 1 2525 := ⟨z_D DL_law_ok 1489 rfl, rfl⟩
theorem eL_law_2525 : z_ld mL_law 2525 6 2527 := Or.inr ⟨z_D DL_law_ok 1490 rfl, rfl⟩
theorem eL_law_2527 : z_br mL_law 2527 (.ifCond .ne 15) (15) 2530 2542 := ⟨z_D DL_law_ok 1491 rfl, rfl, by decide⟩
theorem eL_law_2530 : z_ad mL_law 2530 3 2531 := Or.inl ⟨3, z_D DL_law_ok 1492 rfl, rfl, rfl⟩
theorem eL_law_2531 : z_co mL_law 2531 (0) 2532 := Or.inl ⟨z_D DL_law_ok 1493 rfl, rfl⟩
theorem eL_law_2532 : z_at mL_law 2532 (.laload) 1 2533 := ⟨z_D DL_law_ok 1494 rfl, rfl⟩
theorem eL_law_2533 : z_ld mL_law 2533 7 2535 := Or.inr ⟨z_D DL_law_ok 1495 rfl, rfl⟩
theorem eL_law_2535 : z_at mL_law 2535 (.i2l) 1 2536 := ⟨z_D DL_law_ok 1496 rfl, rfl⟩
theorem eL_law_2536 : z_at mL_law 2536 (.lcmp) 1 2537 := ⟨z_D DL_law_ok 1497 rfl, rfl⟩
theorem eL_law_2537 : z_br mL_law 2537 (.ifCond .eq 5) (5) 2540 2542 := ⟨z_D DL_law_ok 1498 rfl, rfl, by decide⟩
theorem eL_law_2540 : z_co mL_law 2540 (0) 2541 := Or.inl ⟨z_D DL_law_ok 1499 rfl, rfl⟩
theorem eL_law_2541 : z_at mL_law 2541 (.ireturn) 1 2542 := ⟨z_D DL_law_ok 1500 rfl, rfl⟩
theorem eL_law_2542 : z_br mL_law 2542 (.goto 439) (439) 2545 2981 := ⟨z_D DL_law_ok 1501 rfl, rfl, by decide⟩
theorem eL_law_2545 : z_ad mL_law 2545 1 2546 := Or.inl ⟨1, z_D DL_law_ok 1502 rfl, rfl, rfl⟩
theorem eL_law_2546 : z_ad mL_law 2546 0 2547 := Or.inl ⟨0, z_D DL_law_ok 1503 rfl, rfl, rfl⟩
theorem eL_law_2547 : z_ld mL_law 2547 5 2549 := Or.inr ⟨z_D DL_law_ok 1504 rfl, rfl⟩
theorem eL_law_2549 : z_co mL_law 2549 (1) 2550 := Or.inl ⟨z_D DL_law_ok 1505 rfl, rfl⟩
theorem eL_law_2550 : z_at mL_law 2550 (.iadd) 1 2551 := ⟨z_D DL_law_ok 1506 rfl, rfl⟩
theorem eL_law_2551 : z_at mL_law 2551 (.iaload) 1 2552 := ⟨z_D DL_law_ok 1507 rfl, rfl⟩
theorem eL_law_2552 : z_ad mL_law 2552 3 2553 := Or.inl ⟨3, z_D DL_law_ok 1508 rfl, rfl, rfl⟩
theorem eL_law_2553 : z_at mL_law 2553 (.invokestatic 293) 3 2556 ∧ z_lk mL_law.1.cls 293 mL_members.1 ∧ z_mtH mL_members hL_members 3 ∧ Cond.static mL_members.1 ∈ lw_tbl := ⟨⟨z_D DL_law_ok 1509 rfl, rfl⟩, Or.inl w6_134, tL_members, sL_members⟩
theorem eL_law_2556 : z_sd mL_law 2556 6 2558 := ⟨Or.inr ⟨z_D DL_law_ok 1510 rfl, rfl⟩, by decide⟩
theorem eL_law_2558 : z_ad mL_law 2558 2 2559 := Or.inl ⟨2, z_D DL_law_ok 1511 rfl, rfl, rfl⟩
theorem eL_law_2559 : z_ad mL_law 2559 0 2560 := Or.inl ⟨0, z_D DL_law_ok 1512 rfl, rfl, rfl⟩
theorem eL_law_2560 : z_ld mL_law 2560 5 2562 := Or.inr ⟨z_D DL_law_ok 1513 rfl, rfl⟩
theorem eL_law_2562 : z_co mL_law 2562 (1) 2563 := Or.inl ⟨z_D DL_law_ok 1514 rfl, rfl⟩
theorem eL_law_2563 : z_at mL_law 2563 (.iadd) 1 2564 := ⟨z_D DL_law_ok 1515 rfl, rfl⟩
theorem eL_law_2564 : z_at mL_law 2564 (.iaload) 1 2565 := ⟨z_D DL_law_ok 1516 rfl, rfl⟩
theorem eL_law_2565 : z_at mL_law 2565 (.invokevirtual 295) 3 2568 ∧ z_lk mL_law.1.cls 295 mX8_members.1 ∧ z_mt mX8_members 1 ∧ z_mv mX8_members 8 := ⟨⟨z_D DL_law_ok 1517 rfl, rfl⟩, Or.inl w8_151, tX8_members, vX8_members⟩
theorem eL_law_2568 : z_sd mL_law 2568 7 2570 := ⟨Or.inr ⟨z_D DL_law_ok 1518 rfl, rfl⟩, by decide⟩
theorem eL_law_2570 : z_ad mL_law 2570 2 2571 := Or.inl ⟨2, z_D DL_law_ok 1519 rfl, rfl, rfl⟩
theorem eL_law_2571 : z_at mL_law 2571 (.invokevirtual 152) 3 2574 ∧ z_lk mL_law.1.cls 152 mX8_thrown.1 ∧ z_mt mX8_thrown 0 ∧ z_mv mX8_thrown 8 := ⟨⟨z_D DL_law_ok 1520 rfl, rfl⟩, Or.inl w6_213, tX8_thrown, vX8_thrown⟩
theorem eL_law_2574 : z_ld mL_law 2574 6 2576 := Or.inr ⟨z_D DL_law_ok 1521 rfl, rfl⟩
theorem eL_law_2576 : z_br mL_law 2576 (.if_icmp .eq 5) (5) 2579 2581 := ⟨z_D DL_law_ok 1522 rfl, rfl, by decide⟩
theorem eL_law_2579 : z_co mL_law 2579 (0) 2580 := Or.inl ⟨z_D DL_law_ok 1523 rfl, rfl⟩
theorem eL_law_2580 : z_at mL_law 2580 (.ireturn) 1 2581 := ⟨z_D DL_law_ok 1524 rfl, rfl⟩
theorem eL_law_2581 : z_ld mL_law 2581 6 2583 := Or.inr ⟨z_D DL_law_ok 1525 rfl, rfl⟩
theorem eL_law_2583 : z_br mL_law 2583 (.ifCond .ne 15) (15) 2586 2598 := ⟨z_D DL_law_ok 1526 rfl, rfl, by decide⟩
theorem eL_law_2586 : z_ad mL_law 2586 3 2587 := Or.inl ⟨3, z_D DL_law_ok 1527 rfl, rfl, rfl⟩
theorem eL_law_2587 : z_co mL_law 2587 (0) 2588 := Or.inl ⟨z_D DL_law_ok 1528 rfl, rfl⟩
theorem eL_law_2588 : z_at mL_law 2588 (.laload) 1 2589 := ⟨z_D DL_law_ok 1529 rfl, rfl⟩
theorem eL_law_2589 : z_ld mL_law 2589 7 2591 := Or.inr ⟨z_D DL_law_ok 1530 rfl, rfl⟩
theorem eL_law_2591 : z_at mL_law 2591 (.i2l) 1 2592 := ⟨z_D DL_law_ok 1531 rfl, rfl⟩
theorem eL_law_2592 : z_at mL_law 2592 (.lcmp) 1 2593 := ⟨z_D DL_law_ok 1532 rfl, rfl⟩
theorem eL_law_2593 : z_br mL_law 2593 (.ifCond .eq 5) (5) 2596 2598 := ⟨z_D DL_law_ok 1533 rfl, rfl, by decide⟩
theorem eL_law_2596 : z_co mL_law 2596 (0) 2597 := Or.inl ⟨z_D DL_law_ok 1534 rfl, rfl⟩
theorem eL_law_2597 : z_at mL_law 2597 (.ireturn) 1 2598 := ⟨z_D DL_law_ok 1535 rfl, rfl⟩
theorem eL_law_2598 : z_br mL_law 2598 (.goto 383) (383) 2601 2981 := ⟨z_D DL_law_ok 1536 rfl, rfl, by decide⟩
theorem eL_law_2601 : z_ad mL_law 2601 1 2602 := Or.inl ⟨1, z_D DL_law_ok 1537 rfl, rfl, rfl⟩
theorem eL_law_2602 : z_ad mL_law 2602 0 2603 := Or.inl ⟨0, z_D DL_law_ok 1538 rfl, rfl, rfl⟩
theorem eL_law_2603 : z_ld mL_law 2603 5 2605 := Or.inr ⟨z_D DL_law_ok 1539 rfl, rfl⟩
theorem eL_law_2605 : z_co mL_law 2605 (1) 2606 := Or.inl ⟨z_D DL_law_ok 1540 rfl, rfl⟩
theorem eL_law_2606 : z_at mL_law 2606 (.iadd) 1 2607 := ⟨z_D DL_law_ok 1541 rfl, rfl⟩
theorem eL_law_2607 : z_at mL_law 2607 (.iaload) 1 2608 := ⟨z_D DL_law_ok 1542 rfl, rfl⟩
theorem eL_law_2608 : z_ad mL_law 2608 3 2609 := Or.inl ⟨3, z_D DL_law_ok 1543 rfl, rfl, rfl⟩
theorem eL_law_2609 : z_at mL_law 2609 (.invokestatic 296) 3 2612 ∧ z_lk mL_law.1.cls 296 mL_teamScore.1 ∧ z_mtH mL_teamScore hL_teamScore 3 ∧ Cond.static mL_teamScore.1 ∈ lw_tbl := ⟨⟨z_D DL_law_ok 1544 rfl, rfl⟩, Or.inl w6_145, tL_teamScore, sL_teamScore⟩
theorem eL_law_2612 : z_sd mL_law 2612 6 2614 := ⟨Or.inr ⟨z_D DL_law_ok 1545 rfl, rfl⟩, by decide⟩
theorem eL_law_2614 : z_ad mL_law 2614 2 2615 := Or.inl ⟨2, z_D DL_law_ok 1546 rfl, rfl, rfl⟩
theorem eL_law_2615 : z_ad mL_law 2615 0 2616 := Or.inl ⟨0, z_D DL_law_ok 1547 rfl, rfl, rfl⟩
theorem eL_law_2616 : z_ld mL_law 2616 5 2618 := Or.inr ⟨z_D DL_law_ok 1548 rfl, rfl⟩
theorem eL_law_2618 : z_co mL_law 2618 (1) 2619 := Or.inl ⟨z_D DL_law_ok 1549 rfl, rfl⟩
theorem eL_law_2619 : z_at mL_law 2619 (.iadd) 1 2620 := ⟨z_D DL_law_ok 1550 rfl, rfl⟩
theorem eL_law_2620 : z_at mL_law 2620 (.iaload) 1 2621 := ⟨z_D DL_law_ok 1551 rfl, rfl⟩
theorem eL_law_2621 : z_at mL_law 2621 (.invokevirtual 298) 3 2624 ∧ z_lk mL_law.1.cls 298 mX8_teamScore.1 ∧ z_mt mX8_teamScore 1 ∧ z_mv mX8_teamScore 8 := ⟨⟨z_D DL_law_ok 1552 rfl, rfl⟩, Or.inl w8_155, tX8_teamScore, vX8_teamScore⟩
theorem eL_law_2624 : z_sd mL_law 2624 7 2626 := ⟨Or.inr ⟨z_D DL_law_ok 1553 rfl, rfl⟩, by decide⟩
theorem eL_law_2626 : z_ad mL_law 2626 2 2627 := Or.inl ⟨2, z_D DL_law_ok 1554 rfl, rfl, rfl⟩
theorem eL_law_2627 : z_at mL_law 2627 (.invokevirtual 152) 3 2630 ∧ z_lk mL_law.1.cls 152 mX8_thrown.1 ∧ z_mt mX8_thrown 0 ∧ z_mv mX8_thrown 8 := ⟨⟨z_D DL_law_ok 1555 rfl, rfl⟩, Or.inl w6_213, tX8_thrown, vX8_thrown⟩
theorem eL_law_2630 : z_ld mL_law 2630 6 2632 := Or.inr ⟨z_D DL_law_ok 1556 rfl, rfl⟩
theorem eL_law_2632 : z_br mL_law 2632 (.if_icmp .eq 5) (5) 2635 2637 := ⟨z_D DL_law_ok 1557 rfl, rfl, by decide⟩
theorem eL_law_2635 : z_co mL_law 2635 (0) 2636 := Or.inl ⟨z_D DL_law_ok 1558 rfl, rfl⟩
theorem eL_law_2636 : z_at mL_law 2636 (.ireturn) 1 2637 := ⟨z_D DL_law_ok 1559 rfl, rfl⟩
theorem eL_law_2637 : z_ld mL_law 2637 6 2639 := Or.inr ⟨z_D DL_law_ok 1560 rfl, rfl⟩
theorem eL_law_2639 : z_br mL_law 2639 (.ifCond .ne 15) (15) 2642 2654 := ⟨z_D DL_law_ok 1561 rfl, rfl, by decide⟩
theorem eL_law_2642 : z_ad mL_law 2642 3 2643 := Or.inl ⟨3, z_D DL_law_ok 1562 rfl, rfl, rfl⟩
theorem eL_law_2643 : z_co mL_law 2643 (0) 2644 := Or.inl ⟨z_D DL_law_ok 1563 rfl, rfl⟩
theorem eL_law_2644 : z_at mL_law 2644 (.laload) 1 2645 := ⟨z_D DL_law_ok 1564 rfl, rfl⟩
theorem eL_law_2645 : z_ld mL_law 2645 7 2647 := Or.inr ⟨z_D DL_law_ok 1565 rfl, rfl⟩
theorem eL_law_2647 : z_at mL_law 2647 (.i2l) 1 2648 := ⟨z_D DL_law_ok 1566 rfl, rfl⟩
theorem eL_law_2648 : z_at mL_law 2648 (.lcmp) 1 2649 := ⟨z_D DL_law_ok 1567 rfl, rfl⟩
theorem eL_law_2649 : z_br mL_law 2649 (.ifCond .eq 5) (5) 2652 2654 := ⟨z_D DL_law_ok 1568 rfl, rfl, by decide⟩
theorem eL_law_2652 : z_co mL_law 2652 (0) 2653 := Or.inl ⟨z_D DL_law_ok 1569 rfl, rfl⟩
theorem eL_law_2653 : z_at mL_law 2653 (.ireturn) 1 2654 := ⟨z_D DL_law_ok 1570 rfl, rfl⟩
theorem eL_law_2654 : z_br mL_law 2654 (.goto 327) (327) 2657 2981 := ⟨z_D DL_law_ok 1571 rfl, rfl, by decide⟩
theorem eL_law_2657 : z_ad mL_law 2657 1 2658 := Or.inl ⟨1, z_D DL_law_ok 1572 rfl, rfl, rfl⟩
theorem eL_law_2658 : z_ad mL_law 2658 0 2659 := Or.inl ⟨0, z_D DL_law_ok 1573 rfl, rfl, rfl⟩
theorem eL_law_2659 : z_ld mL_law 2659 5 2661 := Or.inr ⟨z_D DL_law_ok 1574 rfl, rfl⟩
theorem eL_law_2661 : z_co mL_law 2661 (1) 2662 := Or.inl ⟨z_D DL_law_ok 1575 rfl, rfl⟩
theorem eL_law_2662 : z_at mL_law 2662 (.iadd) 1 2663 := ⟨z_D DL_law_ok 1576 rfl, rfl⟩
theorem eL_law_2663 : z_at mL_law 2663 (.iaload) 1 2664 := ⟨z_D DL_law_ok 1577 rfl, rfl⟩
theorem eL_law_2664 : z_ad mL_law 2664 3 2665 := Or.inl ⟨3, z_D DL_law_ok 1578 rfl, rfl, rfl⟩
theorem eL_law_2665 : z_at mL_law 2665 (.invokestatic 299) 3 2668 ∧ z_lk mL_law.1.cls 299 mL_groupAt.1 ∧ z_mtH mL_groupAt hL_groupAt 3 ∧ Cond.static mL_groupAt.1 ∈ lw_tbl := ⟨⟨z_D DL_law_ok 1579 rfl, rfl⟩, Or.inl w6_156, tL_groupAt, sL_groupAt⟩
theorem eL_law_2668 : z_sd mL_law 2668 6 2670 := ⟨Or.inr ⟨z_D DL_law_ok 1580 rfl, rfl⟩, by decide⟩
theorem eL_law_2670 : z_ad mL_law 2670 2 2671 := Or.inl ⟨2, z_D DL_law_ok 1581 rfl, rfl, rfl⟩
theorem eL_law_2671 : z_ad mL_law 2671 0 2672 := Or.inl ⟨0, z_D DL_law_ok 1582 rfl, rfl, rfl⟩
theorem eL_law_2672 : z_ld mL_law 2672 5 2674 := Or.inr ⟨z_D DL_law_ok 1583 rfl, rfl⟩
theorem eL_law_2674 : z_co mL_law 2674 (1) 2675 := Or.inl ⟨z_D DL_law_ok 1584 rfl, rfl⟩
theorem eL_law_2675 : z_at mL_law 2675 (.iadd) 1 2676 := ⟨z_D DL_law_ok 1585 rfl, rfl⟩
theorem eL_law_2676 : z_at mL_law 2676 (.iaload) 1 2677 := ⟨z_D DL_law_ok 1586 rfl, rfl⟩
theorem eL_law_2677 : z_at mL_law 2677 (.invokevirtual 301) 3 2680 ∧ z_lk mL_law.1.cls 301 mX8_groupAt.1 ∧ z_mt mX8_groupAt 1 ∧ z_mv mX8_groupAt 8 := ⟨⟨z_D DL_law_ok 1587 rfl, rfl⟩, Or.inl w8_163, tX8_groupAt, vX8_groupAt⟩
theorem eL_law_2680 : z_sd mL_law 2680 7 2682 := ⟨Or.inr ⟨z_D DL_law_ok 1588 rfl, rfl⟩, by decide⟩
theorem eL_law_2682 : z_ad mL_law 2682 2 2683 := Or.inl ⟨2, z_D DL_law_ok 1589 rfl, rfl, rfl⟩
theorem eL_law_2683 : z_at mL_law 2683 (.invokevirtual 152) 3 2686 ∧ z_lk mL_law.1.cls 152 mX8_thrown.1 ∧ z_mt mX8_thrown 0 ∧ z_mv mX8_thrown 8 := ⟨⟨z_D DL_law_ok 1590 rfl, rfl⟩, Or.inl w6_213, tX8_thrown, vX8_thrown⟩
theorem eL_law_2686 : z_ld mL_law 2686 6 2688 := Or.inr ⟨z_D DL_law_ok 1591 rfl, rfl⟩
theorem eL_law_2688 : z_br mL_law 2688 (.if_icmp .eq 5) (5) 2691 2693 := ⟨z_D DL_law_ok 1592 rfl, rfl, by decide⟩
theorem eL_law_2691 : z_co mL_law 2691 (0) 2692 := Or.inl ⟨z_D DL_law_ok 1593 rfl, rfl⟩
theorem eL_law_2692 : z_at mL_law 2692 (.ireturn) 1 2693 := ⟨z_D DL_law_ok 1594 rfl, rfl⟩
theorem eL_law_2693 : z_ld mL_law 2693 6 2695 := Or.inr ⟨z_D DL_law_ok 1595 rfl, rfl⟩
theorem eL_law_2695 : z_br mL_law 2695 (.ifCond .ne 15) (15) 2698 2710 := ⟨z_D DL_law_ok 1596 rfl, rfl, by decide⟩
theorem eL_law_2698 : z_ad mL_law 2698 3 2699 := Or.inl ⟨3, z_D DL_law_ok 1597 rfl, rfl, rfl⟩
theorem eL_law_2699 : z_co mL_law 2699 (0) 2700 := Or.inl ⟨z_D DL_law_ok 1598 rfl, rfl⟩
theorem eL_law_2700 : z_at mL_law 2700 (.laload) 1 2701 := ⟨z_D DL_law_ok 1599 rfl, rfl⟩
theorem eL_law_2701 : z_ld mL_law 2701 7 2703 := Or.inr ⟨z_D DL_law_ok 1600 rfl, rfl⟩
theorem eL_law_2703 : z_at mL_law 2703 (.i2l) 1 2704 := ⟨z_D DL_law_ok 1601 rfl, rfl⟩
theorem eL_law_2704 : z_at mL_law 2704 (.lcmp) 1 2705 := ⟨z_D DL_law_ok 1602 rfl, rfl⟩
theorem eL_law_2705 : z_br mL_law 2705 (.ifCond .eq 5) (5) 2708 2710 := ⟨z_D DL_law_ok 1603 rfl, rfl, by decide⟩
theorem eL_law_2708 : z_co mL_law 2708 (0) 2709 := Or.inl ⟨z_D DL_law_ok 1604 rfl, rfl⟩
theorem eL_law_2709 : z_at mL_law 2709 (.ireturn) 1 2710 := ⟨z_D DL_law_ok 1605 rfl, rfl⟩
theorem eL_law_2710 : z_br mL_law 2710 (.goto 271) (271) 2713 2981 := ⟨z_D DL_law_ok 1606 rfl, rfl, by decide⟩
theorem eL_law_2713 : z_ad mL_law 2713 1 2714 := Or.inl ⟨1, z_D DL_law_ok 1607 rfl, rfl, rfl⟩
theorem eL_law_2714 : z_ad mL_law 2714 0 2715 := Or.inl ⟨0, z_D DL_law_ok 1608 rfl, rfl, rfl⟩
theorem eL_law_2715 : z_ld mL_law 2715 5 2717 := Or.inr ⟨z_D DL_law_ok 1609 rfl, rfl⟩
theorem eL_law_2717 : z_co mL_law 2717 (1) 2718 := Or.inl ⟨z_D DL_law_ok 1610 rfl, rfl⟩
theorem eL_law_2718 : z_at mL_law 2718 (.iadd) 1 2719 := ⟨z_D DL_law_ok 1611 rfl, rfl⟩
theorem eL_law_2719 : z_at mL_law 2719 (.iaload) 1 2720 := ⟨z_D DL_law_ok 1612 rfl, rfl⟩
theorem eL_law_2720 : z_ad mL_law 2720 0 2721 := Or.inl ⟨0, z_D DL_law_ok 1613 rfl, rfl, rfl⟩
theorem eL_law_2721 : z_ld mL_law 2721 5 2723 := Or.inr ⟨z_D DL_law_ok 1614 rfl, rfl⟩
theorem eL_law_2723 : z_co mL_law 2723 (2) 2724 := Or.inl ⟨z_D DL_law_ok 1615 rfl, rfl⟩
theorem eL_law_2724 : z_at mL_law 2724 (.iadd) 1 2725 := ⟨z_D DL_law_ok 1616 rfl, rfl⟩
theorem eL_law_2725 : z_at mL_law 2725 (.iaload) 1 2726 := ⟨z_D DL_law_ok 1617 rfl, rfl⟩
theorem eL_law_2726 : z_ad mL_law 2726 3 2727 := Or.inl ⟨3, z_D DL_law_ok 1618 rfl, rfl, rfl⟩
theorem eL_law_2727 : z_at mL_law 2727 (.invokestatic 302) 3 2730 ∧ z_lk mL_law.1.cls 302 mL_inversions.1 ∧ z_mtH mL_inversions hL_inversions 4 ∧ Cond.static mL_inversions.1 ∈ lw_tbl := ⟨⟨z_D DL_law_ok 1619 rfl, rfl⟩, Or.inl w6_171, tL_inversions, sL_inversions⟩
theorem eL_law_2730 : z_sd mL_law 2730 6 2732 := ⟨Or.inr ⟨z_D DL_law_ok 1620 rfl, rfl⟩, by decide⟩
theorem eL_law_2732 : z_ad mL_law 2732 2 2733 := Or.inl ⟨2, z_D DL_law_ok 1621 rfl, rfl, rfl⟩
theorem eL_law_2733 : z_ad mL_law 2733 0 2734 := Or.inl ⟨0, z_D DL_law_ok 1622 rfl, rfl, rfl⟩
theorem eL_law_2734 : z_ld mL_law 2734 5 2736 := Or.inr ⟨z_D DL_law_ok 1623 rfl, rfl⟩
theorem eL_law_2736 : z_co mL_law 2736 (1) 2737 := Or.inl ⟨z_D DL_law_ok 1624 rfl, rfl⟩
theorem eL_law_2737 : z_at mL_law 2737 (.iadd) 1 2738 := ⟨z_D DL_law_ok 1625 rfl, rfl⟩
theorem eL_law_2738 : z_at mL_law 2738 (.iaload) 1 2739 := ⟨z_D DL_law_ok 1626 rfl, rfl⟩
theorem eL_law_2739 : z_ad mL_law 2739 0 2740 := Or.inl ⟨0, z_D DL_law_ok 1627 rfl, rfl, rfl⟩
theorem eL_law_2740 : z_ld mL_law 2740 5 2742 := Or.inr ⟨z_D DL_law_ok 1628 rfl, rfl⟩
theorem eL_law_2742 : z_co mL_law 2742 (2) 2743 := Or.inl ⟨z_D DL_law_ok 1629 rfl, rfl⟩
theorem eL_law_2743 : z_at mL_law 2743 (.iadd) 1 2744 := ⟨z_D DL_law_ok 1630 rfl, rfl⟩
theorem eL_law_2744 : z_at mL_law 2744 (.iaload) 1 2745 := ⟨z_D DL_law_ok 1631 rfl, rfl⟩
theorem eL_law_2745 : z_at mL_law 2745 (.invokevirtual 304) 3 2748 ∧ z_lk mL_law.1.cls 304 mX8_inversions.1 ∧ z_mt mX8_inversions 2 ∧ z_mv mX8_inversions 8 := ⟨⟨z_D DL_law_ok 1632 rfl, rfl⟩, Or.inl w8_171, tX8_inversions, vX8_inversions⟩
theorem eL_law_2748 : z_sd mL_law 2748 7 2750 := ⟨Or.inr ⟨z_D DL_law_ok 1633 rfl, rfl⟩, by decide⟩
theorem eL_law_2750 : z_ad mL_law 2750 2 2751 := Or.inl ⟨2, z_D DL_law_ok 1634 rfl, rfl, rfl⟩
theorem eL_law_2751 : z_at mL_law 2751 (.invokevirtual 152) 3 2754 ∧ z_lk mL_law.1.cls 152 mX8_thrown.1 ∧ z_mt mX8_thrown 0 ∧ z_mv mX8_thrown 8 := ⟨⟨z_D DL_law_ok 1635 rfl, rfl⟩, Or.inl w6_213, tX8_thrown, vX8_thrown⟩
theorem eL_law_2754 : z_ld mL_law 2754 6 2756 := Or.inr ⟨z_D DL_law_ok 1636 rfl, rfl⟩
theorem eL_law_2756 : z_br mL_law 2756 (.if_icmp .eq 5) (5) 2759 2761 := ⟨z_D DL_law_ok 1637 rfl, rfl, by decide⟩
theorem eL_law_2759 : z_co mL_law 2759 (0) 2760 := Or.inl ⟨z_D DL_law_ok 1638 rfl, rfl⟩
theorem eL_law_2760 : z_at mL_law 2760 (.ireturn) 1 2761 := ⟨z_D DL_law_ok 1639 rfl, rfl⟩
theorem eL_law_2761 : z_ld mL_law 2761 6 2763 := Or.inr ⟨z_D DL_law_ok 1640 rfl, rfl⟩
theorem eL_law_2763 : z_br mL_law 2763 (.ifCond .ne 15) (15) 2766 2778 := ⟨z_D DL_law_ok 1641 rfl, rfl, by decide⟩
theorem eL_law_2766 : z_ad mL_law 2766 3 2767 := Or.inl ⟨3, z_D DL_law_ok 1642 rfl, rfl, rfl⟩
theorem eL_law_2767 : z_co mL_law 2767 (0) 2768 := Or.inl ⟨z_D DL_law_ok 1643 rfl, rfl⟩
theorem eL_law_2768 : z_at mL_law 2768 (.laload) 1 2769 := ⟨z_D DL_law_ok 1644 rfl, rfl⟩
theorem eL_law_2769 : z_ld mL_law 2769 7 2771 := Or.inr ⟨z_D DL_law_ok 1645 rfl, rfl⟩
theorem eL_law_2771 : z_at mL_law 2771 (.i2l) 1 2772 := ⟨z_D DL_law_ok 1646 rfl, rfl⟩
theorem eL_law_2772 : z_at mL_law 2772 (.lcmp) 1 2773 := ⟨z_D DL_law_ok 1647 rfl, rfl⟩
theorem eL_law_2773 : z_br mL_law 2773 (.ifCond .eq 5) (5) 2776 2778 := ⟨z_D DL_law_ok 1648 rfl, rfl, by decide⟩
theorem eL_law_2776 : z_co mL_law 2776 (0) 2777 := Or.inl ⟨z_D DL_law_ok 1649 rfl, rfl⟩
theorem eL_law_2777 : z_at mL_law 2777 (.ireturn) 1 2778 := ⟨z_D DL_law_ok 1650 rfl, rfl⟩
theorem eL_law_2778 : z_br mL_law 2778 (.goto 203) (203) 2781 2981 := ⟨z_D DL_law_ok 1651 rfl, rfl, by decide⟩
theorem eL_law_2781 : z_ad mL_law 2781 1 2782 := Or.inl ⟨1, z_D DL_law_ok 1652 rfl, rfl, rfl⟩
theorem eL_law_2782 : z_ad mL_law 2782 0 2783 := Or.inl ⟨0, z_D DL_law_ok 1653 rfl, rfl, rfl⟩
theorem eL_law_2783 : z_ld mL_law 2783 5 2785 := Or.inr ⟨z_D DL_law_ok 1654 rfl, rfl⟩
theorem eL_law_2785 : z_co mL_law 2785 (1) 2786 := Or.inl ⟨z_D DL_law_ok 1655 rfl, rfl⟩
theorem eL_law_2786 : z_at mL_law 2786 (.iadd) 1 2787 := ⟨z_D DL_law_ok 1656 rfl, rfl⟩
theorem eL_law_2787 : z_at mL_law 2787 (.iaload) 1 2788 := ⟨z_D DL_law_ok 1657 rfl, rfl⟩
theorem eL_law_2788 : z_ad mL_law 2788 0 2789 := Or.inl ⟨0, z_D DL_law_ok 1658 rfl, rfl, rfl⟩
theorem eL_law_2789 : z_ld mL_law 2789 5 2791 := Or.inr ⟨z_D DL_law_ok 1659 rfl, rfl⟩
theorem eL_law_2791 : z_co mL_law 2791 (2) 2792 := Or.inl ⟨z_D DL_law_ok 1660 rfl, rfl⟩
theorem eL_law_2792 : z_at mL_law 2792 (.iadd) 1 2793 := ⟨z_D DL_law_ok 1661 rfl, rfl⟩
theorem eL_law_2793 : z_at mL_law 2793 (.iaload) 1 2794 := ⟨z_D DL_law_ok 1662 rfl, rfl⟩
theorem eL_law_2794 : z_ad mL_law 2794 3 2795 := Or.inl ⟨3, z_D DL_law_ok 1663 rfl, rfl, rfl⟩
theorem eL_law_2795 : z_at mL_law 2795 (.invokestatic 305) 3 2798 ∧ z_lk mL_law.1.cls 305 mL_swaps.1 ∧ z_mtH mL_swaps hL_swaps 4 ∧ Cond.static mL_swaps.1 ∈ lw_tbl := ⟨⟨z_D DL_law_ok 1664 rfl, rfl⟩, Or.inl w6_191, tL_swaps, sL_swaps⟩
theorem eL_law_2798 : z_sd mL_law 2798 6 2800 := ⟨Or.inr ⟨z_D DL_law_ok 1665 rfl, rfl⟩, by decide⟩
theorem eL_law_2800 : z_ad mL_law 2800 2 2801 := Or.inl ⟨2, z_D DL_law_ok 1666 rfl, rfl, rfl⟩
theorem eL_law_2801 : z_ad mL_law 2801 0 2802 := Or.inl ⟨0, z_D DL_law_ok 1667 rfl, rfl, rfl⟩
theorem eL_law_2802 : z_ld mL_law 2802 5 2804 := Or.inr ⟨z_D DL_law_ok 1668 rfl, rfl⟩
theorem eL_law_2804 : z_co mL_law 2804 (1) 2805 := Or.inl ⟨z_D DL_law_ok 1669 rfl, rfl⟩
theorem eL_law_2805 : z_at mL_law 2805 (.iadd) 1 2806 := ⟨z_D DL_law_ok 1670 rfl, rfl⟩
theorem eL_law_2806 : z_at mL_law 2806 (.iaload) 1 2807 := ⟨z_D DL_law_ok 1671 rfl, rfl⟩
theorem eL_law_2807 : z_ad mL_law 2807 0 2808 := Or.inl ⟨0, z_D DL_law_ok 1672 rfl, rfl, rfl⟩
theorem eL_law_2808 : z_ld mL_law 2808 5 2810 := Or.inr ⟨z_D DL_law_ok 1673 rfl, rfl⟩
theorem eL_law_2810 : z_co mL_law 2810 (2) 2811 := Or.inl ⟨z_D DL_law_ok 1674 rfl, rfl⟩
theorem eL_law_2811 : z_at mL_law 2811 (.iadd) 1 2812 := ⟨z_D DL_law_ok 1675 rfl, rfl⟩
theorem eL_law_2812 : z_at mL_law 2812 (.iaload) 1 2813 := ⟨z_D DL_law_ok 1676 rfl, rfl⟩
theorem eL_law_2813 : z_at mL_law 2813 (.invokevirtual 307) 3 2816 ∧ z_lk mL_law.1.cls 307 mX8_swaps.1 ∧ z_mt mX8_swaps 2 ∧ z_mv mX8_swaps 8 := ⟨⟨z_D DL_law_ok 1677 rfl, rfl⟩, Or.inl w8_183, tX8_swaps, vX8_swaps⟩
theorem eL_law_2816 : z_sd mL_law 2816 7 2818 := ⟨Or.inr ⟨z_D DL_law_ok 1678 rfl, rfl⟩, by decide⟩
theorem eL_law_2818 : z_ad mL_law 2818 2 2819 := Or.inl ⟨2, z_D DL_law_ok 1679 rfl, rfl, rfl⟩
theorem eL_law_2819 : z_at mL_law 2819 (.invokevirtual 152) 3 2822 ∧ z_lk mL_law.1.cls 152 mX8_thrown.1 ∧ z_mt mX8_thrown 0 ∧ z_mv mX8_thrown 8 := ⟨⟨z_D DL_law_ok 1680 rfl, rfl⟩, Or.inl w6_213, tX8_thrown, vX8_thrown⟩
theorem eL_law_2822 : z_ld mL_law 2822 6 2824 := Or.inr ⟨z_D DL_law_ok 1681 rfl, rfl⟩
theorem eL_law_2824 : z_br mL_law 2824 (.if_icmp .eq 5) (5) 2827 2829 := ⟨z_D DL_law_ok 1682 rfl, rfl, by decide⟩
theorem eL_law_2827 : z_co mL_law 2827 (0) 2828 := Or.inl ⟨z_D DL_law_ok 1683 rfl, rfl⟩
theorem eL_law_2828 : z_at mL_law 2828 (.ireturn) 1 2829 := ⟨z_D DL_law_ok 1684 rfl, rfl⟩
theorem eL_law_2829 : z_ld mL_law 2829 6 2831 := Or.inr ⟨z_D DL_law_ok 1685 rfl, rfl⟩
theorem eL_law_2831 : z_br mL_law 2831 (.ifCond .ne 15) (15) 2834 2846 := ⟨z_D DL_law_ok 1686 rfl, rfl, by decide⟩
theorem eL_law_2834 : z_ad mL_law 2834 3 2835 := Or.inl ⟨3, z_D DL_law_ok 1687 rfl, rfl, rfl⟩
theorem eL_law_2835 : z_co mL_law 2835 (0) 2836 := Or.inl ⟨z_D DL_law_ok 1688 rfl, rfl⟩
theorem eL_law_2836 : z_at mL_law 2836 (.laload) 1 2837 := ⟨z_D DL_law_ok 1689 rfl, rfl⟩
theorem eL_law_2837 : z_ld mL_law 2837 7 2839 := Or.inr ⟨z_D DL_law_ok 1690 rfl, rfl⟩
theorem eL_law_2839 : z_at mL_law 2839 (.i2l) 1 2840 := ⟨z_D DL_law_ok 1691 rfl, rfl⟩
theorem eL_law_2840 : z_at mL_law 2840 (.lcmp) 1 2841 := ⟨z_D DL_law_ok 1692 rfl, rfl⟩
theorem eL_law_2841 : z_br mL_law 2841 (.ifCond .eq 5) (5) 2844 2846 := ⟨z_D DL_law_ok 1693 rfl, rfl, by decide⟩
theorem eL_law_2844 : z_co mL_law 2844 (0) 2845 := Or.inl ⟨z_D DL_law_ok 1694 rfl, rfl⟩
theorem eL_law_2845 : z_at mL_law 2845 (.ireturn) 1 2846 := ⟨z_D DL_law_ok 1695 rfl, rfl⟩
theorem eL_law_2846 : z_br mL_law 2846 (.goto 135) (135) 2849 2981 := ⟨z_D DL_law_ok 1696 rfl, rfl, by decide⟩
theorem eL_law_2849 : z_ad mL_law 2849 1 2850 := Or.inl ⟨1, z_D DL_law_ok 1697 rfl, rfl, rfl⟩
theorem eL_law_2850 : z_at mL_law 2850 (.invokevirtual 308) 3 2853 ∧ z_lk mL_law.1.cls 308 mX7_meanPoints.1 ∧ z_mt mX7_meanPoints 0 ∧ z_mv mX7_meanPoints 7 := ⟨⟨z_D DL_law_ok 1698 rfl, rfl⟩, Or.inl w2_140, tX7_meanPoints, vX7_meanPoints⟩
theorem eL_law_2853 : z_at mL_law 2853 (.dstore 6) 2 2855 := ⟨z_D DL_law_ok 1699 rfl, rfl⟩
theorem eL_law_2855 : z_ad mL_law 2855 2 2856 := Or.inl ⟨2, z_D DL_law_ok 1700 rfl, rfl, rfl⟩
theorem eL_law_2856 : z_at mL_law 2856 (.invokevirtual 312) 3 2859 ∧ z_lk mL_law.1.cls 312 mX8_meanPoints.1 ∧ z_mt mX8_meanPoints 0 ∧ z_mv mX8_meanPoints 8 := ⟨⟨z_D DL_law_ok 1701 rfl, rfl⟩, Or.inl w8_187, tX8_meanPoints, vX8_meanPoints⟩
theorem eL_law_2859 : z_at mL_law 2859 (.dstore 8) 2 2861 := ⟨z_D DL_law_ok 1702 rfl, rfl⟩
theorem eL_law_2861 : z_at mL_law 2861 (.dload 6) 2 2863 := ⟨z_D DL_law_ok 1703 rfl, rfl⟩
theorem eL_law_2863 : z_at mL_law 2863 (.dload 8) 2 2865 := ⟨z_D DL_law_ok 1704 rfl, rfl⟩
theorem eL_law_2865 : z_at mL_law 2865 (.dcmp .l) 1 2866 := ⟨z_D DL_law_ok 1705 rfl, rfl⟩
theorem eL_law_2866 : z_br mL_law 2866 (.ifCond .eq 21) (21) 2869 2887 := ⟨z_D DL_law_ok 1706 rfl, rfl, by decide⟩
theorem eL_law_2869 : z_at mL_law 2869 (.dload 6) 2 2871 := ⟨z_D DL_law_ok 1707 rfl, rfl⟩
theorem eL_law_2871 : z_at mL_law 2871 (.dload 6) 2 2873 := ⟨z_D DL_law_ok 1708 rfl, rfl⟩
theorem eL_law_2873 : z_at mL_law 2873 (.dcmp .l) 1 2874 := ⟨z_D DL_law_ok 1709 rfl, rfl⟩
theorem eL_law_2874 : z_br mL_law 2874 (.ifCond .eq 11) (11) 2877 2885 := ⟨z_D DL_law_ok 1710 rfl, rfl, by decide⟩
theorem eL_law_2877 : z_at mL_law 2877 (.dload 8) 2 2879 := ⟨z_D DL_law_ok 1711 rfl, rfl⟩
theorem eL_law_2879 : z_at mL_law 2879 (.dload 8) 2 2881 := ⟨z_D DL_law_ok 1712 rfl, rfl⟩
theorem eL_law_2881 : z_at mL_law 2881 (.dcmp .l) 1 2882 := ⟨z_D DL_law_ok 1713 rfl, rfl⟩
theorem eL_law_2882 : z_br mL_law 2882 (.ifCond .ne 5) (5) 2885 2887 := ⟨z_D DL_law_ok 1714 rfl, rfl, by decide⟩
theorem eL_law_2885 : z_co mL_law 2885 (0) 2886 := Or.inl ⟨z_D DL_law_ok 1715 rfl, rfl⟩
theorem eL_law_2886 : z_at mL_law 2886 (.ireturn) 1 2887 := ⟨z_D DL_law_ok 1716 rfl, rfl⟩
theorem eL_law_2887 : z_br mL_law 2887 (.goto 94) (94) 2890 2981 := ⟨z_D DL_law_ok 1717 rfl, rfl, by decide⟩
theorem eL_law_2890 : z_ad mL_law 2890 1 2891 := Or.inl ⟨1, z_D DL_law_ok 1718 rfl, rfl, rfl⟩
theorem eL_law_2891 : z_ad mL_law 2891 0 2892 := Or.inl ⟨0, z_D DL_law_ok 1719 rfl, rfl, rfl⟩
theorem eL_law_2892 : z_ld mL_law 2892 5 2894 := Or.inr ⟨z_D DL_law_ok 1720 rfl, rfl⟩
theorem eL_law_2894 : z_co mL_law 2894 (1) 2895 := Or.inl ⟨z_D DL_law_ok 1721 rfl, rfl⟩
theorem eL_law_2895 : z_at mL_law 2895 (.iadd) 1 2896 := ⟨z_D DL_law_ok 1722 rfl, rfl⟩
theorem eL_law_2896 : z_at mL_law 2896 (.iaload) 1 2897 := ⟨z_D DL_law_ok 1723 rfl, rfl⟩
theorem eL_law_2897 : z_ad mL_law 2897 4 2899 := Or.inr ⟨z_D DL_law_ok 1724 rfl, rfl⟩
theorem eL_law_2899 : z_at mL_law 2899 (.invokestatic 313) 3 2902 ∧ z_lk mL_law.1.cls 313 mL_beats.1 ∧ z_mtH mL_beats hL_beats 3 ∧ Cond.static mL_beats.1 ∈ lw_tbl := ⟨⟨z_D DL_law_ok 1725 rfl, rfl⟩, Or.inl w6_202, tL_beats, sL_beats⟩
theorem eL_law_2902 : z_sd mL_law 2902 6 2904 := ⟨Or.inr ⟨z_D DL_law_ok 1726 rfl, rfl⟩, by decide⟩
theorem eL_law_2904 : z_ad mL_law 2904 2 2905 := Or.inl ⟨2, z_D DL_law_ok 1727 rfl, rfl, rfl⟩
theorem eL_law_2905 : z_ad mL_law 2905 0 2906 := Or.inl ⟨0, z_D DL_law_ok 1728 rfl, rfl, rfl⟩
theorem eL_law_2906 : z_ld mL_law 2906 5 2908 := Or.inr ⟨z_D DL_law_ok 1729 rfl, rfl⟩
theorem eL_law_2908 : z_co mL_law 2908 (1) 2909 := Or.inl ⟨z_D DL_law_ok 1730 rfl, rfl⟩
theorem eL_law_2909 : z_at mL_law 2909 (.iadd) 1 2910 := ⟨z_D DL_law_ok 1731 rfl, rfl⟩
theorem eL_law_2910 : z_at mL_law 2910 (.iaload) 1 2911 := ⟨z_D DL_law_ok 1732 rfl, rfl⟩
theorem eL_law_2911 : z_at mL_law 2911 (.invokevirtual 316) 3 2914 ∧ z_lk mL_law.1.cls 316 mX8_beats.1 ∧ z_mt mX8_beats 1 ∧ z_mv mX8_beats 8 := ⟨⟨z_D DL_law_ok 1733 rfl, rfl⟩, Or.inl w8_191, tX8_beats, vX8_beats⟩
theorem eL_law_2914 : z_at mL_law 2914 (.fstore 7) 2 2916 := ⟨z_D DL_law_ok 1734 rfl, rfl⟩
theorem eL_law_2916 : z_ad mL_law 2916 2 2917 := Or.inl ⟨2, z_D DL_law_ok 1735 rfl, rfl, rfl⟩
theorem eL_law_2917 : z_at mL_law 2917 (.invokevirtual 152) 3 2920 ∧ z_lk mL_law.1.cls 152 mX8_thrown.1 ∧ z_mt mX8_thrown 0 ∧ z_mv mX8_thrown 8 := ⟨⟨z_D DL_law_ok 1736 rfl, rfl⟩, Or.inl w6_213, tX8_thrown, vX8_thrown⟩
theorem eL_law_2920 : z_ld mL_law 2920 6 2922 := Or.inr ⟨z_D DL_law_ok 1737 rfl, rfl⟩
theorem eL_law_2922 : z_br mL_law 2922 (.if_icmp .eq 5) (5) 2925 2927 := ⟨z_D DL_law_ok 1738 rfl, rfl, by decide⟩
theorem eL_law_2925 : z_co mL_law 2925 (0) 2926 := Or.inl ⟨z_D DL_law_ok 1739 rfl, rfl⟩
theorem eL_law_2926 : z_at mL_law 2926 (.ireturn) 1 2927 := ⟨z_D DL_law_ok 1740 rfl, rfl⟩
theorem eL_law_2927 : z_ld mL_law 2927 6 2929 := Or.inr ⟨z_D DL_law_ok 1741 rfl, rfl⟩
theorem eL_law_2929 : z_br mL_law 2929 (.ifCond .ne 36) (36) 2932 2965 := ⟨z_D DL_law_ok 1742 rfl, rfl, by decide⟩
theorem eL_law_2932 : z_ad mL_law 2932 4 2934 := Or.inr ⟨z_D DL_law_ok 1743 rfl, rfl⟩
theorem eL_law_2934 : z_co mL_law 2934 (0) 2935 := Or.inl ⟨z_D DL_law_ok 1744 rfl, rfl⟩
theorem eL_law_2935 : z_at mL_law 2935 (.daload) 1 2936 := ⟨z_D DL_law_ok 1745 rfl, rfl⟩
theorem eL_law_2936 : z_at mL_law 2936 (.fload 7) 2 2938 := ⟨z_D DL_law_ok 1746 rfl, rfl⟩
theorem eL_law_2938 : z_at mL_law 2938 (.f2d) 1 2939 := ⟨z_D DL_law_ok 1747 rfl, rfl⟩
theorem eL_law_2939 : z_at mL_law 2939 (.dcmp .l) 1 2940 := ⟨z_D DL_law_ok 1748 rfl, rfl⟩
theorem eL_law_2940 : z_br mL_law 2940 (.ifCond .eq 25) (25) 2943 2965 := ⟨z_D DL_law_ok 1749 rfl, rfl, by decide⟩
theorem eL_law_2943 : z_ad mL_law 2943 4 2945 := Or.inr ⟨z_D DL_law_ok 1750 rfl, rfl⟩
theorem eL_law_2945 : z_co mL_law 2945 (0) 2946 := Or.inl ⟨z_D DL_law_ok 1751 rfl, rfl⟩
theorem eL_law_2946 : z_at mL_law 2946 (.daload) 1 2947 := ⟨z_D DL_law_ok 1752 rfl, rfl⟩
theorem eL_law_2947 : z_ad mL_law 2947 4 2949 := Or.inr ⟨z_D DL_law_ok 1753 rfl, rfl⟩
theorem eL_law_2949 : z_co mL_law 2949 (0) 2950 := Or.inl ⟨z_D DL_law_ok 1754 rfl, rfl⟩
theorem eL_law_2950 : z_at mL_law 2950 (.daload) 1 2951 := ⟨z_D DL_law_ok 1755 rfl, rfl⟩
theorem eL_law_2951 : z_at mL_law 2951 (.dcmp .l) 1 2952 := ⟨z_D DL_law_ok 1756 rfl, rfl⟩
theorem eL_law_2952 : z_br mL_law 2952 (.ifCond .eq 11) (11) 2955 2963 := ⟨z_D DL_law_ok 1757 rfl, rfl, by decide⟩
theorem eL_law_2955 : z_at mL_law 2955 (.fload 7) 2 2957 := ⟨z_D DL_law_ok 1758 rfl, rfl⟩
theorem eL_law_2957 : z_at mL_law 2957 (.fload 7) 2 2959 := ⟨z_D DL_law_ok 1759 rfl, rfl⟩
theorem eL_law_2959 : z_at mL_law 2959 (.fcmp .l) 1 2960 := ⟨z_D DL_law_ok 1760 rfl, rfl⟩
theorem eL_law_2960 : z_br mL_law 2960 (.ifCond .ne 5) (5) 2963 2965 := ⟨z_D DL_law_ok 1761 rfl, rfl, by decide⟩
theorem eL_law_2963 : z_co mL_law 2963 (0) 2964 := Or.inl ⟨z_D DL_law_ok 1762 rfl, rfl⟩
theorem eL_law_2964 : z_at mL_law 2964 (.ireturn) 1 2965 := ⟨z_D DL_law_ok 1763 rfl, rfl⟩
theorem eL_law_2965 : z_br mL_law 2965 (.goto 16) (16) 2968 2981 := ⟨z_D DL_law_ok 1764 rfl, rfl, by decide⟩
theorem eL_law_2968 : z_ad mL_law 2968 1 2969 := Or.inl ⟨1, z_D DL_law_ok 1765 rfl, rfl, rfl⟩
theorem eL_law_2969 : z_at mL_law 2969 (.invokevirtual 317) 3 2972 ∧ z_lk mL_law.1.cls 317 mX7_errors.1 ∧ z_mt mX7_errors 0 ∧ z_mv mX7_errors 7 := ⟨⟨z_D DL_law_ok 1766 rfl, rfl⟩, Or.inl w2_145, tX7_errors, vX7_errors⟩
theorem eL_law_2972 : z_ad mL_law 2972 2 2973 := Or.inl ⟨2, z_D DL_law_ok 1767 rfl, rfl, rfl⟩
theorem eL_law_2973 : z_at mL_law 2973 (.invokevirtual 320) 3 2976 ∧ z_lk mL_law.1.cls 320 mX8_errors.1 ∧ z_mt mX8_errors 0 ∧ z_mv mX8_errors 8 := ⟨⟨z_D DL_law_ok 1768 rfl, rfl⟩, Or.inl w8_195, tX8_errors, vX8_errors⟩
theorem eL_law_2976 : z_br mL_law 2976 (.if_icmp .eq 5) (5) 2979 2981 := ⟨z_D DL_law_ok 1769 rfl, rfl, by decide⟩
theorem eL_law_2979 : z_co mL_law 2979 (0) 2980 := Or.inl ⟨z_D DL_law_ok 1770 rfl, rfl⟩
theorem eL_law_2980 : z_at mL_law 2980 (.ireturn) 1 2981 := ⟨z_D DL_law_ok 1771 rfl, rfl⟩
theorem eL_law_2981 : z_at mL_law 2981 (.iinc 5 6) 3 2984 ∧ 5 < mL_law.2.2.1 := ⟨⟨z_D DL_law_ok 1772 rfl, rfl⟩, by decide⟩
theorem eL_law_2984 : z_br mL_law 2984 (.goto (-2956)) (-2956) 2987 28 := ⟨z_D DL_law_ok 1773 rfl, rfl, by decide⟩
theorem eL_law_2987 : z_co mL_law 2987 (1) 2988 := Or.inl ⟨z_D DL_law_ok 1774 rfl, rfl⟩
theorem eL_law_2988 : z_at mL_law 2988 (.ireturn) 1 2989 := ⟨z_D DL_law_ok 1775 rfl, rfl⟩
end LR
