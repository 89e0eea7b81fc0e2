/-! ROWS of the builder (laid by wip/p53/gen/gl85rows.py). -/
def mJ5_init_d00df : z_M := (yJ5_init_d00df, cJ5_init_d00df, 2, none)
theorem wB1_24 : (Jvm.Cond.initialized "java/lang/AbstractStringBuilder") ∈ lw_tbl := z_in1 (List.mem_of_getElem? (i := 24) rfl)
theorem wB2_235 : (Jvm.Cond.code ({ cls := "java/lang/AbstractStringBuilder", name := "<init>", desc := "(I)V" } : Jvm.MethodName) prog_12_method_2_code (2 : Nat) (Option.none : Option Jvm.ClassFile.FieldType)) ∈ lw_tbl := z_in2 (List.mem_of_getElem? (i := 235) rfl)
theorem tJ5_init_d00df : z_mt mJ5_init_d00df 1 := ⟨wB2_235, wB1_24, ⟨by decide, by decide⟩, by decide +kernel, by decide⟩
theorem pJ5_init_d00df : plainFor mJ5_init_d00df.1 = true := by decide +kernel
theorem wB2_234 : (Jvm.Cond.instanceMethod ({ cls := "java/lang/AbstractStringBuilder", name := "<init>", desc := "(I)V" } : Jvm.MethodName)) ∈ lw_tbl := z_in2 (List.mem_of_getElem? (i := 234) rfl)
theorem iJ5_init_d00df : (mJ5_init_d00df.1.name = "<init>" ∧ mJ5_init_d00df.2.2.2 = none) ∧ Cond.instanceMethod mJ5_init_d00df.1 ∈ lw_tbl := ⟨⟨rfl, rfl⟩, wB2_234⟩
theorem wB2_236 : (Jvm.Cond.methodLink "java/lang/AbstractStringBuilder" (3 : Nat) ({ cls := "java/lang/Object", name := "<init>", desc := "()V" } : Jvm.MethodName)) ∈ lw_tbl := z_in2 (List.mem_of_getElem? (i := 236) rfl)
theorem wB3_6 : (Jvm.Cond.fieldLink "java/lang/AbstractStringBuilder" (15 : Nat) "java/lang/AbstractStringBuilder" "value" "[B") ∈ lw_tbl := z_in3 (List.mem_of_getElem? (i := 6) rfl)
theorem fJ5_15 : z_fd "java/lang/AbstractStringBuilder" 15 10 0 (.array .byte) false := ⟨_, _, _, _, _, cJ4, by decide, rfl, rfl, (fun h => by cases h), Or.inl wB3_6, Or.inl rfl⟩
theorem wB3_7 : (Jvm.Cond.fieldLink "java/lang/AbstractStringBuilder" (22 : Nat) "java/lang/AbstractStringBuilder" "coder" "B") ∈ lw_tbl := z_in3 (List.mem_of_getElem? (i := 7) rfl)
theorem fJ5_22 : z_fd "java/lang/AbstractStringBuilder" 22 10 1 .byte false := ⟨_, _, _, _, _, cJ4, by decide, rfl, rfl, (fun h => by cases h), Or.inl wB3_7, Or.inl rfl⟩
def mJ5_length_8abf5 : z_M := (yJ5_length_8abf5, cJ5_length_8abf5, 1, some .int)
theorem wB3_215 : (Jvm.Cond.code ({ cls := "java/lang/AbstractStringBuilder", name := "length", desc := "()I" } : Jvm.MethodName) prog_12_method_6_code (1 : Nat) (Option.some Jvm.ClassFile.FieldType.int)) ∈ lw_tbl := z_in3 (List.mem_of_getElem? (i := 215) rfl)
theorem tJ5_length_8abf5 : z_mt mJ5_length_8abf5 0 := ⟨wB3_215, wB1_24, ⟨by decide, by decide⟩, by decide +kernel, by decide⟩
theorem pJ5_length_8abf5 : plainFor mJ5_length_8abf5.1 = true := by decide +kernel
theorem wB3_210 : (Jvm.Cond.sameMethod "java/lang/AbstractStringBuilder" "java/lang/AbstractStringBuilder" "length" "()I") ∈ lw_tbl := z_in3 (List.mem_of_getElem? (i := 210) rfl)
theorem wB3_18 : (Jvm.Cond.superclass "java/lang/StringBuilder" "java/lang/AbstractStringBuilder") ∈ lw_tbl := z_in3 (List.mem_of_getElem? (i := 18) rfl)
theorem wB3_209 : (Jvm.Cond.instanceMethod ({ cls := "java/lang/AbstractStringBuilder", name := "length", desc := "()I" } : Jvm.MethodName)) ∈ lw_tbl := z_in3 (List.mem_of_getElem? (i := 209) rfl)
theorem qJ5_length_8abf5 : z_ms' "java/lang/StringBuilder" mJ5_length_8abf5 := ⟨wB3_210, wB3_18, wB3_209, by decide⟩
theorem wB3_9 : (Jvm.Cond.fieldLink "java/lang/AbstractStringBuilder" (79 : Nat) "java/lang/AbstractStringBuilder" "count" "I") ∈ lw_tbl := z_in3 (List.mem_of_getElem? (i := 9) rfl)
theorem fJ5_79 : z_fd "java/lang/AbstractStringBuilder" 79 10 3 .int false := ⟨_, _, _, _, _, cJ4, by decide, rfl, rfl, (fun h => by cases h), Or.inl wB3_9, Or.inl rfl⟩
def mJ5_ensureCapacityInternal_d00df : z_M := (yJ5_ensureCapacityInternal_d00df, cJ5_ensureCapacityInternal_d00df, 3, none)
theorem wB3_36 : (Jvm.Cond.code ({ cls := "java/lang/AbstractStringBuilder", name := "ensureCapacityInternal", desc := "(I)V" } : Jvm.MethodName) prog_12_method_9_code (3 : Nat) (Option.none : Option Jvm.ClassFile.FieldType)) ∈ lw_tbl := z_in3 (List.mem_of_getElem? (i := 36) rfl)
theorem tJ5_ensureCapacityInternal_d00df : z_mt mJ5_ensureCapacityInternal_d00df 1 := ⟨wB3_36, wB1_24, ⟨by decide, by decide⟩, by decide +kernel, by decide⟩
theorem pJ5_ensureCapacityInternal_d00df : plainFor mJ5_ensureCapacityInternal_d00df.1 = true := by decide +kernel
theorem wB3_34 : (Jvm.Cond.privateMethod ({ cls := "java/lang/AbstractStringBuilder", name := "ensureCapacityInternal", desc := "(I)V" } : Jvm.MethodName)) ∈ lw_tbl := z_in3 (List.mem_of_getElem? (i := 34) rfl)
theorem wB3_206 : (Jvm.Cond.selects "java/lang/StringBuilder" ({ cls := "java/lang/AbstractStringBuilder", name := "getValue", desc := "()[B" } : Jvm.MethodName) ({ cls := "java/lang/AbstractStringBuilder", name := "getValue", desc := "()[B" } : Jvm.MethodName)) ∈ lw_tbl := z_in3 (List.mem_of_getElem? (i := 206) rfl)
theorem wB3_35 : (Jvm.Cond.instanceMethod ({ cls := "java/lang/AbstractStringBuilder", name := "ensureCapacityInternal", desc := "(I)V" } : Jvm.MethodName)) ∈ lw_tbl := z_in3 (List.mem_of_getElem? (i := 35) rfl)
theorem uJ5_ensureCapacityInternal_d00df : z_mu mJ5_ensureCapacityInternal_d00df 10 := ⟨wB3_35, "java/lang/StringBuilder", (TJ4, 4), rfl, Or.inr ⟨wB3_34, _, wB3_206, rfl⟩⟩
theorem wB7_41 : (Jvm.Cond.sameMethod "java/lang/AbstractStringBuilder" "java/lang/AbstractStringBuilder" "ensureCapacityInternal" "(I)V") ∈ lw_tbl := z_in7 (List.mem_of_getElem? (i := 41) rfl)
theorem qJ5_ensureCapacityInternal_d00df : z_ms' "java/lang/StringBuilder" mJ5_ensureCapacityInternal_d00df := ⟨wB7_41, wB3_18, wB3_35, by decide⟩
def mJ5_newCapacity_0f7a4 : z_M := (yJ5_newCapacity_0f7a4, cJ5_newCapacity_0f7a4, 6, some .int)
theorem wB3_40 : (Jvm.Cond.code ({ cls := "java/lang/AbstractStringBuilder", name := "newCapacity", desc := "(I)I" } : Jvm.MethodName) prog_12_method_10_code (6 : Nat) (Option.some Jvm.ClassFile.FieldType.int)) ∈ lw_tbl := z_in3 (List.mem_of_getElem? (i := 40) rfl)
theorem tJ5_newCapacity_0f7a4 : z_mt mJ5_newCapacity_0f7a4 1 := ⟨wB3_40, wB1_24, ⟨by decide, by decide⟩, by decide +kernel, by decide⟩
theorem pJ5_newCapacity_0f7a4 : plainFor mJ5_newCapacity_0f7a4.1 = true := by decide +kernel
theorem wB3_38 : (Jvm.Cond.privateMethod ({ cls := "java/lang/AbstractStringBuilder", name := "newCapacity", desc := "(I)I" } : Jvm.MethodName)) ∈ lw_tbl := z_in3 (List.mem_of_getElem? (i := 38) rfl)
theorem wB3_39 : (Jvm.Cond.instanceMethod ({ cls := "java/lang/AbstractStringBuilder", name := "newCapacity", desc := "(I)I" } : Jvm.MethodName)) ∈ lw_tbl := z_in3 (List.mem_of_getElem? (i := 39) rfl)
theorem uJ5_newCapacity_0f7a4 : z_mu mJ5_newCapacity_0f7a4 10 := ⟨wB3_39, "java/lang/StringBuilder", (TJ4, 4), rfl, Or.inr ⟨wB3_38, _, wB3_206, rfl⟩⟩
theorem wB7_42 : (Jvm.Cond.sameMethod "java/lang/AbstractStringBuilder" "java/lang/AbstractStringBuilder" "newCapacity" "(I)I") ∈ lw_tbl := z_in7 (List.mem_of_getElem? (i := 42) rfl)
theorem qJ5_newCapacity_0f7a4 : z_ms' "java/lang/StringBuilder" mJ5_newCapacity_0f7a4 := ⟨wB7_42, wB3_18, wB3_39, by decide⟩
theorem wB3_37 : (Jvm.Cond.methodLink "java/lang/AbstractStringBuilder" (104 : Nat) ({ cls := "java/lang/AbstractStringBuilder", name := "newCapacity", desc := "(I)I" } : Jvm.MethodName)) ∈ lw_tbl := z_in3 (List.mem_of_getElem? (i := 37) rfl)
def mJ7_copyOf_9075b : z_M := (yJ7_copyOf_9075b, cJ7_copyOf_9075b, 3, some (.array .byte))
theorem wB3_54 : (Jvm.Cond.code ({ cls := "java/util/Arrays", name := "copyOf", desc := "([BI)[B" } : Jvm.MethodName) prog_37_method_121_code (3 : Nat) (Option.some (Jvm.ClassFile.FieldType.array Jvm.ClassFile.FieldType.byte))) ∈ lw_tbl := z_in3 (List.mem_of_getElem? (i := 54) rfl)
theorem tJ7_copyOf_9075b : z_mt mJ7_copyOf_9075b 2 := ⟨wB3_54, w1_12, ⟨by decide, by decide⟩, by decide +kernel, by decide⟩
theorem pJ7_copyOf_9075b : plainFor mJ7_copyOf_9075b.1 = true := by decide +kernel
theorem wB3_53 : (Jvm.Cond.static ({ cls := "java/util/Arrays", name := "copyOf", desc := "([BI)[B" } : Jvm.MethodName)) ∈ lw_tbl := z_in3 (List.mem_of_getElem? (i := 53) rfl)
theorem sJ7_copyOf_9075b : Cond.static mJ7_copyOf_9075b.1 ∈ lw_tbl := wB3_53
theorem wB3_52 : (Jvm.Cond.methodLink "java/lang/AbstractStringBuilder" (108 : Nat) ({ cls := "java/util/Arrays", name := "copyOf", desc := "([BI)[B" } : Jvm.MethodName)) ∈ lw_tbl := z_in3 (List.mem_of_getElem? (i := 52) rfl)
theorem wB3_41 : (Jvm.Cond.methodLink "java/lang/AbstractStringBuilder" (114 : Nat) ({ cls := "jdk/internal/util/ArraysSupport", name := "newLength", desc := "(III)I" } : Jvm.MethodName)) ∈ lw_tbl := z_in3 (List.mem_of_getElem? (i := 41) rfl)
theorem wB3_51 : (Jvm.Cond.constant "java/lang/AbstractStringBuilder" (39 : Nat) (2147483647 : Int32)) ∈ lw_tbl := z_in3 (List.mem_of_getElem? (i := 51) rfl)
def mJ5_charAt_5068e : z_M := (yJ5_charAt_5068e, cJ5_charAt_5068e, 5, some .char)
theorem wB4_17 : (Jvm.Cond.code ({ cls := "java/lang/AbstractStringBuilder", name := "charAt", desc := "(I)C" } : Jvm.MethodName) prog_12_method_14_code (5 : Nat) (Option.some Jvm.ClassFile.FieldType.char)) ∈ lw_tbl := z_in4 (List.mem_of_getElem? (i := 17) rfl)
theorem tJ5_charAt_5068e : z_mt mJ5_charAt_5068e 1 := ⟨wB4_17, wB1_24, ⟨by decide, by decide⟩, by decide +kernel, by decide⟩
theorem pJ5_charAt_5068e : plainFor mJ5_charAt_5068e.1 = true := by decide +kernel
theorem wB7_49 : (Jvm.Cond.sameMethod "java/lang/AbstractStringBuilder" "java/lang/AbstractStringBuilder" "charAt" "(I)C") ∈ lw_tbl := z_in7 (List.mem_of_getElem? (i := 49) rfl)
theorem wB4_16 : (Jvm.Cond.instanceMethod ({ cls := "java/lang/AbstractStringBuilder", name := "charAt", desc := "(I)C" } : Jvm.MethodName)) ∈ lw_tbl := z_in4 (List.mem_of_getElem? (i := 16) rfl)
theorem qJ5_charAt_5068e : z_ms' "java/lang/StringBuilder" mJ5_charAt_5068e := ⟨wB7_49, wB3_18, wB4_16, by decide⟩
theorem wB4_18 : (Jvm.Cond.methodLink "java/lang/AbstractStringBuilder" (138 : Nat) ({ cls := "java/lang/Math", name := "min", desc := "(II)I" } : Jvm.MethodName)) ∈ lw_tbl := z_in4 (List.mem_of_getElem? (i := 18) rfl)
def mJ0_checkIndex_df160 : z_M := (yJ0_checkIndex_df160, cJ0_checkIndex_df160, 2, none)
theorem wB1_26 : (Jvm.Cond.initialized "java/lang/String") ∈ lw_tbl := z_in1 (List.mem_of_getElem? (i := 26) rfl)
theorem wB3_160 : (Jvm.Cond.code ({ cls := "java/lang/String", name := "checkIndex", desc := "(II)V" } : Jvm.MethodName) prog_26_method_155_code (2 : Nat) (Option.none : Option Jvm.ClassFile.FieldType)) ∈ lw_tbl := z_in3 (List.mem_of_getElem? (i := 160) rfl)
theorem tJ0_checkIndex_df160 : z_mt mJ0_checkIndex_df160 2 := ⟨wB3_160, wB1_26, ⟨by decide, by decide⟩, by decide +kernel, by decide⟩
theorem pJ0_checkIndex_df160 : plainFor mJ0_checkIndex_df160.1 = true := by decide +kernel
theorem wB3_159 : (Jvm.Cond.static ({ cls := "java/lang/String", name := "checkIndex", desc := "(II)V" } : Jvm.MethodName)) ∈ lw_tbl := z_in3 (List.mem_of_getElem? (i := 159) rfl)
theorem sJ0_checkIndex_df160 : Cond.static mJ0_checkIndex_df160.1 ∈ lw_tbl := wB3_159
theorem wB4_19 : (Jvm.Cond.methodLink "java/lang/AbstractStringBuilder" (144 : Nat) ({ cls := "java/lang/String", name := "checkIndex", desc := "(II)V" } : Jvm.MethodName)) ∈ lw_tbl := z_in4 (List.mem_of_getElem? (i := 19) rfl)
def mJ5_append_cf1ce : z_M := (yJ5_append_cf1ce, cJ5_append_cf1ce, 3, some (.object "java/lang/AbstractStringBuilder"))
theorem wB3_28 : (Jvm.Cond.code ({ cls := "java/lang/AbstractStringBuilder", name := "append", desc := "(Ljava/lang/String;)Ljava/lang/AbstractStringBuilder;" } : Jvm.MethodName) prog_12_method_22_code (3 : Nat) (Option.some (Jvm.ClassFile.FieldType.object "java/lang/AbstractStringBuilder"))) ∈ lw_tbl := z_in3 (List.mem_of_getElem? (i := 28) rfl)
theorem tJ5_append_cf1ce : z_mt mJ5_append_cf1ce 1 := ⟨wB3_28, wB1_24, ⟨by decide, by decide⟩, by decide +kernel, by decide⟩
theorem pJ5_append_cf1ce : plainFor mJ5_append_cf1ce.1 = true := by decide +kernel
theorem wB7_39 : (Jvm.Cond.sameMethod "java/lang/AbstractStringBuilder" "java/lang/AbstractStringBuilder" "append" "(Ljava/lang/String;)Ljava/lang/AbstractStringBuilder;") ∈ lw_tbl := z_in7 (List.mem_of_getElem? (i := 39) rfl)
theorem wB3_27 : (Jvm.Cond.instanceMethod ({ cls := "java/lang/AbstractStringBuilder", name := "append", desc := "(Ljava/lang/String;)Ljava/lang/AbstractStringBuilder;" } : Jvm.MethodName)) ∈ lw_tbl := z_in3 (List.mem_of_getElem? (i := 27) rfl)
theorem qJ5_append_cf1ce : z_ms' "java/lang/StringBuilder" mJ5_append_cf1ce := ⟨wB7_39, wB3_18, wB3_27, by decide⟩
def mJ5_appendNull_278bc : z_M := (yJ5_appendNull_278bc, cJ5_appendNull_278bc, 3, some (.object "java/lang/AbstractStringBuilder"))
theorem wB3_32 : (Jvm.Cond.code ({ cls := "java/lang/AbstractStringBuilder", name := "appendNull", desc := "()Ljava/lang/AbstractStringBuilder;" } : Jvm.MethodName) prog_12_method_26_code (3 : Nat) (Option.some (Jvm.ClassFile.FieldType.object "java/lang/AbstractStringBuilder"))) ∈ lw_tbl := z_in3 (List.mem_of_getElem? (i := 32) rfl)
theorem tJ5_appendNull_278bc : z_mt mJ5_appendNull_278bc 0 := ⟨wB3_32, wB1_24, ⟨by decide, by decide⟩, by decide +kernel, by decide⟩
theorem pJ5_appendNull_278bc : plainFor mJ5_appendNull_278bc.1 = true := by decide +kernel
theorem wB3_30 : (Jvm.Cond.privateMethod ({ cls := "java/lang/AbstractStringBuilder", name := "appendNull", desc := "()Ljava/lang/AbstractStringBuilder;" } : Jvm.MethodName)) ∈ lw_tbl := z_in3 (List.mem_of_getElem? (i := 30) rfl)
theorem wB3_31 : (Jvm.Cond.instanceMethod ({ cls := "java/lang/AbstractStringBuilder", name := "appendNull", desc := "()Ljava/lang/AbstractStringBuilder;" } : Jvm.MethodName)) ∈ lw_tbl := z_in3 (List.mem_of_getElem? (i := 31) rfl)
theorem uJ5_appendNull_278bc : z_mu mJ5_appendNull_278bc 10 := ⟨wB3_31, "java/lang/StringBuilder", (TJ4, 4), rfl, Or.inr ⟨wB3_30, _, wB3_206, rfl⟩⟩
theorem wB7_40 : (Jvm.Cond.sameMethod "java/lang/AbstractStringBuilder" "java/lang/AbstractStringBuilder" "appendNull" "()Ljava/lang/AbstractStringBuilder;") ∈ lw_tbl := z_in7 (List.mem_of_getElem? (i := 40) rfl)
theorem qJ5_appendNull_278bc : z_ms' "java/lang/StringBuilder" mJ5_appendNull_278bc := ⟨wB7_40, wB3_18, wB3_31, by decide⟩
theorem wB3_29 : (Jvm.Cond.methodLink "java/lang/AbstractStringBuilder" (204 : Nat) ({ cls := "java/lang/AbstractStringBuilder", name := "appendNull", desc := "()Ljava/lang/AbstractStringBuilder;" } : Jvm.MethodName)) ∈ lw_tbl := z_in3 (List.mem_of_getElem? (i := 29) rfl)
def mJ0_length_8abf5 : z_M := (yJ0_length_8abf5, cJ0_length_8abf5, 1, some .int)
theorem wB3_102 : (Jvm.Cond.code ({ cls := "java/lang/String", name := "length", desc := "()I" } : Jvm.MethodName) prog_26_method_54_code (1 : Nat) (Option.some Jvm.ClassFile.FieldType.int)) ∈ lw_tbl := z_in3 (List.mem_of_getElem? (i := 102) rfl)
theorem tJ0_length_8abf5 : z_mt mJ0_length_8abf5 0 := ⟨wB3_102, wB1_26, ⟨by decide, by decide⟩, by decide +kernel, by decide⟩
theorem pJ0_length_8abf5 : plainFor mJ0_length_8abf5.1 = true := by decide +kernel
theorem wB3_100 : (Jvm.Cond.instanceMethod ({ cls := "java/lang/String", name := "length", desc := "()I" } : Jvm.MethodName)) ∈ lw_tbl := z_in3 (List.mem_of_getElem? (i := 100) rfl)
theorem wB3_101 : (Jvm.Cond.selects "java/lang/String" ({ cls := "java/lang/String", name := "length", desc := "()I" } : Jvm.MethodName) ({ cls := "java/lang/String", name := "length", desc := "()I" } : Jvm.MethodName)) ∈ lw_tbl := z_in3 (List.mem_of_getElem? (i := 101) rfl)
theorem vJ0_length_8abf5 : z_mv mJ0_length_8abf5 11 := ⟨wB3_100, wB3_101, ⟨(TJ0, 4), rfl⟩⟩
theorem wB3_99 : (Jvm.Cond.methodLink "java/lang/AbstractStringBuilder" (32 : Nat) ({ cls := "java/lang/String", name := "length", desc := "()I" } : Jvm.MethodName)) ∈ lw_tbl := z_in3 (List.mem_of_getElem? (i := 99) rfl)
theorem wB3_33 : (Jvm.Cond.methodLink "java/lang/AbstractStringBuilder" (100 : Nat) ({ cls := "java/lang/AbstractStringBuilder", name := "ensureCapacityInternal", desc := "(I)V" } : Jvm.MethodName)) ∈ lw_tbl := z_in3 (List.mem_of_getElem? (i := 33) rfl)
def mJ5_putStringAt_47b60 : z_M := (yJ5_putStringAt_47b60, cJ5_putStringAt_47b60, 3, none)
theorem wB3_111 : (Jvm.Cond.code ({ cls := "java/lang/AbstractStringBuilder", name := "putStringAt", desc := "(ILjava/lang/String;)V" } : Jvm.MethodName) prog_12_method_73_code (3 : Nat) (Option.none : Option Jvm.ClassFile.FieldType)) ∈ lw_tbl := z_in3 (List.mem_of_getElem? (i := 111) rfl)
theorem tJ5_putStringAt_47b60 : z_mt mJ5_putStringAt_47b60 2 := ⟨wB3_111, wB1_24, ⟨by decide, by decide⟩, by decide +kernel, by decide⟩
theorem pJ5_putStringAt_47b60 : plainFor mJ5_putStringAt_47b60.1 = true := by decide +kernel
theorem wB3_109 : (Jvm.Cond.privateMethod ({ cls := "java/lang/AbstractStringBuilder", name := "putStringAt", desc := "(ILjava/lang/String;)V" } : Jvm.MethodName)) ∈ lw_tbl := z_in3 (List.mem_of_getElem? (i := 109) rfl)
theorem wB3_110 : (Jvm.Cond.instanceMethod ({ cls := "java/lang/AbstractStringBuilder", name := "putStringAt", desc := "(ILjava/lang/String;)V" } : Jvm.MethodName)) ∈ lw_tbl := z_in3 (List.mem_of_getElem? (i := 110) rfl)
theorem uJ5_putStringAt_47b60 : z_mu mJ5_putStringAt_47b60 10 := ⟨wB3_110, "java/lang/StringBuilder", (TJ4, 4), rfl, Or.inr ⟨wB3_109, _, wB3_206, rfl⟩⟩
theorem wB7_43 : (Jvm.Cond.sameMethod "java/lang/AbstractStringBuilder" "java/lang/AbstractStringBuilder" "putStringAt" "(ILjava/lang/String;)V") ∈ lw_tbl := z_in7 (List.mem_of_getElem? (i := 43) rfl)
theorem qJ5_putStringAt_47b60 : z_ms' "java/lang/StringBuilder" mJ5_putStringAt_47b60 := ⟨wB7_43, wB3_18, wB3_110, by decide⟩
theorem wB3_108 : (Jvm.Cond.methodLink "java/lang/AbstractStringBuilder" (208 : Nat) ({ cls := "java/lang/AbstractStringBuilder", name := "putStringAt", desc := "(ILjava/lang/String;)V" } : Jvm.MethodName)) ∈ lw_tbl := z_in3 (List.mem_of_getElem? (i := 108) rfl)
def mJ5_append_3fe6f : z_M := (yJ5_append_3fe6f, cJ5_append_3fe6f, 2, some (.object "java/lang/AbstractStringBuilder"))
theorem wB3_148 : (Jvm.Cond.code ({ cls := "java/lang/AbstractStringBuilder", name := "append", desc := "(C)Ljava/lang/AbstractStringBuilder;" } : Jvm.MethodName) prog_12_method_31_code (2 : Nat) (Option.some (Jvm.ClassFile.FieldType.object "java/lang/AbstractStringBuilder"))) ∈ lw_tbl := z_in3 (List.mem_of_getElem? (i := 148) rfl)
theorem tJ5_append_3fe6f : z_mt mJ5_append_3fe6f 1 := ⟨wB3_148, wB1_24, ⟨by decide, by decide⟩, by decide +kernel, by decide⟩
theorem pJ5_append_3fe6f : plainFor mJ5_append_3fe6f.1 = true := by decide +kernel
theorem wB7_46 : (Jvm.Cond.sameMethod "java/lang/AbstractStringBuilder" "java/lang/AbstractStringBuilder" "append" "(C)Ljava/lang/AbstractStringBuilder;") ∈ lw_tbl := z_in7 (List.mem_of_getElem? (i := 46) rfl)
theorem wB3_147 : (Jvm.Cond.instanceMethod ({ cls := "java/lang/AbstractStringBuilder", name := "append", desc := "(C)Ljava/lang/AbstractStringBuilder;" } : Jvm.MethodName)) ∈ lw_tbl := z_in3 (List.mem_of_getElem? (i := 147) rfl)
theorem qJ5_append_3fe6f : z_ms' "java/lang/StringBuilder" mJ5_append_3fe6f := ⟨wB7_46, wB3_18, wB3_147, by decide⟩
def mJ5_isLatin1_aae02 : z_M := (yJ5_isLatin1_aae02, cJ5_isLatin1_aae02, 1, some .boolean)
theorem wB3_72 : (Jvm.Cond.code ({ cls := "java/lang/AbstractStringBuilder", name := "isLatin1", desc := "()Z" } : Jvm.MethodName) prog_12_method_68_code (1 : Nat) (Option.some Jvm.ClassFile.FieldType.boolean)) ∈ lw_tbl := z_in3 (List.mem_of_getElem? (i := 72) rfl)
theorem tJ5_isLatin1_aae02 : z_mt mJ5_isLatin1_aae02 0 := ⟨wB3_72, wB1_24, ⟨by decide, by decide⟩, by decide +kernel, by decide⟩
theorem pJ5_isLatin1_aae02 : plainFor mJ5_isLatin1_aae02.1 = true := by decide +kernel
theorem wB3_71 : (Jvm.Cond.selects "java/lang/StringBuilder" ({ cls := "java/lang/AbstractStringBuilder", name := "isLatin1", desc := "()Z" } : Jvm.MethodName) ({ cls := "java/lang/AbstractStringBuilder", name := "isLatin1", desc := "()Z" } : Jvm.MethodName)) ∈ lw_tbl := z_in3 (List.mem_of_getElem? (i := 71) rfl)
theorem wB3_69 : (Jvm.Cond.instanceMethod ({ cls := "java/lang/AbstractStringBuilder", name := "isLatin1", desc := "()Z" } : Jvm.MethodName)) ∈ lw_tbl := z_in3 (List.mem_of_getElem? (i := 69) rfl)
theorem uJ5_isLatin1_aae02 : z_mu mJ5_isLatin1_aae02 10 := ⟨wB3_69, "java/lang/StringBuilder", (TJ4, 4), rfl, Or.inl wB3_71⟩
theorem wB3_70 : (Jvm.Cond.sameMethod "java/lang/AbstractStringBuilder" "java/lang/AbstractStringBuilder" "isLatin1" "()Z") ∈ lw_tbl := z_in3 (List.mem_of_getElem? (i := 70) rfl)
theorem qJ5_isLatin1_aae02 : z_ms' "java/lang/StringBuilder" mJ5_isLatin1_aae02 := ⟨wB3_70, wB3_18, wB3_69, by decide⟩
theorem wB3_68 : (Jvm.Cond.methodLink "java/lang/AbstractStringBuilder" (83 : Nat) ({ cls := "java/lang/AbstractStringBuilder", name := "isLatin1", desc := "()Z" } : Jvm.MethodName)) ∈ lw_tbl := z_in3 (List.mem_of_getElem? (i := 68) rfl)
def mJ1_canEncode_fc78d : z_M := (yJ1_canEncode_fc78d, cJ1_canEncode_fc78d, 1, some .boolean)
theorem wB1_28 : (Jvm.Cond.initialized "java/lang/StringLatin1") ∈ lw_tbl := z_in1 (List.mem_of_getElem? (i := 28) rfl)
theorem wB3_151 : (Jvm.Cond.code ({ cls := "java/lang/StringLatin1", name := "canEncode", desc := "(C)Z" } : Jvm.MethodName) prog_28_method_3_code (1 : Nat) (Option.some Jvm.ClassFile.FieldType.boolean)) ∈ lw_tbl := z_in3 (List.mem_of_getElem? (i := 151) rfl)
theorem tJ1_canEncode_fc78d : z_mt mJ1_canEncode_fc78d 1 := ⟨wB3_151, wB1_28, ⟨by decide, by decide⟩, by decide +kernel, by decide⟩
theorem pJ1_canEncode_fc78d : plainFor mJ1_canEncode_fc78d.1 = true := by decide +kernel
theorem wB3_150 : (Jvm.Cond.static ({ cls := "java/lang/StringLatin1", name := "canEncode", desc := "(C)Z" } : Jvm.MethodName)) ∈ lw_tbl := z_in3 (List.mem_of_getElem? (i := 150) rfl)
theorem sJ1_canEncode_fc78d : Cond.static mJ1_canEncode_fc78d.1 ∈ lw_tbl := wB3_150
theorem wB3_149 : (Jvm.Cond.methodLink "java/lang/AbstractStringBuilder" (191 : Nat) ({ cls := "java/lang/StringLatin1", name := "canEncode", desc := "(C)Z" } : Jvm.MethodName)) ∈ lw_tbl := z_in3 (List.mem_of_getElem? (i := 149) rfl)
def mJ5_inflate_da8c8 : z_M := (yJ5_inflate_da8c8, cJ5_inflate_da8c8, 2, none)
theorem wB3_120 : (Jvm.Cond.code ({ cls := "java/lang/AbstractStringBuilder", name := "inflate", desc := "()V" } : Jvm.MethodName) prog_12_method_11_code (2 : Nat) (Option.none : Option Jvm.ClassFile.FieldType)) ∈ lw_tbl := z_in3 (List.mem_of_getElem? (i := 120) rfl)
theorem tJ5_inflate_da8c8 : z_mt mJ5_inflate_da8c8 0 := ⟨wB3_120, wB1_24, ⟨by decide, by decide⟩, by decide +kernel, by decide⟩
theorem pJ5_inflate_da8c8 : plainFor mJ5_inflate_da8c8.1 = true := by decide +kernel
theorem wB3_118 : (Jvm.Cond.privateMethod ({ cls := "java/lang/AbstractStringBuilder", name := "inflate", desc := "()V" } : Jvm.MethodName)) ∈ lw_tbl := z_in3 (List.mem_of_getElem? (i := 118) rfl)
theorem wB3_119 : (Jvm.Cond.instanceMethod ({ cls := "java/lang/AbstractStringBuilder", name := "inflate", desc := "()V" } : Jvm.MethodName)) ∈ lw_tbl := z_in3 (List.mem_of_getElem? (i := 119) rfl)
theorem uJ5_inflate_da8c8 : z_mu mJ5_inflate_da8c8 10 := ⟨wB3_119, "java/lang/StringBuilder", (TJ4, 4), rfl, Or.inr ⟨wB3_118, _, wB3_206, rfl⟩⟩
theorem wB7_45 : (Jvm.Cond.sameMethod "java/lang/AbstractStringBuilder" "java/lang/AbstractStringBuilder" "inflate" "()V") ∈ lw_tbl := z_in7 (List.mem_of_getElem? (i := 45) rfl)
theorem qJ5_inflate_da8c8 : z_ms' "java/lang/StringBuilder" mJ5_inflate_da8c8 := ⟨wB7_45, wB3_18, wB3_119, by decide⟩
theorem wB3_117 : (Jvm.Cond.methodLink "java/lang/AbstractStringBuilder" (195 : Nat) ({ cls := "java/lang/AbstractStringBuilder", name := "inflate", desc := "()V" } : Jvm.MethodName)) ∈ lw_tbl := z_in3 (List.mem_of_getElem? (i := 117) rfl)
def mJ5_append_c97b9 : z_M := (yJ5_append_c97b9, cJ5_append_c97b9, 4, some (.object "java/lang/AbstractStringBuilder"))
theorem wB3_170 : (Jvm.Cond.code ({ cls := "java/lang/AbstractStringBuilder", name := "append", desc := "(I)Ljava/lang/AbstractStringBuilder;" } : Jvm.MethodName) prog_12_method_32_code (4 : Nat) (Option.some (Jvm.ClassFile.FieldType.object "java/lang/AbstractStringBuilder"))) ∈ lw_tbl := z_in3 (List.mem_of_getElem? (i := 170) rfl)
theorem tJ5_append_c97b9 : z_mt mJ5_append_c97b9 1 := ⟨wB3_170, wB1_24, ⟨by decide, by decide⟩, by decide +kernel, by decide⟩
theorem pJ5_append_c97b9 : plainFor mJ5_append_c97b9.1 = true := by decide +kernel
theorem wB7_47 : (Jvm.Cond.sameMethod "java/lang/AbstractStringBuilder" "java/lang/AbstractStringBuilder" "append" "(I)Ljava/lang/AbstractStringBuilder;") ∈ lw_tbl := z_in7 (List.mem_of_getElem? (i := 47) rfl)
theorem wB3_169 : (Jvm.Cond.instanceMethod ({ cls := "java/lang/AbstractStringBuilder", name := "append", desc := "(I)Ljava/lang/AbstractStringBuilder;" } : Jvm.MethodName)) ∈ lw_tbl := z_in3 (List.mem_of_getElem? (i := 169) rfl)
theorem qJ5_append_c97b9 : z_ms' "java/lang/StringBuilder" mJ5_append_c97b9 := ⟨wB7_47, wB3_18, wB3_169, by decide⟩
def mJ6_stringSize_0f7a4 : z_M := (yJ6_stringSize_0f7a4, cJ6_stringSize_0f7a4, 4, some .int)
theorem wB1_30 : (Jvm.Cond.initialized "java/lang/Integer") ∈ lw_tbl := z_in1 (List.mem_of_getElem? (i := 30) rfl)
theorem wB3_173 : (Jvm.Cond.code ({ cls := "java/lang/Integer", name := "stringSize", desc := "(I)I" } : Jvm.MethodName) prog_21_method_13_code (4 : Nat) (Option.some Jvm.ClassFile.FieldType.int)) ∈ lw_tbl := z_in3 (List.mem_of_getElem? (i := 173) rfl)
theorem tJ6_stringSize_0f7a4 : z_mt mJ6_stringSize_0f7a4 1 := ⟨wB3_173, wB1_30, ⟨by decide, by decide⟩, by decide +kernel, by decide⟩
theorem pJ6_stringSize_0f7a4 : plainFor mJ6_stringSize_0f7a4.1 = true := by decide +kernel
theorem wB3_172 : (Jvm.Cond.static ({ cls := "java/lang/Integer", name := "stringSize", desc := "(I)I" } : Jvm.MethodName)) ∈ lw_tbl := z_in3 (List.mem_of_getElem? (i := 172) rfl)
theorem sJ6_stringSize_0f7a4 : Cond.static mJ6_stringSize_0f7a4.1 ∈ lw_tbl := wB3_172
theorem wB3_171 : (Jvm.Cond.methodLink "java/lang/AbstractStringBuilder" (245 : Nat) ({ cls := "java/lang/Integer", name := "stringSize", desc := "(I)I" } : Jvm.MethodName)) ∈ lw_tbl := z_in3 (List.mem_of_getElem? (i := 171) rfl)
def mJ6_getChars_ba4f3 : z_M := (yJ6_getChars_ba4f3, cJ6_getChars_ba4f3, 7, some .int)
theorem wB3_176 : (Jvm.Cond.code ({ cls := "java/lang/Integer", name := "getChars", desc := "(II[B)I" } : Jvm.MethodName) prog_21_method_12_code (7 : Nat) (Option.some Jvm.ClassFile.FieldType.int)) ∈ lw_tbl := z_in3 (List.mem_of_getElem? (i := 176) rfl)
theorem tJ6_getChars_ba4f3 : z_mt mJ6_getChars_ba4f3 3 := ⟨wB3_176, wB1_30, ⟨by decide, by decide⟩, by decide +kernel, by decide⟩
theorem pJ6_getChars_ba4f3 : plainFor mJ6_getChars_ba4f3.1 = true := by decide +kernel
theorem wB3_175 : (Jvm.Cond.static ({ cls := "java/lang/Integer", name := "getChars", desc := "(II[B)I" } : Jvm.MethodName)) ∈ lw_tbl := z_in3 (List.mem_of_getElem? (i := 175) rfl)
theorem sJ6_getChars_ba4f3 : Cond.static mJ6_getChars_ba4f3.1 ∈ lw_tbl := wB3_175
theorem wB3_174 : (Jvm.Cond.methodLink "java/lang/AbstractStringBuilder" (248 : Nat) ({ cls := "java/lang/Integer", name := "getChars", desc := "(II[B)I" } : Jvm.MethodName)) ∈ lw_tbl := z_in3 (List.mem_of_getElem? (i := 174) rfl)
def mJ5_getValue_6d5f1 : z_M := (yJ5_getValue_6d5f1, cJ5_getValue_6d5f1, 1, some (.array .byte))
theorem wB3_207 : (Jvm.Cond.code ({ cls := "java/lang/AbstractStringBuilder", name := "getValue", desc := "()[B" } : Jvm.MethodName) prog_12_method_64_code (1 : Nat) (Option.some (Jvm.ClassFile.FieldType.array Jvm.ClassFile.FieldType.byte))) ∈ lw_tbl := z_in3 (List.mem_of_getElem? (i := 207) rfl)
theorem tJ5_getValue_6d5f1 : z_mt mJ5_getValue_6d5f1 0 := ⟨wB3_207, wB1_24, ⟨by decide, by decide⟩, by decide +kernel, by decide⟩
theorem pJ5_getValue_6d5f1 : plainFor mJ5_getValue_6d5f1.1 = true := by decide +kernel
theorem wB3_204 : (Jvm.Cond.instanceMethod ({ cls := "java/lang/AbstractStringBuilder", name := "getValue", desc := "()[B" } : Jvm.MethodName)) ∈ lw_tbl := z_in3 (List.mem_of_getElem? (i := 204) rfl)
theorem uJ5_getValue_6d5f1 : z_mu mJ5_getValue_6d5f1 10 := ⟨wB3_204, "java/lang/StringBuilder", (TJ4, 4), rfl, Or.inl wB3_206⟩
theorem wB3_205 : (Jvm.Cond.sameMethod "java/lang/AbstractStringBuilder" "java/lang/AbstractStringBuilder" "getValue" "()[B") ∈ lw_tbl := z_in3 (List.mem_of_getElem? (i := 205) rfl)
theorem qJ5_getValue_6d5f1 : z_ms' "java/lang/StringBuilder" mJ5_getValue_6d5f1 := ⟨wB3_205, wB3_18, wB3_204, by decide⟩
def mJ5_inflateIfNeededFor_a7421 : z_M := (yJ5_inflateIfNeededFor_a7421, cJ5_inflateIfNeededFor_a7421, 2, none)
theorem wB3_115 : (Jvm.Cond.code ({ cls := "java/lang/AbstractStringBuilder", name := "inflateIfNeededFor", desc := "(Ljava/lang/String;)V" } : Jvm.MethodName) prog_12_method_71_code (2 : Nat) (Option.none : Option Jvm.ClassFile.FieldType)) ∈ lw_tbl := z_in3 (List.mem_of_getElem? (i := 115) rfl)
theorem tJ5_inflateIfNeededFor_a7421 : z_mt mJ5_inflateIfNeededFor_a7421 1 := ⟨wB3_115, wB1_24, ⟨by decide, by decide⟩, by decide +kernel, by decide⟩
theorem pJ5_inflateIfNeededFor_a7421 : plainFor mJ5_inflateIfNeededFor_a7421.1 = true := by decide +kernel
theorem wB3_113 : (Jvm.Cond.privateMethod ({ cls := "java/lang/AbstractStringBuilder", name := "inflateIfNeededFor", desc := "(Ljava/lang/String;)V" } : Jvm.MethodName)) ∈ lw_tbl := z_in3 (List.mem_of_getElem? (i := 113) rfl)
theorem wB3_114 : (Jvm.Cond.instanceMethod ({ cls := "java/lang/AbstractStringBuilder", name := "inflateIfNeededFor", desc := "(Ljava/lang/String;)V" } : Jvm.MethodName)) ∈ lw_tbl := z_in3 (List.mem_of_getElem? (i := 114) rfl)
theorem uJ5_inflateIfNeededFor_a7421 : z_mu mJ5_inflateIfNeededFor_a7421 10 := ⟨wB3_114, "java/lang/StringBuilder", (TJ4, 4), rfl, Or.inr ⟨wB3_113, _, wB3_206, rfl⟩⟩
theorem wB7_44 : (Jvm.Cond.sameMethod "java/lang/AbstractStringBuilder" "java/lang/AbstractStringBuilder" "inflateIfNeededFor" "(Ljava/lang/String;)V") ∈ lw_tbl := z_in7 (List.mem_of_getElem? (i := 44) rfl)
theorem qJ5_inflateIfNeededFor_a7421 : z_ms' "java/lang/StringBuilder" mJ5_inflateIfNeededFor_a7421 := ⟨wB7_44, wB3_18, wB3_114, by decide⟩
def mJ0_coder_7d493 : z_M := (yJ0_coder_7d493, cJ0_coder_7d493, 1, some .byte)
theorem wB3_106 : (Jvm.Cond.code ({ cls := "java/lang/String", name := "coder", desc := "()B" } : Jvm.MethodName) prog_26_method_152_code (1 : Nat) (Option.some Jvm.ClassFile.FieldType.byte)) ∈ lw_tbl := z_in3 (List.mem_of_getElem? (i := 106) rfl)
theorem tJ0_coder_7d493 : z_mt mJ0_coder_7d493 0 := ⟨wB3_106, wB1_26, ⟨by decide, by decide⟩, by decide +kernel, by decide⟩
theorem pJ0_coder_7d493 : plainFor mJ0_coder_7d493.1 = true := by decide +kernel
theorem wB3_104 : (Jvm.Cond.instanceMethod ({ cls := "java/lang/String", name := "coder", desc := "()B" } : Jvm.MethodName)) ∈ lw_tbl := z_in3 (List.mem_of_getElem? (i := 104) rfl)
theorem wB3_105 : (Jvm.Cond.selects "java/lang/String" ({ cls := "java/lang/String", name := "coder", desc := "()B" } : Jvm.MethodName) ({ cls := "java/lang/String", name := "coder", desc := "()B" } : Jvm.MethodName)) ∈ lw_tbl := z_in3 (List.mem_of_getElem? (i := 105) rfl)
theorem vJ0_coder_7d493 : z_mv mJ0_coder_7d493 11 := ⟨wB3_104, wB3_105, ⟨(TJ0, 4), rfl⟩⟩
theorem wB3_116 : (Jvm.Cond.methodLink "java/lang/AbstractStringBuilder" (40 : Nat) ({ cls := "java/lang/String", name := "coder", desc := "()B" } : Jvm.MethodName)) ∈ lw_tbl := z_in3 (List.mem_of_getElem? (i := 116) rfl)
theorem wB3_112 : (Jvm.Cond.methodLink "java/lang/AbstractStringBuilder" (397 : Nat) ({ cls := "java/lang/AbstractStringBuilder", name := "inflateIfNeededFor", desc := "(Ljava/lang/String;)V" } : Jvm.MethodName)) ∈ lw_tbl := z_in3 (List.mem_of_getElem? (i := 112) rfl)
def mJ0_getBytes_840e7 : z_M := (yJ0_getBytes_840e7, cJ0_getBytes_840e7, 4, none)
theorem wB3_139 : (Jvm.Cond.code ({ cls := "java/lang/String", name := "getBytes", desc := "([BIB)V" } : Jvm.MethodName) prog_26_method_147_code (4 : Nat) (Option.none : Option Jvm.ClassFile.FieldType)) ∈ lw_tbl := z_in3 (List.mem_of_getElem? (i := 139) rfl)
theorem tJ0_getBytes_840e7 : z_mt mJ0_getBytes_840e7 3 := ⟨wB3_139, wB1_26, ⟨by decide, by decide⟩, by decide +kernel, by decide⟩
theorem pJ0_getBytes_840e7 : plainFor mJ0_getBytes_840e7.1 = true := by decide +kernel
theorem wB3_137 : (Jvm.Cond.instanceMethod ({ cls := "java/lang/String", name := "getBytes", desc := "([BIB)V" } : Jvm.MethodName)) ∈ lw_tbl := z_in3 (List.mem_of_getElem? (i := 137) rfl)
theorem wB3_138 : (Jvm.Cond.selects "java/lang/String" ({ cls := "java/lang/String", name := "getBytes", desc := "([BIB)V" } : Jvm.MethodName) ({ cls := "java/lang/String", name := "getBytes", desc := "([BIB)V" } : Jvm.MethodName)) ∈ lw_tbl := z_in3 (List.mem_of_getElem? (i := 138) rfl)
theorem vJ0_getBytes_840e7 : z_mv mJ0_getBytes_840e7 11 := ⟨wB3_137, wB3_138, ⟨(TJ0, 4), rfl⟩⟩
theorem wB3_136 : (Jvm.Cond.methodLink "java/lang/AbstractStringBuilder" (399 : Nat) ({ cls := "java/lang/String", name := "getBytes", desc := "([BIB)V" } : Jvm.MethodName)) ∈ lw_tbl := z_in3 (List.mem_of_getElem? (i := 136) rfl)
theorem wB2_233 : (Jvm.Cond.methodLink "java/lang/StringBuilder" (1 : Nat) ({ cls := "java/lang/AbstractStringBuilder", name := "<init>", desc := "(I)V" } : Jvm.MethodName)) ∈ lw_tbl := z_in2 (List.mem_of_getElem? (i := 233) rfl)
theorem wB3_26 : (Jvm.Cond.methodLink "java/lang/StringBuilder" (29 : Nat) ({ cls := "java/lang/AbstractStringBuilder", name := "append", desc := "(Ljava/lang/String;)Ljava/lang/AbstractStringBuilder;" } : Jvm.MethodName)) ∈ lw_tbl := z_in3 (List.mem_of_getElem? (i := 26) rfl)
theorem wB3_146 : (Jvm.Cond.methodLink "java/lang/StringBuilder" (50 : Nat) ({ cls := "java/lang/AbstractStringBuilder", name := "append", desc := "(C)Ljava/lang/AbstractStringBuilder;" } : Jvm.MethodName)) ∈ lw_tbl := z_in3 (List.mem_of_getElem? (i := 146) rfl)
theorem wB3_168 : (Jvm.Cond.methodLink "java/lang/StringBuilder" (53 : Nat) ({ cls := "java/lang/AbstractStringBuilder", name := "append", desc := "(I)Ljava/lang/AbstractStringBuilder;" } : Jvm.MethodName)) ∈ lw_tbl := z_in3 (List.mem_of_getElem? (i := 168) rfl)
theorem wB3_194 : (Jvm.Cond.classLink "java/lang/StringBuilder" (18 : Nat) "java/lang/String") ∈ lw_tbl := z_in3 (List.mem_of_getElem? (i := 194) rfl)
theorem wB3_195 : (Jvm.Cond.instantiable "java/lang/String" (4 : Nat)) ∈ lw_tbl := z_in3 (List.mem_of_getElem? (i := 195) rfl)
def mJ0_init_81219 : z_M := (yJ0_init_81219, cJ0_init_81219, 2, none)
theorem wB3_198 : (Jvm.Cond.code ({ cls := "java/lang/String", name := "<init>", desc := "(Ljava/lang/StringBuilder;)V" } : Jvm.MethodName) prog_26_method_53_code (2 : Nat) (Option.none : Option Jvm.ClassFile.FieldType)) ∈ lw_tbl := z_in3 (List.mem_of_getElem? (i := 198) rfl)
theorem tJ0_init_81219 : z_mt mJ0_init_81219 1 := ⟨wB3_198, wB1_26, ⟨by decide, by decide⟩, by decide +kernel, by decide⟩
theorem pJ0_init_81219 : plainFor mJ0_init_81219.1 = true := by decide +kernel
theorem wB3_197 : (Jvm.Cond.instanceMethod ({ cls := "java/lang/String", name := "<init>", desc := "(Ljava/lang/StringBuilder;)V" } : Jvm.MethodName)) ∈ lw_tbl := z_in3 (List.mem_of_getElem? (i := 197) rfl)
theorem iJ0_init_81219 : (mJ0_init_81219.1.name = "<init>" ∧ mJ0_init_81219.2.2.2 = none) ∧ Cond.instanceMethod mJ0_init_81219.1 ∈ lw_tbl := ⟨⟨rfl, rfl⟩, wB3_197⟩
theorem wB3_196 : (Jvm.Cond.methodLink "java/lang/StringBuilder" (137 : Nat) ({ cls := "java/lang/String", name := "<init>", desc := "(Ljava/lang/StringBuilder;)V" } : Jvm.MethodName)) ∈ lw_tbl := z_in3 (List.mem_of_getElem? (i := 196) rfl)
theorem wB4_15 : (Jvm.Cond.methodLink "java/lang/StringBuilder" (329 : Nat) ({ cls := "java/lang/AbstractStringBuilder", name := "charAt", desc := "(I)C" } : Jvm.MethodName)) ∈ lw_tbl := z_in4 (List.mem_of_getElem? (i := 15) rfl)
theorem wB3_214 : (Jvm.Cond.methodLink "java/lang/StringBuilder" (343 : Nat) ({ cls := "java/lang/AbstractStringBuilder", name := "length", desc := "()I" } : Jvm.MethodName)) ∈ lw_tbl := z_in3 (List.mem_of_getElem? (i := 214) rfl)
def mJ0_init_db425 : z_M := (yJ0_init_db425, cJ0_init_db425, 5, none)
theorem wB3_201 : (Jvm.Cond.code ({ cls := "java/lang/String", name := "<init>", desc := "(Ljava/lang/AbstractStringBuilder;Ljava/lang/Void;)V" } : Jvm.MethodName) prog_26_method_150_code (5 : Nat) (Option.none : Option Jvm.ClassFile.FieldType)) ∈ lw_tbl := z_in3 (List.mem_of_getElem? (i := 201) rfl)
theorem tJ0_init_db425 : z_mt mJ0_init_db425 2 := ⟨wB3_201, wB1_26, ⟨by decide, by decide⟩, by decide +kernel, by decide⟩
theorem pJ0_init_db425 : plainFor mJ0_init_db425.1 = true := by decide +kernel
theorem wB3_200 : (Jvm.Cond.instanceMethod ({ cls := "java/lang/String", name := "<init>", desc := "(Ljava/lang/AbstractStringBuilder;Ljava/lang/Void;)V" } : Jvm.MethodName)) ∈ lw_tbl := z_in3 (List.mem_of_getElem? (i := 200) rfl)
theorem iJ0_init_db425 : (mJ0_init_db425.1.name = "<init>" ∧ mJ0_init_db425.2.2.2 = none) ∧ Cond.instanceMethod mJ0_init_db425.1 ∈ lw_tbl := ⟨⟨rfl, rfl⟩, wB3_200⟩
theorem wB3_199 : (Jvm.Cond.methodLink "java/lang/String" (489 : Nat) ({ cls := "java/lang/String", name := "<init>", desc := "(Ljava/lang/AbstractStringBuilder;Ljava/lang/Void;)V" } : Jvm.MethodName)) ∈ lw_tbl := z_in3 (List.mem_of_getElem? (i := 199) rfl)
theorem wB3_239 : (Jvm.Cond.fieldLink "java/lang/String" (9 : Nat) "java/lang/String" "value" "[B") ∈ lw_tbl := z_in3 (List.mem_of_getElem? (i := 239) rfl)
theorem fJ0_9 : z_fd "java/lang/String" 9 11 0 (.array .byte) true := ⟨_, _, _, _, _, cJ0, by decide, rfl, rfl, (fun _ => rfl), Or.inl wB3_239, Or.inl rfl⟩
theorem wB3_103 : (Jvm.Cond.methodLink "java/lang/String" (335 : Nat) ({ cls := "java/lang/String", name := "coder", desc := "()B" } : Jvm.MethodName)) ∈ lw_tbl := z_in3 (List.mem_of_getElem? (i := 103) rfl)
def mJ1_inflate_0e8fd : z_M := (yJ1_inflate_0e8fd, cJ1_inflate_0e8fd, 5, none)
theorem wB3_123 : (Jvm.Cond.code ({ cls := "java/lang/StringLatin1", name := "inflate", desc := "([BI[BII)V" } : Jvm.MethodName) prog_28_method_50_code (5 : Nat) (Option.none : Option Jvm.ClassFile.FieldType)) ∈ lw_tbl := z_in3 (List.mem_of_getElem? (i := 123) rfl)
theorem tJ1_inflate_0e8fd : z_mt mJ1_inflate_0e8fd 5 := ⟨wB3_123, wB1_28, ⟨by decide, by decide⟩, by decide +kernel, by decide⟩
theorem pJ1_inflate_0e8fd : plainFor mJ1_inflate_0e8fd.1 = true := by decide +kernel
theorem wB3_122 : (Jvm.Cond.static ({ cls := "java/lang/StringLatin1", name := "inflate", desc := "([BI[BII)V" } : Jvm.MethodName)) ∈ lw_tbl := z_in3 (List.mem_of_getElem? (i := 122) rfl)
theorem sJ1_inflate_0e8fd : Cond.static mJ1_inflate_0e8fd.1 ∈ lw_tbl := wB3_122
theorem wB3_141 : (Jvm.Cond.methodLink "java/lang/String" (106 : Nat) ({ cls := "java/lang/StringLatin1", name := "inflate", desc := "([BI[BII)V" } : Jvm.MethodName)) ∈ lw_tbl := z_in3 (List.mem_of_getElem? (i := 141) rfl)
theorem wB3_202 : (Jvm.Cond.methodLink "java/lang/String" (1 : Nat) ({ cls := "java/lang/Object", name := "<init>", desc := "()V" } : Jvm.MethodName)) ∈ lw_tbl := z_in3 (List.mem_of_getElem? (i := 202) rfl)
theorem wB3_203 : (Jvm.Cond.methodLink "java/lang/String" (552 : Nat) ({ cls := "java/lang/AbstractStringBuilder", name := "getValue", desc := "()[B" } : Jvm.MethodName)) ∈ lw_tbl := z_in3 (List.mem_of_getElem? (i := 203) rfl)
theorem wB3_208 : (Jvm.Cond.methodLink "java/lang/String" (549 : Nat) ({ cls := "java/lang/AbstractStringBuilder", name := "length", desc := "()I" } : Jvm.MethodName)) ∈ lw_tbl := z_in3 (List.mem_of_getElem? (i := 208) rfl)
theorem wB3_216 : (Jvm.Cond.methodLink "java/lang/String" (1047 : Nat) ({ cls := "java/lang/AbstractStringBuilder", name := "isLatin1", desc := "()Z" } : Jvm.MethodName)) ∈ lw_tbl := z_in3 (List.mem_of_getElem? (i := 216) rfl)
theorem wB4_0 : (Jvm.Cond.fieldLink "java/lang/String" (15 : Nat) "java/lang/String" "coder" "B") ∈ lw_tbl := z_in4 (List.mem_of_getElem? (i := 0) rfl)
theorem fJ0_15 : z_fd "java/lang/String" 15 11 1 .byte true := ⟨_, _, _, _, _, cJ0, by decide, rfl, rfl, (fun _ => rfl), Or.inl wB4_0, Or.inl rfl⟩
def mJ7_copyOfRange_39247 : z_M := (yJ7_copyOfRange_39247, cJ7_copyOfRange_39247, 3, some (.array .byte))
theorem wB3_219 : (Jvm.Cond.code ({ cls := "java/util/Arrays", name := "copyOfRange", desc := "([BII)[B" } : Jvm.MethodName) prog_37_method_132_code (3 : Nat) (Option.some (Jvm.ClassFile.FieldType.array Jvm.ClassFile.FieldType.byte))) ∈ lw_tbl := z_in3 (List.mem_of_getElem? (i := 219) rfl)
theorem tJ7_copyOfRange_39247 : z_mt mJ7_copyOfRange_39247 3 := ⟨wB3_219, w1_12, ⟨by decide, by decide⟩, by decide +kernel, by decide⟩
theorem pJ7_copyOfRange_39247 : plainFor mJ7_copyOfRange_39247.1 = true := by decide +kernel
theorem wB3_218 : (Jvm.Cond.static ({ cls := "java/util/Arrays", name := "copyOfRange", desc := "([BII)[B" } : Jvm.MethodName)) ∈ lw_tbl := z_in3 (List.mem_of_getElem? (i := 218) rfl)
theorem sJ7_copyOfRange_39247 : Cond.static mJ7_copyOfRange_39247.1 ∈ lw_tbl := wB3_218
theorem wB3_217 : (Jvm.Cond.methodLink "java/lang/String" (54 : Nat) ({ cls := "java/util/Arrays", name := "copyOfRange", desc := "([BII)[B" } : Jvm.MethodName)) ∈ lw_tbl := z_in3 (List.mem_of_getElem? (i := 217) rfl)
theorem wB3_8 : (Jvm.Cond.fieldLink "java/lang/String" (1048 : Nat) "java/lang/AbstractStringBuilder" "maybeLatin1" "Z") ∈ lw_tbl := z_in3 (List.mem_of_getElem? (i := 8) rfl)
theorem fJ0_1048 : z_fd "java/lang/String" 1048 10 2 .boolean false := ⟨_, _, _, _, _, cJ4, by decide, rfl, rfl, (fun h => by cases h), Or.inl wB3_8, Or.inl rfl⟩
theorem wB3_161 : (Jvm.Cond.methodLink "java/lang/String" (1059 : Nat) ({ cls := "jdk/internal/util/Preconditions", name := "checkIndex", desc := "(IILjava/util/function/BiFunction;)I" } : Jvm.MethodName)) ∈ lw_tbl := z_in3 (List.mem_of_getElem? (i := 161) rfl)
theorem wB3_61 : (Jvm.Cond.classLink "java/util/Arrays" (311 : Nat) "[B") ∈ lw_tbl := z_in3 (List.mem_of_getElem? (i := 61) rfl)
def mJ7_checkLength_df160 : z_M := (yJ7_checkLength_df160, cJ7_checkLength_df160, 2, none)
theorem wB3_225 : (Jvm.Cond.code ({ cls := "java/util/Arrays", name := "checkLength", desc := "(II)V" } : Jvm.MethodName) prog_37_method_131_code (2 : Nat) (Option.none : Option Jvm.ClassFile.FieldType)) ∈ lw_tbl := z_in3 (List.mem_of_getElem? (i := 225) rfl)
theorem tJ7_checkLength_df160 : z_mt mJ7_checkLength_df160 2 := ⟨wB3_225, w1_12, ⟨by decide, by decide⟩, by decide +kernel, by decide⟩
theorem pJ7_checkLength_df160 : plainFor mJ7_checkLength_df160.1 = true := by decide +kernel
theorem wB3_224 : (Jvm.Cond.static ({ cls := "java/util/Arrays", name := "checkLength", desc := "(II)V" } : Jvm.MethodName)) ∈ lw_tbl := z_in3 (List.mem_of_getElem? (i := 224) rfl)
theorem sJ7_checkLength_df160 : Cond.static mJ7_checkLength_df160.1 ∈ lw_tbl := wB3_224
def mJ7_copyOfRangeByte_39247 : z_M := (yJ7_copyOfRangeByte_39247, cJ7_copyOfRangeByte_39247, 5, some (.array .byte))
theorem wB3_222 : (Jvm.Cond.code ({ cls := "java/util/Arrays", name := "copyOfRangeByte", desc := "([BII)[B" } : Jvm.MethodName) prog_37_method_133_code (5 : Nat) (Option.some (Jvm.ClassFile.FieldType.array Jvm.ClassFile.FieldType.byte))) ∈ lw_tbl := z_in3 (List.mem_of_getElem? (i := 222) rfl)
theorem tJ7_copyOfRangeByte_39247 : z_mt mJ7_copyOfRangeByte_39247 3 := ⟨wB3_222, w1_12, ⟨by decide, by decide⟩, by decide +kernel, by decide⟩
theorem pJ7_copyOfRangeByte_39247 : plainFor mJ7_copyOfRangeByte_39247.1 = true := by decide +kernel
theorem wB3_221 : (Jvm.Cond.static ({ cls := "java/util/Arrays", name := "copyOfRangeByte", desc := "([BII)[B" } : Jvm.MethodName)) ∈ lw_tbl := z_in3 (List.mem_of_getElem? (i := 221) rfl)
theorem sJ7_copyOfRangeByte_39247 : Cond.static mJ7_copyOfRangeByte_39247.1 ∈ lw_tbl := wB3_221
theorem wB3_220 : (Jvm.Cond.methodLink "java/util/Arrays" (339 : Nat) ({ cls := "java/util/Arrays", name := "copyOfRangeByte", desc := "([BII)[B" } : Jvm.MethodName)) ∈ lw_tbl := z_in3 (List.mem_of_getElem? (i := 220) rfl)
theorem wB3_223 : (Jvm.Cond.methodLink "java/util/Arrays" (343 : Nat) ({ cls := "java/util/Arrays", name := "checkLength", desc := "(II)V" } : Jvm.MethodName)) ∈ lw_tbl := z_in3 (List.mem_of_getElem? (i := 223) rfl)
theorem wG_AbstractStringBuilder_18 : (Jvm.Cond.fieldLink "java/lang/AbstractStringBuilder" (18 : Nat) "java/lang/String" "COMPACT_STRINGS" "Z") ∈ lw_tbl := z_in2 (List.mem_of_getElem? (i := 237) rfl)
theorem wG_String_1053 : (Jvm.Cond.fieldLink "java/lang/String" (1053 : Nat) "jdk/internal/util/Preconditions" "SIOOBE_FORMATTER" "Ljava/util/function/BiFunction;") ∈ lw_tbl := z_in3 (List.mem_of_getElem? (i := 85) rfl)
theorem wG_String_38 : (Jvm.Cond.fieldLink "java/lang/String" (38 : Nat) "java/lang/String" "COMPACT_STRINGS" "Z") ∈ lw_tbl := z_in3 (List.mem_of_getElem? (i := 107) rfl)
theorem wG_Integer_83 : (Jvm.Cond.fieldLink "java/lang/Integer" (83 : Nat) "java/lang/Integer" "DigitOnes" "[B") ∈ lw_tbl := z_in3 (List.mem_of_getElem? (i := 177) rfl)
theorem wG_Integer_87 : (Jvm.Cond.fieldLink "java/lang/Integer" (87 : Nat) "java/lang/Integer" "DigitTens" "[B") ∈ lw_tbl := z_in3 (List.mem_of_getElem? (i := 179) rfl)
def DJ5_init_d00df : List (Nat × Instr × Nat) := [(0, .aload_n 0, 1), (1, .invokespecial 3, 3), (4, .getstatic 18, 3), (7, .ifCond .eq 18, 3), (10, .aload_n 0, 1), (11, .iload_n 1, 1), (12, .newarray .byte, 2), (14, .putfield 15, 3), (17, .aload_n 0, 1), (18, .iconst 0, 1), (19, .putfield 22, 3), (22, .goto 16, 3), (25, .aload_n 0, 1), (26, .iload_n 1, 1), (27, .invokestatic 26, 3), (30, .putfield 15, 3), (33, .aload_n 0, 1), (34, .iconst 1, 1), (35, .putfield 22, 3), (38, .return_, 1)]
theorem DJ5_init_d00df_ok : DJ5_init_d00df.all (fun q => decide (decode mJ5_init_d00df.2.1 q.1 = .ok q.2)) = true := by decide +kernel
theorem eJ5_init_d00df_0 : z_ad mJ5_init_d00df 0 0 1 := Or.inl ⟨0, z_D DJ5_init_d00df_ok 0 rfl, rfl, rfl⟩
theorem eJ5_init_d00df_1 : z_at mJ5_init_d00df 1 (.invokespecial 3) 3 4 ∧ Cond.methodLink mJ5_init_d00df.1.cls 3 objectInit ∈ lw_tbl := ⟨⟨z_D DJ5_init_d00df_ok 1 rfl, rfl⟩, wB2_236⟩
theorem eJ5_init_d00df_4 : z_at mJ5_init_d00df 4 (.getstatic 18) 3 7 := ⟨z_D DJ5_init_d00df_ok 2 rfl, rfl⟩
theorem eJ5_init_d00df_7 : z_br mJ5_init_d00df 7 (.ifCond .eq 18) (18) 10 25 := ⟨z_D DJ5_init_d00df_ok 3 rfl, rfl, by decide⟩
theorem eJ5_init_d00df_10 : z_ad mJ5_init_d00df 10 0 11 := Or.inl ⟨0, z_D DJ5_init_d00df_ok 4 rfl, rfl, rfl⟩
theorem eJ5_init_d00df_11 : z_ld mJ5_init_d00df 11 1 12 := Or.inl ⟨1, z_D DJ5_init_d00df_ok 5 rfl, rfl, rfl⟩
theorem eJ5_init_d00df_12 : z_at mJ5_init_d00df 12 (.newarray .byte) 2 14 := ⟨z_D DJ5_init_d00df_ok 6 rfl, rfl⟩
theorem eJ5_init_d00df_14 : z_at mJ5_init_d00df 14 (.putfield 15) 3 17 ∧ z_fd mJ5_init_d00df.1.cls 15 10 0 (.array .byte) false := ⟨⟨z_D DJ5_init_d00df_ok 7 rfl, rfl⟩, fJ5_15⟩
theorem eJ5_init_d00df_17 : z_ad mJ5_init_d00df 17 0 18 := Or.inl ⟨0, z_D DJ5_init_d00df_ok 8 rfl, rfl, rfl⟩
theorem eJ5_init_d00df_18 : z_co mJ5_init_d00df 18 (0) 19 := Or.inl ⟨z_D DJ5_init_d00df_ok 9 rfl, rfl⟩
theorem eJ5_init_d00df_19 : z_at mJ5_init_d00df 19 (.putfield 22) 3 22 ∧ z_fd mJ5_init_d00df.1.cls 22 10 1 .byte false := ⟨⟨z_D DJ5_init_d00df_ok 10 rfl, rfl⟩, fJ5_22⟩
theorem eJ5_init_d00df_22 : z_br mJ5_init_d00df 22 (.goto 16) (16) 25 38 := ⟨z_D DJ5_init_d00df_ok 11 rfl, rfl, by decide⟩
theorem eJ5_init_d00df_25 : z_ad mJ5_init_d00df 25 0 26 := Or.inl ⟨0, z_D DJ5_init_d00df_ok 12 rfl, rfl, rfl⟩
theorem eJ5_init_d00df_26 : z_ld mJ5_init_d00df 26 1 27 := Or.inl ⟨1, z_D DJ5_init_d00df_ok 13 rfl, rfl, rfl⟩
theorem eJ5_init_d00df_27 : z_at mJ5_init_d00df 27 (.invokestatic 26) 3 30 := ⟨z_D DJ5_init_d00df_ok 14 rfl, rfl⟩
theorem eJ5_init_d00df_30 : z_at mJ5_init_d00df 30 (.putfield 15) 3 33 ∧ z_fd mJ5_init_d00df.1.cls 15 10 0 (.array .byte) false := ⟨⟨z_D DJ5_init_d00df_ok 15 rfl, rfl⟩, fJ5_15⟩
theorem eJ5_init_d00df_33 : z_ad mJ5_init_d00df 33 0 34 := Or.inl ⟨0, z_D DJ5_init_d00df_ok 16 rfl, rfl, rfl⟩
theorem eJ5_init_d00df_34 : z_co mJ5_init_d00df 34 (1) 35 := Or.inl ⟨z_D DJ5_init_d00df_ok 17 rfl, rfl⟩
theorem eJ5_init_d00df_35 : z_at mJ5_init_d00df 35 (.putfield 22) 3 38 ∧ z_fd mJ5_init_d00df.1.cls 22 10 1 .byte false := ⟨⟨z_D DJ5_init_d00df_ok 18 rfl, rfl⟩, fJ5_22⟩
theorem eJ5_init_d00df_38 : z_at mJ5_init_d00df 38 (.return_) 1 39 := ⟨z_D DJ5_init_d00df_ok 19 rfl, rfl⟩
def DJ5_length_8abf5 : List (Nat × Instr × Nat) := [(0, .aload_n 0, 1), (1, .getfield 79, 3), (4, .ireturn, 1)]
theorem DJ5_length_8abf5_ok : DJ5_length_8abf5.all (fun q => decide (decode mJ5_length_8abf5.2.1 q.1 = .ok q.2)) = true := by decide +kernel
theorem eJ5_length_8abf5_0 : z_ad mJ5_length_8abf5 0 0 1 := Or.inl ⟨0, z_D DJ5_length_8abf5_ok 0 rfl, rfl, rfl⟩
theorem eJ5_length_8abf5_1 : z_at mJ5_length_8abf5 1 (.getfield 79) 3 4 ∧ z_fd mJ5_length_8abf5.1.cls 79 10 3 .int false := ⟨⟨z_D DJ5_length_8abf5_ok 1 rfl, rfl⟩, fJ5_79⟩
theorem eJ5_length_8abf5_4 : z_at mJ5_length_8abf5 4 (.ireturn) 1 5 := ⟨z_D DJ5_length_8abf5_ok 2 rfl, rfl⟩
def DJ5_ensureCapacityInternal_d00df : List (Nat × Instr × Nat) := [(0, .aload_n 0, 1), (1, .getfield 15, 3), (4, .arraylength, 1), (5, .aload_n 0, 1), (6, .getfield 22, 3), (9, .ishr, 1), (10, .istore_n 2, 1), (11, .iload_n 1, 1), (12, .iload_n 2, 1), (13, .isub, 1), (14, .ifCond .le 24, 3), (17, .aload_n 0, 1), (18, .aload_n 0, 1), (19, .getfield 15, 3), (22, .aload_n 0, 1), (23, .iload_n 1, 1), (24, .invokevirtual 104, 3), (27, .aload_n 0, 1), (28, .getfield 22, 3), (31, .ishl, 1), (32, .invokestatic 108, 3), (35, .putfield 15, 3), (38, .return_, 1)]
theorem DJ5_ensureCapacityInternal_d00df_ok : DJ5_ensureCapacityInternal_d00df.all (fun q => decide (decode mJ5_ensureCapacityInternal_d00df.2.1 q.1 = .ok q.2)) = true := by decide +kernel
theorem eJ5_ensureCapacityInternal_d00df_0 : z_ad mJ5_ensureCapacityInternal_d00df 0 0 1 := Or.inl ⟨0, z_D DJ5_ensureCapacityInternal_d00df_ok 0 rfl, rfl, rfl⟩
theorem eJ5_ensureCapacityInternal_d00df_1 : z_at mJ5_ensureCapacityInternal_d00df 1 (.getfield 15) 3 4 ∧ z_fd mJ5_ensureCapacityInternal_d00df.1.cls 15 10 0 (.array .byte) false := ⟨⟨z_D DJ5_ensureCapacityInternal_d00df_ok 1 rfl, rfl⟩, fJ5_15⟩
theorem eJ5_ensureCapacityInternal_d00df_4 : z_at mJ5_ensureCapacityInternal_d00df 4 (.arraylength) 1 5 := ⟨z_D DJ5_ensureCapacityInternal_d00df_ok 2 rfl, rfl⟩
theorem eJ5_ensureCapacityInternal_d00df_5 : z_ad mJ5_ensureCapacityInternal_d00df 5 0 6 := Or.inl ⟨0, z_D DJ5_ensureCapacityInternal_d00df_ok 3 rfl, rfl, rfl⟩
theorem eJ5_ensureCapacityInternal_d00df_6 : z_at mJ5_ensureCapacityInternal_d00df 6 (.getfield 22) 3 9 ∧ z_fd mJ5_ensureCapacityInternal_d00df.1.cls 22 10 1 .byte false := ⟨⟨z_D DJ5_ensureCapacityInternal_d00df_ok 4 rfl, rfl⟩, fJ5_22⟩
theorem eJ5_ensureCapacityInternal_d00df_9 : z_at mJ5_ensureCapacityInternal_d00df 9 (.ishr) 1 10 := ⟨z_D DJ5_ensureCapacityInternal_d00df_ok 5 rfl, rfl⟩
theorem eJ5_ensureCapacityInternal_d00df_10 : z_sd mJ5_ensureCapacityInternal_d00df 10 2 11 := ⟨Or.inl ⟨2, z_D DJ5_ensureCapacityInternal_d00df_ok 6 rfl, rfl, rfl⟩, by decide⟩
theorem eJ5_ensureCapacityInternal_d00df_11 : z_ld mJ5_ensureCapacityInternal_d00df 11 1 12 := Or.inl ⟨1, z_D DJ5_ensureCapacityInternal_d00df_ok 7 rfl, rfl, rfl⟩
theorem eJ5_ensureCapacityInternal_d00df_12 : z_ld mJ5_ensureCapacityInternal_d00df 12 2 13 := Or.inl ⟨2, z_D DJ5_ensureCapacityInternal_d00df_ok 8 rfl, rfl, rfl⟩
theorem eJ5_ensureCapacityInternal_d00df_13 : z_at mJ5_ensureCapacityInternal_d00df 13 (.isub) 1 14 := ⟨z_D DJ5_ensureCapacityInternal_d00df_ok 9 rfl, rfl⟩
theorem eJ5_ensureCapacityInternal_d00df_14 : z_br mJ5_ensureCapacityInternal_d00df 14 (.ifCond .le 24) (24) 17 38 := ⟨z_D DJ5_ensureCapacityInternal_d00df_ok 10 rfl, rfl, by decide⟩
theorem eJ5_ensureCapacityInternal_d00df_17 : z_ad mJ5_ensureCapacityInternal_d00df 17 0 18 := Or.inl ⟨0, z_D DJ5_ensureCapacityInternal_d00df_ok 11 rfl, rfl, rfl⟩
theorem eJ5_ensureCapacityInternal_d00df_18 : z_ad mJ5_ensureCapacityInternal_d00df 18 0 19 := Or.inl ⟨0, z_D DJ5_ensureCapacityInternal_d00df_ok 12 rfl, rfl, rfl⟩
theorem eJ5_ensureCapacityInternal_d00df_19 : z_at mJ5_ensureCapacityInternal_d00df 19 (.getfield 15) 3 22 ∧ z_fd mJ5_ensureCapacityInternal_d00df.1.cls 15 10 0 (.array .byte) false := ⟨⟨z_D DJ5_ensureCapacityInternal_d00df_ok 13 rfl, rfl⟩, fJ5_15⟩
theorem eJ5_ensureCapacityInternal_d00df_22 : z_ad mJ5_ensureCapacityInternal_d00df 22 0 23 := Or.inl ⟨0, z_D DJ5_ensureCapacityInternal_d00df_ok 14 rfl, rfl, rfl⟩
theorem eJ5_ensureCapacityInternal_d00df_23 : z_ld mJ5_ensureCapacityInternal_d00df 23 1 24 := Or.inl ⟨1, z_D DJ5_ensureCapacityInternal_d00df_ok 15 rfl, rfl, rfl⟩
theorem eJ5_ensureCapacityInternal_d00df_24 : z_at mJ5_ensureCapacityInternal_d00df 24 (.invokevirtual 104) 3 27 ∧ z_lk mJ5_ensureCapacityInternal_d00df.1.cls 104 mJ5_newCapacity_0f7a4.1 ∧ z_mt mJ5_newCapacity_0f7a4 1 ∧ z_mu mJ5_newCapacity_0f7a4 10 := ⟨⟨z_D DJ5_ensureCapacityInternal_d00df_ok 16 rfl, rfl⟩, Or.inl wB3_37, tJ5_newCapacity_0f7a4, uJ5_newCapacity_0f7a4⟩
theorem eJ5_ensureCapacityInternal_d00df_27 : z_ad mJ5_ensureCapacityInternal_d00df 27 0 28 := Or.inl ⟨0, z_D DJ5_ensureCapacityInternal_d00df_ok 17 rfl, rfl, rfl⟩
theorem eJ5_ensureCapacityInternal_d00df_28 : z_at mJ5_ensureCapacityInternal_d00df 28 (.getfield 22) 3 31 ∧ z_fd mJ5_ensureCapacityInternal_d00df.1.cls 22 10 1 .byte false := ⟨⟨z_D DJ5_ensureCapacityInternal_d00df_ok 18 rfl, rfl⟩, fJ5_22⟩
theorem eJ5_ensureCapacityInternal_d00df_31 : z_at mJ5_ensureCapacityInternal_d00df 31 (.ishl) 1 32 := ⟨z_D DJ5_ensureCapacityInternal_d00df_ok 19 rfl, rfl⟩
theorem eJ5_ensureCapacityInternal_d00df_32 : z_at mJ5_ensureCapacityInternal_d00df 32 (.invokestatic 108) 3 35 ∧ z_lk mJ5_ensureCapacityInternal_d00df.1.cls 108 mJ7_copyOf_9075b.1 ∧ z_mt mJ7_copyOf_9075b 2 ∧ Cond.static mJ7_copyOf_9075b.1 ∈ lw_tbl := ⟨⟨z_D DJ5_ensureCapacityInternal_d00df_ok 20 rfl, rfl⟩, Or.inl wB3_52, tJ7_copyOf_9075b, sJ7_copyOf_9075b⟩
theorem eJ5_ensureCapacityInternal_d00df_35 : z_at mJ5_ensureCapacityInternal_d00df 35 (.putfield 15) 3 38 ∧ z_fd mJ5_ensureCapacityInternal_d00df.1.cls 15 10 0 (.array .byte) false := ⟨⟨z_D DJ5_ensureCapacityInternal_d00df_ok 21 rfl, rfl⟩, fJ5_15⟩
theorem eJ5_ensureCapacityInternal_d00df_38 : z_at mJ5_ensureCapacityInternal_d00df 38 (.return_) 1 39 := ⟨z_D DJ5_ensureCapacityInternal_d00df_ok 22 rfl, rfl⟩
def DJ5_newCapacity_0f7a4 : List (Nat × Instr × Nat) := [(0, .aload_n 0, 1), (1, .getfield 15, 3), (4, .arraylength, 1), (5, .istore_n 2, 1), (6, .iload_n 1, 1), (7, .aload_n 0, 1), (8, .getfield 22, 3), (11, .ishl, 1), (12, .istore_n 3, 1), (13, .iload_n 3, 1), (14, .iload_n 2, 1), (15, .isub, 1), (16, .istore 4, 2), (18, .iload_n 2, 1), (19, .iload 4, 2), (21, .iload_n 2, 1), (22, .iconst 2, 1), (23, .aload_n 0, 1), (24, .getfield 22, 3), (27, .ishl, 1), (28, .iadd, 1), (29, .invokestatic 114, 3), (32, .istore 5, 2), (34, .iload 5, 2), (36, .ldc 39, 2), (38, .if_icmp .ne 13, 3), (41, .new 120, 3), (44, .dup, 1), (45, .ldc 122, 2), (47, .invokespecial 124, 3), (50, .athrow, 1), (51, .iload 5, 2), (53, .aload_n 0, 1), (54, .getfield 22, 3), (57, .ishr, 1), (58, .ireturn, 1)]
theorem DJ5_newCapacity_0f7a4_ok : DJ5_newCapacity_0f7a4.all (fun q => decide (decode mJ5_newCapacity_0f7a4.2.1 q.1 = .ok q.2)) = true := by decide +kernel
theorem eJ5_newCapacity_0f7a4_0 : z_ad mJ5_newCapacity_0f7a4 0 0 1 := Or.inl ⟨0, z_D DJ5_newCapacity_0f7a4_ok 0 rfl, rfl, rfl⟩
theorem eJ5_newCapacity_0f7a4_1 : z_at mJ5_newCapacity_0f7a4 1 (.getfield 15) 3 4 ∧ z_fd mJ5_newCapacity_0f7a4.1.cls 15 10 0 (.array .byte) false := ⟨⟨z_D DJ5_newCapacity_0f7a4_ok 1 rfl, rfl⟩, fJ5_15⟩
theorem eJ5_newCapacity_0f7a4_4 : z_at mJ5_newCapacity_0f7a4 4 (.arraylength) 1 5 := ⟨z_D DJ5_newCapacity_0f7a4_ok 2 rfl, rfl⟩
theorem eJ5_newCapacity_0f7a4_5 : z_sd mJ5_newCapacity_0f7a4 5 2 6 := ⟨Or.inl ⟨2, z_D DJ5_newCapacity_0f7a4_ok 3 rfl, rfl, rfl⟩, by decide⟩
theorem eJ5_newCapacity_0f7a4_6 : z_ld mJ5_newCapacity_0f7a4 6 1 7 := Or.inl ⟨1, z_D DJ5_newCapacity_0f7a4_ok 4 rfl, rfl, rfl⟩
theorem eJ5_newCapacity_0f7a4_7 : z_ad mJ5_newCapacity_0f7a4 7 0 8 := Or.inl ⟨0, z_D DJ5_newCapacity_0f7a4_ok 5 rfl, rfl, rfl⟩
theorem eJ5_newCapacity_0f7a4_8 : z_at mJ5_newCapacity_0f7a4 8 (.getfield 22) 3 11 ∧ z_fd mJ5_newCapacity_0f7a4.1.cls 22 10 1 .byte false := ⟨⟨z_D DJ5_newCapacity_0f7a4_ok 6 rfl, rfl⟩, fJ5_22⟩
theorem eJ5_newCapacity_0f7a4_11 : z_at mJ5_newCapacity_0f7a4 11 (.ishl) 1 12 := ⟨z_D DJ5_newCapacity_0f7a4_ok 7 rfl, rfl⟩
theorem eJ5_newCapacity_0f7a4_12 : z_sd mJ5_newCapacity_0f7a4 12 3 13 := ⟨Or.inl ⟨3, z_D DJ5_newCapacity_0f7a4_ok 8 rfl, rfl, rfl⟩, by decide⟩
theorem eJ5_newCapacity_0f7a4_13 : z_ld mJ5_newCapacity_0f7a4 13 3 14 := Or.inl ⟨3, z_D DJ5_newCapacity_0f7a4_ok 9 rfl, rfl, rfl⟩
theorem eJ5_newCapacity_0f7a4_14 : z_ld mJ5_newCapacity_0f7a4 14 2 15 := Or.inl ⟨2, z_D DJ5_newCapacity_0f7a4_ok 10 rfl, rfl, rfl⟩
theorem eJ5_newCapacity_0f7a4_15 : z_at mJ5_newCapacity_0f7a4 15 (.isub) 1 16 := ⟨z_D DJ5_newCapacity_0f7a4_ok 11 rfl, rfl⟩
theorem eJ5_newCapacity_0f7a4_16 : z_sd mJ5_newCapacity_0f7a4 16 4 18 := ⟨Or.inr ⟨z_D DJ5_newCapacity_0f7a4_ok 12 rfl, rfl⟩, by decide⟩
theorem eJ5_newCapacity_0f7a4_18 : z_ld mJ5_newCapacity_0f7a4 18 2 19 := Or.inl ⟨2, z_D DJ5_newCapacity_0f7a4_ok 13 rfl, rfl, rfl⟩
theorem eJ5_newCapacity_0f7a4_19 : z_ld mJ5_newCapacity_0f7a4 19 4 21 := Or.inr ⟨z_D DJ5_newCapacity_0f7a4_ok 14 rfl, rfl⟩
theorem eJ5_newCapacity_0f7a4_21 : z_ld mJ5_newCapacity_0f7a4 21 2 22 := Or.inl ⟨2, z_D DJ5_newCapacity_0f7a4_ok 15 rfl, rfl, rfl⟩
theorem eJ5_newCapacity_0f7a4_22 : z_co mJ5_newCapacity_0f7a4 22 (2) 23 := Or.inl ⟨z_D DJ5_newCapacity_0f7a4_ok 16 rfl, rfl⟩
theorem eJ5_newCapacity_0f7a4_23 : z_ad mJ5_newCapacity_0f7a4 23 0 24 := Or.inl ⟨0, z_D DJ5_newCapacity_0f7a4_ok 17 rfl, rfl, rfl⟩
theorem eJ5_newCapacity_0f7a4_24 : z_at mJ5_newCapacity_0f7a4 24 (.getfield 22) 3 27 ∧ z_fd mJ5_newCapacity_0f7a4.1.cls 22 10 1 .byte false := ⟨⟨z_D DJ5_newCapacity_0f7a4_ok 18 rfl, rfl⟩, fJ5_22⟩
theorem eJ5_newCapacity_0f7a4_27 : z_at mJ5_newCapacity_0f7a4 27 (.ishl) 1 28 := ⟨z_D DJ5_newCapacity_0f7a4_ok 19 rfl, rfl⟩
theorem eJ5_newCapacity_0f7a4_28 : z_at mJ5_newCapacity_0f7a4 28 (.iadd) 1 29 := ⟨z_D DJ5_newCapacity_0f7a4_ok 20 rfl, rfl⟩
theorem eJ5_newCapacity_0f7a4_29 : z_at mJ5_newCapacity_0f7a4 29 (.invokestatic 114) 3 32 ∧ z_lk mJ5_newCapacity_0f7a4.1.cls 114 mJ8_newLength_cabcc.1 ∧ z_mt mJ8_newLength_cabcc 3 ∧ Cond.static mJ8_newLength_cabcc.1 ∈ lw_tbl := ⟨⟨z_D DJ5_newCapacity_0f7a4_ok 21 rfl, rfl⟩, Or.inl wB3_41, tJ8_newLength_cabcc, sJ8_newLength_cabcc⟩
theorem eJ5_newCapacity_0f7a4_32 : z_sd mJ5_newCapacity_0f7a4 32 5 34 := ⟨Or.inr ⟨z_D DJ5_newCapacity_0f7a4_ok 22 rfl, rfl⟩, by decide⟩
theorem eJ5_newCapacity_0f7a4_34 : z_ld mJ5_newCapacity_0f7a4 34 5 36 := Or.inr ⟨z_D DJ5_newCapacity_0f7a4_ok 23 rfl, rfl⟩
theorem eJ5_newCapacity_0f7a4_36 : z_co mJ5_newCapacity_0f7a4 36 (2147483647) 38 := Or.inr (Or.inr (Or.inr ⟨_, z_D DJ5_newCapacity_0f7a4_ok 24 rfl, rfl, wB3_51⟩))
theorem eJ5_newCapacity_0f7a4_38 : z_br mJ5_newCapacity_0f7a4 38 (.if_icmp .ne 13) (13) 41 51 := ⟨z_D DJ5_newCapacity_0f7a4_ok 25 rfl, rfl, by decide⟩
theorem eJ5_newCapacity_0f7a4_41 : z_at mJ5_newCapacity_0f7a4 41 (.new 120) 3 44 := ⟨z_D DJ5_newCapacity_0f7a4_ok 26 rfl, rfl⟩
theorem eJ5_newCapacity_0f7a4_44 : z_at mJ5_newCapacity_0f7a4 44 (.dup) 1 45 := ⟨z_D DJ5_newCapacity_0f7a4_ok 27 rfl, rfl⟩
theorem eJ5_newCapacity_0f7a4_45 : z_at mJ5_newCapacity_0f7a4 45 (.ldc 122) 2 47 := ⟨z_D DJ5_newCapacity_0f7a4_ok 28 rfl, rfl⟩
theorem eJ5_newCapacity_0f7a4_47 : z_at mJ5_newCapacity_0f7a4 47 (.invokespecial 124) 3 50 := ⟨z_D DJ5_newCapacity_0f7a4_ok 29 rfl, rfl⟩
theorem eJ5_newCapacity_0f7a4_50 : z_at mJ5_newCapacity_0f7a4 50 (.athrow) 1 51 := ⟨z_D DJ5_newCapacity_0f7a4_ok 30 rfl, rfl⟩
theorem eJ5_newCapacity_0f7a4_51 : z_ld mJ5_newCapacity_0f7a4 51 5 53 := Or.inr ⟨z_D DJ5_newCapacity_0f7a4_ok 31 rfl, rfl⟩
theorem eJ5_newCapacity_0f7a4_53 : z_ad mJ5_newCapacity_0f7a4 53 0 54 := Or.inl ⟨0, z_D DJ5_newCapacity_0f7a4_ok 32 rfl, rfl, rfl⟩
theorem eJ5_newCapacity_0f7a4_54 : z_at mJ5_newCapacity_0f7a4 54 (.getfield 22) 3 57 ∧ z_fd mJ5_newCapacity_0f7a4.1.cls 22 10 1 .byte false := ⟨⟨z_D DJ5_newCapacity_0f7a4_ok 33 rfl, rfl⟩, fJ5_22⟩
theorem eJ5_newCapacity_0f7a4_57 : z_at mJ5_newCapacity_0f7a4 57 (.ishr) 1 58 := ⟨z_D DJ5_newCapacity_0f7a4_ok 34 rfl, rfl⟩
theorem eJ5_newCapacity_0f7a4_58 : z_at mJ5_newCapacity_0f7a4 58 (.ireturn) 1 59 := ⟨z_D DJ5_newCapacity_0f7a4_ok 35 rfl, rfl⟩
def DJ5_charAt_5068e : List (Nat × Instr × Nat) := [(0, .aload_n 0, 1), (1, .getfield 22, 3), (4, .istore_n 2, 1), (5, .aload_n 0, 1), (6, .getfield 15, 3), (9, .astore_n 3, 1), (10, .aload_n 0, 1), (11, .getfield 79, 3), (14, .aload_n 3, 1), (15, .arraylength, 1), (16, .iload_n 2, 1), (17, .ishr, 1), (18, .invokestatic 138, 3), (21, .istore 4, 2), (23, .iload_n 1, 1), (24, .iload 4, 2), (26, .invokestatic 144, 3), (29, .iload_n 2, 1), (30, .ifCond .ne 12, 3), (33, .aload_n 3, 1), (34, .iload_n 1, 1), (35, .baload, 1), (36, .sipush 255, 3), (39, .iand, 1), (40, .i2c, 1), (41, .ireturn, 1), (42, .aload_n 3, 1), (43, .iload_n 1, 1), (44, .invokestatic 148, 3), (47, .ireturn, 1)]
theorem DJ5_charAt_5068e_ok : DJ5_charAt_5068e.all (fun q => decide (decode mJ5_charAt_5068e.2.1 q.1 = .ok q.2)) = true := by decide +kernel
theorem eJ5_charAt_5068e_0 : z_ad mJ5_charAt_5068e 0 0 1 := Or.inl ⟨0, z_D DJ5_charAt_5068e_ok 0 rfl, rfl, rfl⟩
theorem eJ5_charAt_5068e_1 : z_at mJ5_charAt_5068e 1 (.getfield 22) 3 4 ∧ z_fd mJ5_charAt_5068e.1.cls 22 10 1 .byte false := ⟨⟨z_D DJ5_charAt_5068e_ok 1 rfl, rfl⟩, fJ5_22⟩
theorem eJ5_charAt_5068e_4 : z_sd mJ5_charAt_5068e 4 2 5 := ⟨Or.inl ⟨2, z_D DJ5_charAt_5068e_ok 2 rfl, rfl, rfl⟩, by decide⟩
theorem eJ5_charAt_5068e_5 : z_ad mJ5_charAt_5068e 5 0 6 := Or.inl ⟨0, z_D DJ5_charAt_5068e_ok 3 rfl, rfl, rfl⟩
theorem eJ5_charAt_5068e_6 : z_at mJ5_charAt_5068e 6 (.getfield 15) 3 9 ∧ z_fd mJ5_charAt_5068e.1.cls 15 10 0 (.array .byte) false := ⟨⟨z_D DJ5_charAt_5068e_ok 4 rfl, rfl⟩, fJ5_15⟩
theorem eJ5_charAt_5068e_9 : z_asd mJ5_charAt_5068e 9 3 10 := ⟨Or.inl ⟨3, z_D DJ5_charAt_5068e_ok 5 rfl, rfl, rfl⟩, by decide⟩
theorem eJ5_charAt_5068e_10 : z_ad mJ5_charAt_5068e 10 0 11 := Or.inl ⟨0, z_D DJ5_charAt_5068e_ok 6 rfl, rfl, rfl⟩
theorem eJ5_charAt_5068e_11 : z_at mJ5_charAt_5068e 11 (.getfield 79) 3 14 ∧ z_fd mJ5_charAt_5068e.1.cls 79 10 3 .int false := ⟨⟨z_D DJ5_charAt_5068e_ok 7 rfl, rfl⟩, fJ5_79⟩
theorem eJ5_charAt_5068e_14 : z_ad mJ5_charAt_5068e 14 3 15 := Or.inl ⟨3, z_D DJ5_charAt_5068e_ok 8 rfl, rfl, rfl⟩
theorem eJ5_charAt_5068e_15 : z_at mJ5_charAt_5068e 15 (.arraylength) 1 16 := ⟨z_D DJ5_charAt_5068e_ok 9 rfl, rfl⟩
theorem eJ5_charAt_5068e_16 : z_ld mJ5_charAt_5068e 16 2 17 := Or.inl ⟨2, z_D DJ5_charAt_5068e_ok 10 rfl, rfl, rfl⟩
theorem eJ5_charAt_5068e_17 : z_at mJ5_charAt_5068e 17 (.ishr) 1 18 := ⟨z_D DJ5_charAt_5068e_ok 11 rfl, rfl⟩
theorem eJ5_charAt_5068e_18 : z_at mJ5_charAt_5068e 18 (.invokestatic 138) 3 21 ∧ z_lk mJ5_charAt_5068e.1.cls 138 mJ9_min_7cf53.1 ∧ z_mt mJ9_min_7cf53 2 ∧ Cond.static mJ9_min_7cf53.1 ∈ lw_tbl := ⟨⟨z_D DJ5_charAt_5068e_ok 12 rfl, rfl⟩, Or.inl wB4_18, tJ9_min_7cf53, sJ9_min_7cf53⟩
theorem eJ5_charAt_5068e_21 : z_sd mJ5_charAt_5068e 21 4 23 := ⟨Or.inr ⟨z_D DJ5_charAt_5068e_ok 13 rfl, rfl⟩, by decide⟩
theorem eJ5_charAt_5068e_23 : z_ld mJ5_charAt_5068e 23 1 24 := Or.inl ⟨1, z_D DJ5_charAt_5068e_ok 14 rfl, rfl, rfl⟩
theorem eJ5_charAt_5068e_24 : z_ld mJ5_charAt_5068e 24 4 26 := Or.inr ⟨z_D DJ5_charAt_5068e_ok 15 rfl, rfl⟩
theorem eJ5_charAt_5068e_26 : z_at mJ5_charAt_5068e 26 (.invokestatic 144) 3 29 ∧ z_lk mJ5_charAt_5068e.1.cls 144 mJ0_checkIndex_df160.1 ∧ z_mt mJ0_checkIndex_df160 2 ∧ Cond.static mJ0_checkIndex_df160.1 ∈ lw_tbl := ⟨⟨z_D DJ5_charAt_5068e_ok 16 rfl, rfl⟩, Or.inl wB4_19, tJ0_checkIndex_df160, sJ0_checkIndex_df160⟩
theorem eJ5_charAt_5068e_29 : z_ld mJ5_charAt_5068e 29 2 30 := Or.inl ⟨2, z_D DJ5_charAt_5068e_ok 17 rfl, rfl, rfl⟩
theorem eJ5_charAt_5068e_30 : z_br mJ5_charAt_5068e 30 (.ifCond .ne 12) (12) 33 42 := ⟨z_D DJ5_charAt_5068e_ok 18 rfl, rfl, by decide⟩
theorem eJ5_charAt_5068e_33 : z_ad mJ5_charAt_5068e 33 3 34 := Or.inl ⟨3, z_D DJ5_charAt_5068e_ok 19 rfl, rfl, rfl⟩
theorem eJ5_charAt_5068e_34 : z_ld mJ5_charAt_5068e 34 1 35 := Or.inl ⟨1, z_D DJ5_charAt_5068e_ok 20 rfl, rfl, rfl⟩
theorem eJ5_charAt_5068e_35 : z_at mJ5_charAt_5068e 35 (.baload) 1 36 := ⟨z_D DJ5_charAt_5068e_ok 21 rfl, rfl⟩
theorem eJ5_charAt_5068e_36 : z_co mJ5_charAt_5068e 36 (255) 39 := Or.inr (Or.inr (Or.inl ⟨_, z_D DJ5_charAt_5068e_ok 22 rfl, by decide, rfl⟩))
theorem eJ5_charAt_5068e_39 : z_at mJ5_charAt_5068e 39 (.iand) 1 40 := ⟨z_D DJ5_charAt_5068e_ok 23 rfl, rfl⟩
theorem eJ5_charAt_5068e_40 : z_at mJ5_charAt_5068e 40 (.i2c) 1 41 := ⟨z_D DJ5_charAt_5068e_ok 24 rfl, rfl⟩
theorem eJ5_charAt_5068e_41 : z_at mJ5_charAt_5068e 41 (.ireturn) 1 42 := ⟨z_D DJ5_charAt_5068e_ok 25 rfl, rfl⟩
theorem eJ5_charAt_5068e_42 : z_ad mJ5_charAt_5068e 42 3 43 := Or.inl ⟨3, z_D DJ5_charAt_5068e_ok 26 rfl, rfl, rfl⟩
theorem eJ5_charAt_5068e_43 : z_ld mJ5_charAt_5068e 43 1 44 := Or.inl ⟨1, z_D DJ5_charAt_5068e_ok 27 rfl, rfl, rfl⟩
theorem eJ5_charAt_5068e_44 : z_at mJ5_charAt_5068e 44 (.invokestatic 148) 3 47 := ⟨z_D DJ5_charAt_5068e_ok 28 rfl, rfl⟩
theorem eJ5_charAt_5068e_47 : z_at mJ5_charAt_5068e 47 (.ireturn) 1 48 := ⟨z_D DJ5_charAt_5068e_ok 29 rfl, rfl⟩
def DJ5_append_cf1ce : List (Nat × Instr × Nat) := [(0, .aload_n 1, 1), (1, .ifnonnull 8, 3), (4, .aload_n 0, 1), (5, .invokevirtual 204, 3), (8, .areturn, 1), (9, .aload_n 1, 1), (10, .invokevirtual 32, 3), (13, .istore_n 2, 1), (14, .aload_n 0, 1), (15, .aload_n 0, 1), (16, .getfield 79, 3), (19, .iload_n 2, 1), (20, .iadd, 1), (21, .invokevirtual 100, 3), (24, .aload_n 0, 1), (25, .aload_n 0, 1), (26, .getfield 79, 3), (29, .aload_n 1, 1), (30, .invokevirtual 208, 3), (33, .aload_n 0, 1), (34, .dup, 1), (35, .getfield 79, 3), (38, .iload_n 2, 1), (39, .iadd, 1), (40, .putfield 79, 3), (43, .aload_n 0, 1), (44, .areturn, 1)]
theorem DJ5_append_cf1ce_ok : DJ5_append_cf1ce.all (fun q => decide (decode mJ5_append_cf1ce.2.1 q.1 = .ok q.2)) = true := by decide +kernel
theorem eJ5_append_cf1ce_0 : z_ad mJ5_append_cf1ce 0 1 1 := Or.inl ⟨1, z_D DJ5_append_cf1ce_ok 0 rfl, rfl, rfl⟩
theorem eJ5_append_cf1ce_1 : z_br mJ5_append_cf1ce 1 (.ifnonnull 8) (8) 4 9 := ⟨z_D DJ5_append_cf1ce_ok 1 rfl, rfl, by decide⟩
theorem eJ5_append_cf1ce_4 : z_ad mJ5_append_cf1ce 4 0 5 := Or.inl ⟨0, z_D DJ5_append_cf1ce_ok 2 rfl, rfl, rfl⟩
theorem eJ5_append_cf1ce_5 : z_at mJ5_append_cf1ce 5 (.invokevirtual 204) 3 8 ∧ z_lk mJ5_append_cf1ce.1.cls 204 mJ5_appendNull_278bc.1 ∧ z_mt mJ5_appendNull_278bc 0 ∧ z_mu mJ5_appendNull_278bc 10 := ⟨⟨z_D DJ5_append_cf1ce_ok 3 rfl, rfl⟩, Or.inl wB3_29, tJ5_appendNull_278bc, uJ5_appendNull_278bc⟩
theorem eJ5_append_cf1ce_8 : z_at mJ5_append_cf1ce 8 (.areturn) 1 9 := ⟨z_D DJ5_append_cf1ce_ok 4 rfl, rfl⟩
theorem eJ5_append_cf1ce_9 : z_ad mJ5_append_cf1ce 9 1 10 := Or.inl ⟨1, z_D DJ5_append_cf1ce_ok 5 rfl, rfl, rfl⟩
theorem eJ5_append_cf1ce_10 : z_at mJ5_append_cf1ce 10 (.invokevirtual 32) 3 13 ∧ z_lk mJ5_append_cf1ce.1.cls 32 mJ0_length_8abf5.1 ∧ z_mt mJ0_length_8abf5 0 ∧ z_mv mJ0_length_8abf5 11 := ⟨⟨z_D DJ5_append_cf1ce_ok 6 rfl, rfl⟩, Or.inl wB3_99, tJ0_length_8abf5, vJ0_length_8abf5⟩
theorem eJ5_append_cf1ce_13 : z_sd mJ5_append_cf1ce 13 2 14 := ⟨Or.inl ⟨2, z_D DJ5_append_cf1ce_ok 7 rfl, rfl, rfl⟩, by decide⟩
theorem eJ5_append_cf1ce_14 : z_ad mJ5_append_cf1ce 14 0 15 := Or.inl ⟨0, z_D DJ5_append_cf1ce_ok 8 rfl, rfl, rfl⟩
theorem eJ5_append_cf1ce_15 : z_ad mJ5_append_cf1ce 15 0 16 := Or.inl ⟨0, z_D DJ5_append_cf1ce_ok 9 rfl, rfl, rfl⟩
theorem eJ5_append_cf1ce_16 : z_at mJ5_append_cf1ce 16 (.getfield 79) 3 19 ∧ z_fd mJ5_append_cf1ce.1.cls 79 10 3 .int false := ⟨⟨z_D DJ5_append_cf1ce_ok 10 rfl, rfl⟩, fJ5_79⟩
theorem eJ5_append_cf1ce_19 : z_ld mJ5_append_cf1ce 19 2 20 := Or.inl ⟨2, z_D DJ5_append_cf1ce_ok 11 rfl, rfl, rfl⟩
theorem eJ5_append_cf1ce_20 : z_at mJ5_append_cf1ce 20 (.iadd) 1 21 := ⟨z_D DJ5_append_cf1ce_ok 12 rfl, rfl⟩
theorem eJ5_append_cf1ce_21 : z_at mJ5_append_cf1ce 21 (.invokevirtual 100) 3 24 ∧ z_lk mJ5_append_cf1ce.1.cls 100 mJ5_ensureCapacityInternal_d00df.1 ∧ z_mt mJ5_ensureCapacityInternal_d00df 1 ∧ z_mu mJ5_ensureCapacityInternal_d00df 10 := ⟨⟨z_D DJ5_append_cf1ce_ok 13 rfl, rfl⟩, Or.inl wB3_33, tJ5_ensureCapacityInternal_d00df, uJ5_ensureCapacityInternal_d00df⟩
theorem eJ5_append_cf1ce_24 : z_ad mJ5_append_cf1ce 24 0 25 := Or.inl ⟨0, z_D DJ5_append_cf1ce_ok 14 rfl, rfl, rfl⟩
theorem eJ5_append_cf1ce_25 : z_ad mJ5_append_cf1ce 25 0 26 := Or.inl ⟨0, z_D DJ5_append_cf1ce_ok 15 rfl, rfl, rfl⟩
theorem eJ5_append_cf1ce_26 : z_at mJ5_append_cf1ce 26 (.getfield 79) 3 29 ∧ z_fd mJ5_append_cf1ce.1.cls 79 10 3 .int false := ⟨⟨z_D DJ5_append_cf1ce_ok 16 rfl, rfl⟩, fJ5_79⟩
theorem eJ5_append_cf1ce_29 : z_ad mJ5_append_cf1ce 29 1 30 := Or.inl ⟨1, z_D DJ5_append_cf1ce_ok 17 rfl, rfl, rfl⟩
theorem eJ5_append_cf1ce_30 : z_at mJ5_append_cf1ce 30 (.invokevirtual 208) 3 33 ∧ z_lk mJ5_append_cf1ce.1.cls 208 mJ5_putStringAt_47b60.1 ∧ z_mt mJ5_putStringAt_47b60 2 ∧ z_mu mJ5_putStringAt_47b60 10 := ⟨⟨z_D DJ5_append_cf1ce_ok 18 rfl, rfl⟩, Or.inl wB3_108, tJ5_putStringAt_47b60, uJ5_putStringAt_47b60⟩
theorem eJ5_append_cf1ce_33 : z_ad mJ5_append_cf1ce 33 0 34 := Or.inl ⟨0, z_D DJ5_append_cf1ce_ok 19 rfl, rfl, rfl⟩
theorem eJ5_append_cf1ce_34 : z_at mJ5_append_cf1ce 34 (.dup) 1 35 := ⟨z_D DJ5_append_cf1ce_ok 20 rfl, rfl⟩
theorem eJ5_append_cf1ce_35 : z_at mJ5_append_cf1ce 35 (.getfield 79) 3 38 ∧ z_fd mJ5_append_cf1ce.1.cls 79 10 3 .int false := ⟨⟨z_D DJ5_append_cf1ce_ok 21 rfl, rfl⟩, fJ5_79⟩
theorem eJ5_append_cf1ce_38 : z_ld mJ5_append_cf1ce 38 2 39 := Or.inl ⟨2, z_D DJ5_append_cf1ce_ok 22 rfl, rfl, rfl⟩
theorem eJ5_append_cf1ce_39 : z_at mJ5_append_cf1ce 39 (.iadd) 1 40 := ⟨z_D DJ5_append_cf1ce_ok 23 rfl, rfl⟩
theorem eJ5_append_cf1ce_40 : z_at mJ5_append_cf1ce 40 (.putfield 79) 3 43 ∧ z_fd mJ5_append_cf1ce.1.cls 79 10 3 .int false := ⟨⟨z_D DJ5_append_cf1ce_ok 24 rfl, rfl⟩, fJ5_79⟩
theorem eJ5_append_cf1ce_43 : z_ad mJ5_append_cf1ce 43 0 44 := Or.inl ⟨0, z_D DJ5_append_cf1ce_ok 25 rfl, rfl, rfl⟩
theorem eJ5_append_cf1ce_44 : z_at mJ5_append_cf1ce 44 (.areturn) 1 45 := ⟨z_D DJ5_append_cf1ce_ok 26 rfl, rfl⟩
def DJ5_append_3fe6f : List (Nat × Instr × Nat) := [(0, .aload_n 0, 1), (1, .aload_n 0, 1), (2, .getfield 79, 3), (5, .iconst 1, 1), (6, .iadd, 1), (7, .invokevirtual 100, 3), (10, .aload_n 0, 1), (11, .invokevirtual 83, 3), (14, .ifCond .eq 31, 3), (17, .iload_n 1, 1), (18, .invokestatic 191, 3), (21, .ifCond .eq 24, 3), (24, .aload_n 0, 1), (25, .getfield 15, 3), (28, .aload_n 0, 1), (29, .dup, 1), (30, .getfield 79, 3), (33, .dup_x1, 1), (34, .iconst 1, 1), (35, .iadd, 1), (36, .putfield 79, 3), (39, .iload_n 1, 1), (40, .i2b, 1), (41, .bastore, 1), (42, .goto 33, 3), (45, .aload_n 0, 1), (46, .invokevirtual 83, 3), (49, .ifCond .eq 7, 3), (52, .aload_n 0, 1), (53, .invokevirtual 195, 3), (56, .aload_n 0, 1), (57, .getfield 15, 3), (60, .aload_n 0, 1), (61, .dup, 1), (62, .getfield 79, 3), (65, .dup_x1, 1), (66, .iconst 1, 1), (67, .iadd, 1), (68, .putfield 79, 3), (71, .iload_n 1, 1), (72, .invokestatic 197, 3), (75, .aload_n 0, 1), (76, .areturn, 1)]
theorem DJ5_append_3fe6f_ok : DJ5_append_3fe6f.all (fun q => decide (decode mJ5_append_3fe6f.2.1 q.1 = .ok q.2)) = true := by decide +kernel
theorem eJ5_append_3fe6f_0 : z_ad mJ5_append_3fe6f 0 0 1 := Or.inl ⟨0, z_D DJ5_append_3fe6f_ok 0 rfl, rfl, rfl⟩
theorem eJ5_append_3fe6f_1 : z_ad mJ5_append_3fe6f 1 0 2 := Or.inl ⟨0, z_D DJ5_append_3fe6f_ok 1 rfl, rfl, rfl⟩
theorem eJ5_append_3fe6f_2 : z_at mJ5_append_3fe6f 2 (.getfield 79) 3 5 ∧ z_fd mJ5_append_3fe6f.1.cls 79 10 3 .int false := ⟨⟨z_D DJ5_append_3fe6f_ok 2 rfl, rfl⟩, fJ5_79⟩
theorem eJ5_append_3fe6f_5 : z_co mJ5_append_3fe6f 5 (1) 6 := Or.inl ⟨z_D DJ5_append_3fe6f_ok 3 rfl, rfl⟩
theorem eJ5_append_3fe6f_6 : z_at mJ5_append_3fe6f 6 (.iadd) 1 7 := ⟨z_D DJ5_append_3fe6f_ok 4 rfl, rfl⟩
theorem eJ5_append_3fe6f_7 : z_at mJ5_append_3fe6f 7 (.invokevirtual 100) 3 10 ∧ z_lk mJ5_append_3fe6f.1.cls 100 mJ5_ensureCapacityInternal_d00df.1 ∧ z_mt mJ5_ensureCapacityInternal_d00df 1 ∧ z_mu mJ5_ensureCapacityInternal_d00df 10 := ⟨⟨z_D DJ5_append_3fe6f_ok 5 rfl, rfl⟩, Or.inl wB3_33, tJ5_ensureCapacityInternal_d00df, uJ5_ensureCapacityInternal_d00df⟩
theorem eJ5_append_3fe6f_10 : z_ad mJ5_append_3fe6f 10 0 11 := Or.inl ⟨0, z_D DJ5_append_3fe6f_ok 6 rfl, rfl, rfl⟩
theorem eJ5_append_3fe6f_11 : z_at mJ5_append_3fe6f 11 (.invokevirtual 83) 3 14 ∧ z_lk mJ5_append_3fe6f.1.cls 83 mJ5_isLatin1_aae02.1 ∧ z_mt mJ5_isLatin1_aae02 0 ∧ z_mu mJ5_isLatin1_aae02 10 := ⟨⟨z_D DJ5_append_3fe6f_ok 7 rfl, rfl⟩, Or.inl wB3_68, tJ5_isLatin1_aae02, uJ5_isLatin1_aae02⟩
theorem eJ5_append_3fe6f_14 : z_br mJ5_append_3fe6f 14 (.ifCond .eq 31) (31) 17 45 := ⟨z_D DJ5_append_3fe6f_ok 8 rfl, rfl, by decide⟩
theorem eJ5_append_3fe6f_17 : z_ld mJ5_append_3fe6f 17 1 18 := Or.inl ⟨1, z_D DJ5_append_3fe6f_ok 9 rfl, rfl, rfl⟩
theorem eJ5_append_3fe6f_18 : z_at mJ5_append_3fe6f 18 (.invokestatic 191) 3 21 ∧ z_lk mJ5_append_3fe6f.1.cls 191 mJ1_canEncode_fc78d.1 ∧ z_mt mJ1_canEncode_fc78d 1 ∧ Cond.static mJ1_canEncode_fc78d.1 ∈ lw_tbl := ⟨⟨z_D DJ5_append_3fe6f_ok 10 rfl, rfl⟩, Or.inl wB3_149, tJ1_canEncode_fc78d, sJ1_canEncode_fc78d⟩
theorem eJ5_append_3fe6f_21 : z_br mJ5_append_3fe6f 21 (.ifCond .eq 24) (24) 24 45 := ⟨z_D DJ5_append_3fe6f_ok 11 rfl, rfl, by decide⟩
theorem eJ5_append_3fe6f_24 : z_ad mJ5_append_3fe6f 24 0 25 := Or.inl ⟨0, z_D DJ5_append_3fe6f_ok 12 rfl, rfl, rfl⟩
theorem eJ5_append_3fe6f_25 : z_at mJ5_append_3fe6f 25 (.getfield 15) 3 28 ∧ z_fd mJ5_append_3fe6f.1.cls 15 10 0 (.array .byte) false := ⟨⟨z_D DJ5_append_3fe6f_ok 13 rfl, rfl⟩, fJ5_15⟩
theorem eJ5_append_3fe6f_28 : z_ad mJ5_append_3fe6f 28 0 29 := Or.inl ⟨0, z_D DJ5_append_3fe6f_ok 14 rfl, rfl, rfl⟩
theorem eJ5_append_3fe6f_29 : z_at mJ5_append_3fe6f 29 (.dup) 1 30 := ⟨z_D DJ5_append_3fe6f_ok 15 rfl, rfl⟩
theorem eJ5_append_3fe6f_30 : z_at mJ5_append_3fe6f 30 (.getfield 79) 3 33 ∧ z_fd mJ5_append_3fe6f.1.cls 79 10 3 .int false := ⟨⟨z_D DJ5_append_3fe6f_ok 16 rfl, rfl⟩, fJ5_79⟩
theorem eJ5_append_3fe6f_33 : z_at mJ5_append_3fe6f 33 (.dup_x1) 1 34 := ⟨z_D DJ5_append_3fe6f_ok 17 rfl, rfl⟩
theorem eJ5_append_3fe6f_34 : z_co mJ5_append_3fe6f 34 (1) 35 := Or.inl ⟨z_D DJ5_append_3fe6f_ok 18 rfl, rfl⟩
theorem eJ5_append_3fe6f_35 : z_at mJ5_append_3fe6f 35 (.iadd) 1 36 := ⟨z_D DJ5_append_3fe6f_ok 19 rfl, rfl⟩
theorem eJ5_append_3fe6f_36 : z_at mJ5_append_3fe6f 36 (.putfield 79) 3 39 ∧ z_fd mJ5_append_3fe6f.1.cls 79 10 3 .int false := ⟨⟨z_D DJ5_append_3fe6f_ok 20 rfl, rfl⟩, fJ5_79⟩
theorem eJ5_append_3fe6f_39 : z_ld mJ5_append_3fe6f 39 1 40 := Or.inl ⟨1, z_D DJ5_append_3fe6f_ok 21 rfl, rfl, rfl⟩
theorem eJ5_append_3fe6f_40 : z_at mJ5_append_3fe6f 40 (.i2b) 1 41 := ⟨z_D DJ5_append_3fe6f_ok 22 rfl, rfl⟩
theorem eJ5_append_3fe6f_41 : z_at mJ5_append_3fe6f 41 (.bastore) 1 42 := ⟨z_D DJ5_append_3fe6f_ok 23 rfl, rfl⟩
theorem eJ5_append_3fe6f_42 : z_br mJ5_append_3fe6f 42 (.goto 33) (33) 45 75 := ⟨z_D DJ5_append_3fe6f_ok 24 rfl, rfl, by decide⟩
theorem eJ5_append_3fe6f_45 : z_ad mJ5_append_3fe6f 45 0 46 := Or.inl ⟨0, z_D DJ5_append_3fe6f_ok 25 rfl, rfl, rfl⟩
theorem eJ5_append_3fe6f_46 : z_at mJ5_append_3fe6f 46 (.invokevirtual 83) 3 49 ∧ z_lk mJ5_append_3fe6f.1.cls 83 mJ5_isLatin1_aae02.1 ∧ z_mt mJ5_isLatin1_aae02 0 ∧ z_mu mJ5_isLatin1_aae02 10 := ⟨⟨z_D DJ5_append_3fe6f_ok 26 rfl, rfl⟩, Or.inl wB3_68, tJ5_isLatin1_aae02, uJ5_isLatin1_aae02⟩
theorem eJ5_append_3fe6f_49 : z_br mJ5_append_3fe6f 49 (.ifCond .eq 7) (7) 52 56 := ⟨z_D DJ5_append_3fe6f_ok 27 rfl, rfl, by decide⟩
theorem eJ5_append_3fe6f_52 : z_ad mJ5_append_3fe6f 52 0 53 := Or.inl ⟨0, z_D DJ5_append_3fe6f_ok 28 rfl, rfl, rfl⟩
theorem eJ5_append_3fe6f_53 : z_at mJ5_append_3fe6f 53 (.invokevirtual 195) 3 56 ∧ z_lk mJ5_append_3fe6f.1.cls 195 mJ5_inflate_da8c8.1 ∧ z_mt mJ5_inflate_da8c8 0 ∧ z_mu mJ5_inflate_da8c8 10 := ⟨⟨z_D DJ5_append_3fe6f_ok 29 rfl, rfl⟩, Or.inl wB3_117, tJ5_inflate_da8c8, uJ5_inflate_da8c8⟩
theorem eJ5_append_3fe6f_56 : z_ad mJ5_append_3fe6f 56 0 57 := Or.inl ⟨0, z_D DJ5_append_3fe6f_ok 30 rfl, rfl, rfl⟩
theorem eJ5_append_3fe6f_57 : z_at mJ5_append_3fe6f 57 (.getfield 15) 3 60 ∧ z_fd mJ5_append_3fe6f.1.cls 15 10 0 (.array .byte) false := ⟨⟨z_D DJ5_append_3fe6f_ok 31 rfl, rfl⟩, fJ5_15⟩
theorem eJ5_append_3fe6f_60 : z_ad mJ5_append_3fe6f 60 0 61 := Or.inl ⟨0, z_D DJ5_append_3fe6f_ok 32 rfl, rfl, rfl⟩
theorem eJ5_append_3fe6f_61 : z_at mJ5_append_3fe6f 61 (.dup) 1 62 := ⟨z_D DJ5_append_3fe6f_ok 33 rfl, rfl⟩
theorem eJ5_append_3fe6f_62 : z_at mJ5_append_3fe6f 62 (.getfield 79) 3 65 ∧ z_fd mJ5_append_3fe6f.1.cls 79 10 3 .int false := ⟨⟨z_D DJ5_append_3fe6f_ok 34 rfl, rfl⟩, fJ5_79⟩
theorem eJ5_append_3fe6f_65 : z_at mJ5_append_3fe6f 65 (.dup_x1) 1 66 := ⟨z_D DJ5_append_3fe6f_ok 35 rfl, rfl⟩
theorem eJ5_append_3fe6f_66 : z_co mJ5_append_3fe6f 66 (1) 67 := Or.inl ⟨z_D DJ5_append_3fe6f_ok 36 rfl, rfl⟩
theorem eJ5_append_3fe6f_67 : z_at mJ5_append_3fe6f 67 (.iadd) 1 68 := ⟨z_D DJ5_append_3fe6f_ok 37 rfl, rfl⟩
theorem eJ5_append_3fe6f_68 : z_at mJ5_append_3fe6f 68 (.putfield 79) 3 71 ∧ z_fd mJ5_append_3fe6f.1.cls 79 10 3 .int false := ⟨⟨z_D DJ5_append_3fe6f_ok 38 rfl, rfl⟩, fJ5_79⟩
theorem eJ5_append_3fe6f_71 : z_ld mJ5_append_3fe6f 71 1 72 := Or.inl ⟨1, z_D DJ5_append_3fe6f_ok 39 rfl, rfl, rfl⟩
theorem eJ5_append_3fe6f_72 : z_at mJ5_append_3fe6f 72 (.invokestatic 197) 3 75 := ⟨z_D DJ5_append_3fe6f_ok 40 rfl, rfl⟩
theorem eJ5_append_3fe6f_75 : z_ad mJ5_append_3fe6f 75 0 76 := Or.inl ⟨0, z_D DJ5_append_3fe6f_ok 41 rfl, rfl, rfl⟩
theorem eJ5_append_3fe6f_76 : z_at mJ5_append_3fe6f 76 (.areturn) 1 77 := ⟨z_D DJ5_append_3fe6f_ok 42 rfl, rfl⟩
def DJ5_append_c97b9 : List (Nat × Instr × Nat) := [(0, .aload_n 0, 1), (1, .getfield 79, 3), (4, .istore_n 2, 1), (5, .iload_n 2, 1), (6, .iload_n 1, 1), (7, .invokestatic 245, 3), (10, .iadd, 1), (11, .istore_n 3, 1), (12, .aload_n 0, 1), (13, .iload_n 3, 1), (14, .invokevirtual 100, 3), (17, .aload_n 0, 1), (18, .invokevirtual 83, 3), (21, .ifCond .eq 16, 3), (24, .iload_n 1, 1), (25, .iload_n 3, 1), (26, .aload_n 0, 1), (27, .getfield 15, 3), (30, .invokestatic 248, 3), (33, .pop, 1), (34, .goto 14, 3), (37, .iload_n 1, 1), (38, .iload_n 2, 1), (39, .iload_n 3, 1), (40, .aload_n 0, 1), (41, .getfield 15, 3), (44, .invokestatic 251, 3), (47, .pop, 1), (48, .aload_n 0, 1), (49, .iload_n 3, 1), (50, .putfield 79, 3), (53, .aload_n 0, 1), (54, .areturn, 1)]
theorem DJ5_append_c97b9_ok : DJ5_append_c97b9.all (fun q => decide (decode mJ5_append_c97b9.2.1 q.1 = .ok q.2)) = true := by decide +kernel
theorem eJ5_append_c97b9_0 : z_ad mJ5_append_c97b9 0 0 1 := Or.inl ⟨0, z_D DJ5_append_c97b9_ok 0 rfl, rfl, rfl⟩
theorem eJ5_append_c97b9_1 : z_at mJ5_append_c97b9 1 (.getfield 79) 3 4 ∧ z_fd mJ5_append_c97b9.1.cls 79 10 3 .int false := ⟨⟨z_D DJ5_append_c97b9_ok 1 rfl, rfl⟩, fJ5_79⟩
theorem eJ5_append_c97b9_4 : z_sd mJ5_append_c97b9 4 2 5 := ⟨Or.inl ⟨2, z_D DJ5_append_c97b9_ok 2 rfl, rfl, rfl⟩, by decide⟩
theorem eJ5_append_c97b9_5 : z_ld mJ5_append_c97b9 5 2 6 := Or.inl ⟨2, z_D DJ5_append_c97b9_ok 3 rfl, rfl, rfl⟩
theorem eJ5_append_c97b9_6 : z_ld mJ5_append_c97b9 6 1 7 := Or.inl ⟨1, z_D DJ5_append_c97b9_ok 4 rfl, rfl, rfl⟩
theorem eJ5_append_c97b9_7 : z_at mJ5_append_c97b9 7 (.invokestatic 245) 3 10 ∧ z_lk mJ5_append_c97b9.1.cls 245 mJ6_stringSize_0f7a4.1 ∧ z_mt mJ6_stringSize_0f7a4 1 ∧ Cond.static mJ6_stringSize_0f7a4.1 ∈ lw_tbl := ⟨⟨z_D DJ5_append_c97b9_ok 5 rfl, rfl⟩, Or.inl wB3_171, tJ6_stringSize_0f7a4, sJ6_stringSize_0f7a4⟩
theorem eJ5_append_c97b9_10 : z_at mJ5_append_c97b9 10 (.iadd) 1 11 := ⟨z_D DJ5_append_c97b9_ok 6 rfl, rfl⟩
theorem eJ5_append_c97b9_11 : z_sd mJ5_append_c97b9 11 3 12 := ⟨Or.inl ⟨3, z_D DJ5_append_c97b9_ok 7 rfl, rfl, rfl⟩, by decide⟩
theorem eJ5_append_c97b9_12 : z_ad mJ5_append_c97b9 12 0 13 := Or.inl ⟨0, z_D DJ5_append_c97b9_ok 8 rfl, rfl, rfl⟩
theorem eJ5_append_c97b9_13 : z_ld mJ5_append_c97b9 13 3 14 := Or.inl ⟨3, z_D DJ5_append_c97b9_ok 9 rfl, rfl, rfl⟩
theorem eJ5_append_c97b9_14 : z_at mJ5_append_c97b9 14 (.invokevirtual 100) 3 17 ∧ z_lk mJ5_append_c97b9.1.cls 100 mJ5_ensureCapacityInternal_d00df.1 ∧ z_mt mJ5_ensureCapacityInternal_d00df 1 ∧ z_mu mJ5_ensureCapacityInternal_d00df 10 := ⟨⟨z_D DJ5_append_c97b9_ok 10 rfl, rfl⟩, Or.inl wB3_33, tJ5_ensureCapacityInternal_d00df, uJ5_ensureCapacityInternal_d00df⟩
theorem eJ5_append_c97b9_17 : z_ad mJ5_append_c97b9 17 0 18 := Or.inl ⟨0, z_D DJ5_append_c97b9_ok 11 rfl, rfl, rfl⟩
theorem eJ5_append_c97b9_18 : z_at mJ5_append_c97b9 18 (.invokevirtual 83) 3 21 ∧ z_lk mJ5_append_c97b9.1.cls 83 mJ5_isLatin1_aae02.1 ∧ z_mt mJ5_isLatin1_aae02 0 ∧ z_mu mJ5_isLatin1_aae02 10 := ⟨⟨z_D DJ5_append_c97b9_ok 12 rfl, rfl⟩, Or.inl wB3_68, tJ5_isLatin1_aae02, uJ5_isLatin1_aae02⟩
theorem eJ5_append_c97b9_21 : z_br mJ5_append_c97b9 21 (.ifCond .eq 16) (16) 24 37 := ⟨z_D DJ5_append_c97b9_ok 13 rfl, rfl, by decide⟩
theorem eJ5_append_c97b9_24 : z_ld mJ5_append_c97b9 24 1 25 := Or.inl ⟨1, z_D DJ5_append_c97b9_ok 14 rfl, rfl, rfl⟩
theorem eJ5_append_c97b9_25 : z_ld mJ5_append_c97b9 25 3 26 := Or.inl ⟨3, z_D DJ5_append_c97b9_ok 15 rfl, rfl, rfl⟩
theorem eJ5_append_c97b9_26 : z_ad mJ5_append_c97b9 26 0 27 := Or.inl ⟨0, z_D DJ5_append_c97b9_ok 16 rfl, rfl, rfl⟩
theorem eJ5_append_c97b9_27 : z_at mJ5_append_c97b9 27 (.getfield 15) 3 30 ∧ z_fd mJ5_append_c97b9.1.cls 15 10 0 (.array .byte) false := ⟨⟨z_D DJ5_append_c97b9_ok 17 rfl, rfl⟩, fJ5_15⟩
theorem eJ5_append_c97b9_30 : z_at mJ5_append_c97b9 30 (.invokestatic 248) 3 33 ∧ z_lk mJ5_append_c97b9.1.cls 248 mJ6_getChars_ba4f3.1 ∧ z_mt mJ6_getChars_ba4f3 3 ∧ Cond.static mJ6_getChars_ba4f3.1 ∈ lw_tbl := ⟨⟨z_D DJ5_append_c97b9_ok 18 rfl, rfl⟩, Or.inl wB3_174, tJ6_getChars_ba4f3, sJ6_getChars_ba4f3⟩
theorem eJ5_append_c97b9_33 : z_at mJ5_append_c97b9 33 (.pop) 1 34 := ⟨z_D DJ5_append_c97b9_ok 19 rfl, rfl⟩
theorem eJ5_append_c97b9_34 : z_br mJ5_append_c97b9 34 (.goto 14) (14) 37 48 := ⟨z_D DJ5_append_c97b9_ok 20 rfl, rfl, by decide⟩
theorem eJ5_append_c97b9_37 : z_ld mJ5_append_c97b9 37 1 38 := Or.inl ⟨1, z_D DJ5_append_c97b9_ok 21 rfl, rfl, rfl⟩
theorem eJ5_append_c97b9_38 : z_ld mJ5_append_c97b9 38 2 39 := Or.inl ⟨2, z_D DJ5_append_c97b9_ok 22 rfl, rfl, rfl⟩
theorem eJ5_append_c97b9_39 : z_ld mJ5_append_c97b9 39 3 40 := Or.inl ⟨3, z_D DJ5_append_c97b9_ok 23 rfl, rfl, rfl⟩
theorem eJ5_append_c97b9_40 : z_ad mJ5_append_c97b9 40 0 41 := Or.inl ⟨0, z_D DJ5_append_c97b9_ok 24 rfl, rfl, rfl⟩
theorem eJ5_append_c97b9_41 : z_at mJ5_append_c97b9 41 (.getfield 15) 3 44 ∧ z_fd mJ5_append_c97b9.1.cls 15 10 0 (.array .byte) false := ⟨⟨z_D DJ5_append_c97b9_ok 25 rfl, rfl⟩, fJ5_15⟩
theorem eJ5_append_c97b9_44 : z_at mJ5_append_c97b9 44 (.invokestatic 251) 3 47 := ⟨z_D DJ5_append_c97b9_ok 26 rfl, rfl⟩
theorem eJ5_append_c97b9_47 : z_at mJ5_append_c97b9 47 (.pop) 1 48 := ⟨z_D DJ5_append_c97b9_ok 27 rfl, rfl⟩
theorem eJ5_append_c97b9_48 : z_ad mJ5_append_c97b9 48 0 49 := Or.inl ⟨0, z_D DJ5_append_c97b9_ok 28 rfl, rfl, rfl⟩
theorem eJ5_append_c97b9_49 : z_ld mJ5_append_c97b9 49 3 50 := Or.inl ⟨3, z_D DJ5_append_c97b9_ok 29 rfl, rfl, rfl⟩
theorem eJ5_append_c97b9_50 : z_at mJ5_append_c97b9 50 (.putfield 79) 3 53 ∧ z_fd mJ5_append_c97b9.1.cls 79 10 3 .int false := ⟨⟨z_D DJ5_append_c97b9_ok 30 rfl, rfl⟩, fJ5_79⟩
theorem eJ5_append_c97b9_53 : z_ad mJ5_append_c97b9 53 0 54 := Or.inl ⟨0, z_D DJ5_append_c97b9_ok 31 rfl, rfl, rfl⟩
theorem eJ5_append_c97b9_54 : z_at mJ5_append_c97b9 54 (.areturn) 1 55 := ⟨z_D DJ5_append_c97b9_ok 32 rfl, rfl⟩
def DJ5_getValue_6d5f1 : List (Nat × Instr × Nat) := [(0, .aload_n 0, 1), (1, .getfield 15, 3), (4, .areturn, 1)]
theorem DJ5_getValue_6d5f1_ok : DJ5_getValue_6d5f1.all (fun q => decide (decode mJ5_getValue_6d5f1.2.1 q.1 = .ok q.2)) = true := by decide +kernel
theorem eJ5_getValue_6d5f1_0 : z_ad mJ5_getValue_6d5f1 0 0 1 := Or.inl ⟨0, z_D DJ5_getValue_6d5f1_ok 0 rfl, rfl, rfl⟩
theorem eJ5_getValue_6d5f1_1 : z_at mJ5_getValue_6d5f1 1 (.getfield 15) 3 4 ∧ z_fd mJ5_getValue_6d5f1.1.cls 15 10 0 (.array .byte) false := ⟨⟨z_D DJ5_getValue_6d5f1_ok 1 rfl, rfl⟩, fJ5_15⟩
theorem eJ5_getValue_6d5f1_4 : z_at mJ5_getValue_6d5f1 4 (.areturn) 1 5 := ⟨z_D DJ5_getValue_6d5f1_ok 2 rfl, rfl⟩
def DJ5_isLatin1_aae02 : List (Nat × Instr × Nat) := [(0, .getstatic 18, 3), (3, .ifCond .eq 14, 3), (6, .aload_n 0, 1), (7, .getfield 22, 3), (10, .ifCond .ne 7, 3), (13, .iconst 1, 1), (14, .goto 4, 3), (17, .iconst 0, 1), (18, .ireturn, 1)]
theorem DJ5_isLatin1_aae02_ok : DJ5_isLatin1_aae02.all (fun q => decide (decode mJ5_isLatin1_aae02.2.1 q.1 = .ok q.2)) = true := by decide +kernel
theorem eJ5_isLatin1_aae02_0 : z_at mJ5_isLatin1_aae02 0 (.getstatic 18) 3 3 := ⟨z_D DJ5_isLatin1_aae02_ok 0 rfl, rfl⟩
theorem eJ5_isLatin1_aae02_3 : z_br mJ5_isLatin1_aae02 3 (.ifCond .eq 14) (14) 6 17 := ⟨z_D DJ5_isLatin1_aae02_ok 1 rfl, rfl, by decide⟩
theorem eJ5_isLatin1_aae02_6 : z_ad mJ5_isLatin1_aae02 6 0 7 := Or.inl ⟨0, z_D DJ5_isLatin1_aae02_ok 2 rfl, rfl, rfl⟩
theorem eJ5_isLatin1_aae02_7 : z_at mJ5_isLatin1_aae02 7 (.getfield 22) 3 10 ∧ z_fd mJ5_isLatin1_aae02.1.cls 22 10 1 .byte false := ⟨⟨z_D DJ5_isLatin1_aae02_ok 3 rfl, rfl⟩, fJ5_22⟩
theorem eJ5_isLatin1_aae02_10 : z_br mJ5_isLatin1_aae02 10 (.ifCond .ne 7) (7) 13 17 := ⟨z_D DJ5_isLatin1_aae02_ok 4 rfl, rfl, by decide⟩
theorem eJ5_isLatin1_aae02_13 : z_co mJ5_isLatin1_aae02 13 (1) 14 := Or.inl ⟨z_D DJ5_isLatin1_aae02_ok 5 rfl, rfl⟩
theorem eJ5_isLatin1_aae02_14 : z_br mJ5_isLatin1_aae02 14 (.goto 4) (4) 17 18 := ⟨z_D DJ5_isLatin1_aae02_ok 6 rfl, rfl, by decide⟩
theorem eJ5_isLatin1_aae02_17 : z_co mJ5_isLatin1_aae02 17 (0) 18 := Or.inl ⟨z_D DJ5_isLatin1_aae02_ok 7 rfl, rfl⟩
theorem eJ5_isLatin1_aae02_18 : z_at mJ5_isLatin1_aae02 18 (.ireturn) 1 19 := ⟨z_D DJ5_isLatin1_aae02_ok 8 rfl, rfl⟩
def DJ5_inflateIfNeededFor_a7421 : List (Nat × Instr × Nat) := [(0, .getstatic 18, 3), (3, .ifCond .eq 18, 3), (6, .aload_n 0, 1), (7, .getfield 22, 3), (10, .aload_n 1, 1), (11, .invokevirtual 40, 3), (14, .if_icmp .eq 7, 3), (17, .aload_n 0, 1), (18, .invokevirtual 195, 3), (21, .return_, 1)]
theorem DJ5_inflateIfNeededFor_a7421_ok : DJ5_inflateIfNeededFor_a7421.all (fun q => decide (decode mJ5_inflateIfNeededFor_a7421.2.1 q.1 = .ok q.2)) = true := by decide +kernel
theorem eJ5_inflateIfNeededFor_a7421_0 : z_at mJ5_inflateIfNeededFor_a7421 0 (.getstatic 18) 3 3 := ⟨z_D DJ5_inflateIfNeededFor_a7421_ok 0 rfl, rfl⟩
theorem eJ5_inflateIfNeededFor_a7421_3 : z_br mJ5_inflateIfNeededFor_a7421 3 (.ifCond .eq 18) (18) 6 21 := ⟨z_D DJ5_inflateIfNeededFor_a7421_ok 1 rfl, rfl, by decide⟩
theorem eJ5_inflateIfNeededFor_a7421_6 : z_ad mJ5_inflateIfNeededFor_a7421 6 0 7 := Or.inl ⟨0, z_D DJ5_inflateIfNeededFor_a7421_ok 2 rfl, rfl, rfl⟩
theorem eJ5_inflateIfNeededFor_a7421_7 : z_at mJ5_inflateIfNeededFor_a7421 7 (.getfield 22) 3 10 ∧ z_fd mJ5_inflateIfNeededFor_a7421.1.cls 22 10 1 .byte false := ⟨⟨z_D DJ5_inflateIfNeededFor_a7421_ok 3 rfl, rfl⟩, fJ5_22⟩
theorem eJ5_inflateIfNeededFor_a7421_10 : z_ad mJ5_inflateIfNeededFor_a7421 10 1 11 := Or.inl ⟨1, z_D DJ5_inflateIfNeededFor_a7421_ok 4 rfl, rfl, rfl⟩
theorem eJ5_inflateIfNeededFor_a7421_11 : z_at mJ5_inflateIfNeededFor_a7421 11 (.invokevirtual 40) 3 14 ∧ z_lk mJ5_inflateIfNeededFor_a7421.1.cls 40 mJ0_coder_7d493.1 ∧ z_mt mJ0_coder_7d493 0 ∧ z_mv mJ0_coder_7d493 11 := ⟨⟨z_D DJ5_inflateIfNeededFor_a7421_ok 5 rfl, rfl⟩, Or.inl wB3_116, tJ0_coder_7d493, vJ0_coder_7d493⟩
theorem eJ5_inflateIfNeededFor_a7421_14 : z_br mJ5_inflateIfNeededFor_a7421 14 (.if_icmp .eq 7) (7) 17 21 := ⟨z_D DJ5_inflateIfNeededFor_a7421_ok 6 rfl, rfl, by decide⟩
theorem eJ5_inflateIfNeededFor_a7421_17 : z_ad mJ5_inflateIfNeededFor_a7421 17 0 18 := Or.inl ⟨0, z_D DJ5_inflateIfNeededFor_a7421_ok 7 rfl, rfl, rfl⟩
theorem eJ5_inflateIfNeededFor_a7421_18 : z_at mJ5_inflateIfNeededFor_a7421 18 (.invokevirtual 195) 3 21 ∧ z_lk mJ5_inflateIfNeededFor_a7421.1.cls 195 mJ5_inflate_da8c8.1 ∧ z_mt mJ5_inflate_da8c8 0 ∧ z_mu mJ5_inflate_da8c8 10 := ⟨⟨z_D DJ5_inflateIfNeededFor_a7421_ok 8 rfl, rfl⟩, Or.inl wB3_117, tJ5_inflate_da8c8, uJ5_inflate_da8c8⟩
theorem eJ5_inflateIfNeededFor_a7421_21 : z_at mJ5_inflateIfNeededFor_a7421 21 (.return_) 1 22 := ⟨z_D DJ5_inflateIfNeededFor_a7421_ok 9 rfl, rfl⟩
def DJ5_putStringAt_47b60 : List (Nat × Instr × Nat) := [(0, .aload_n 0, 1), (1, .aload_n 2, 1), (2, .invokevirtual 397, 3), (5, .aload_n 2, 1), (6, .aload_n 0, 1), (7, .getfield 15, 3), (10, .iload_n 1, 1), (11, .aload_n 0, 1), (12, .getfield 22, 3), (15, .invokevirtual 399, 3), (18, .return_, 1)]
theorem DJ5_putStringAt_47b60_ok : DJ5_putStringAt_47b60.all (fun q => decide (decode mJ5_putStringAt_47b60.2.1 q.1 = .ok q.2)) = true := by decide +kernel
theorem eJ5_putStringAt_47b60_0 : z_ad mJ5_putStringAt_47b60 0 0 1 := Or.inl ⟨0, z_D DJ5_putStringAt_47b60_ok 0 rfl, rfl, rfl⟩
theorem eJ5_putStringAt_47b60_1 : z_ad mJ5_putStringAt_47b60 1 2 2 := Or.inl ⟨2, z_D DJ5_putStringAt_47b60_ok 1 rfl, rfl, rfl⟩
theorem eJ5_putStringAt_47b60_2 : z_at mJ5_putStringAt_47b60 2 (.invokevirtual 397) 3 5 ∧ z_lk mJ5_putStringAt_47b60.1.cls 397 mJ5_inflateIfNeededFor_a7421.1 ∧ z_mt mJ5_inflateIfNeededFor_a7421 1 ∧ z_mu mJ5_inflateIfNeededFor_a7421 10 := ⟨⟨z_D DJ5_putStringAt_47b60_ok 2 rfl, rfl⟩, Or.inl wB3_112, tJ5_inflateIfNeededFor_a7421, uJ5_inflateIfNeededFor_a7421⟩
theorem eJ5_putStringAt_47b60_5 : z_ad mJ5_putStringAt_47b60 5 2 6 := Or.inl ⟨2, z_D DJ5_putStringAt_47b60_ok 3 rfl, rfl, rfl⟩
theorem eJ5_putStringAt_47b60_6 : z_ad mJ5_putStringAt_47b60 6 0 7 := Or.inl ⟨0, z_D DJ5_putStringAt_47b60_ok 4 rfl, rfl, rfl⟩
theorem eJ5_putStringAt_47b60_7 : z_at mJ5_putStringAt_47b60 7 (.getfield 15) 3 10 ∧ z_fd mJ5_putStringAt_47b60.1.cls 15 10 0 (.array .byte) false := ⟨⟨z_D DJ5_putStringAt_47b60_ok 5 rfl, rfl⟩, fJ5_15⟩
theorem eJ5_putStringAt_47b60_10 : z_ld mJ5_putStringAt_47b60 10 1 11 := Or.inl ⟨1, z_D DJ5_putStringAt_47b60_ok 6 rfl, rfl, rfl⟩
theorem eJ5_putStringAt_47b60_11 : z_ad mJ5_putStringAt_47b60 11 0 12 := Or.inl ⟨0, z_D DJ5_putStringAt_47b60_ok 7 rfl, rfl, rfl⟩
theorem eJ5_putStringAt_47b60_12 : z_at mJ5_putStringAt_47b60 12 (.getfield 22) 3 15 ∧ z_fd mJ5_putStringAt_47b60.1.cls 22 10 1 .byte false := ⟨⟨z_D DJ5_putStringAt_47b60_ok 8 rfl, rfl⟩, fJ5_22⟩
theorem eJ5_putStringAt_47b60_15 : z_at mJ5_putStringAt_47b60 15 (.invokevirtual 399) 3 18 ∧ z_lk mJ5_putStringAt_47b60.1.cls 399 mJ0_getBytes_840e7.1 ∧ z_mt mJ0_getBytes_840e7 3 ∧ z_mv mJ0_getBytes_840e7 11 := ⟨⟨z_D DJ5_putStringAt_47b60_ok 9 rfl, rfl⟩, Or.inl wB3_136, tJ0_getBytes_840e7, vJ0_getBytes_840e7⟩
theorem eJ5_putStringAt_47b60_18 : z_at mJ5_putStringAt_47b60 18 (.return_) 1 19 := ⟨z_D DJ5_putStringAt_47b60_ok 10 rfl, rfl⟩
def DJ4_init_da8c8 : List (Nat × Instr × Nat) := [(0, .aload_n 0, 1), (1, .bipush 16, 2), (3, .invokespecial 1, 3), (6, .return_, 1)]
theorem DJ4_init_da8c8_ok : DJ4_init_da8c8.all (fun q => decide (decode mJ4_init_da8c8.2.1 q.1 = .ok q.2)) = true := by decide +kernel
theorem eJ4_init_da8c8_0 : z_ad mJ4_init_da8c8 0 0 1 := Or.inl ⟨0, z_D DJ4_init_da8c8_ok 0 rfl, rfl, rfl⟩
theorem eJ4_init_da8c8_1 : z_co mJ4_init_da8c8 1 (16) 3 := Or.inr (Or.inl ⟨_, z_D DJ4_init_da8c8_ok 1 rfl, by decide, rfl⟩)
theorem eJ4_init_da8c8_3 : z_at mJ4_init_da8c8 3 (.invokespecial 1) 3 6 ∧ z_lk mJ4_init_da8c8.1.cls 1 mJ5_init_d00df.1 ∧ z_mt mJ5_init_d00df 1 ∧ (mJ5_init_d00df.1.name = "<init>" ∧ mJ5_init_d00df.2.2.2 = none) ∧ Cond.instanceMethod mJ5_init_d00df.1 ∈ lw_tbl := ⟨⟨z_D DJ4_init_da8c8_ok 2 rfl, rfl⟩, Or.inl wB2_233, tJ5_init_d00df, iJ5_init_d00df⟩
theorem eJ4_init_da8c8_6 : z_at mJ4_init_da8c8 6 (.return_) 1 7 := ⟨z_D DJ4_init_da8c8_ok 3 rfl, rfl⟩
def DJ4_append_15ec4 : List (Nat × Instr × Nat) := [(0, .aload_n 0, 1), (1, .aload_n 1, 1), (2, .invokespecial 29, 3), (5, .pop, 1), (6, .aload_n 0, 1), (7, .areturn, 1)]
theorem DJ4_append_15ec4_ok : DJ4_append_15ec4.all (fun q => decide (decode mJ4_append_15ec4.2.1 q.1 = .ok q.2)) = true := by decide +kernel
theorem eJ4_append_15ec4_0 : z_ad mJ4_append_15ec4 0 0 1 := Or.inl ⟨0, z_D DJ4_append_15ec4_ok 0 rfl, rfl, rfl⟩
theorem eJ4_append_15ec4_1 : z_ad mJ4_append_15ec4 1 1 2 := Or.inl ⟨1, z_D DJ4_append_15ec4_ok 1 rfl, rfl, rfl⟩
theorem eJ4_append_15ec4_2 : z_at mJ4_append_15ec4 2 (.invokespecial 29) 3 5 ∧ Cond.methodLink mJ4_append_15ec4.1.cls 29 mJ5_append_cf1ce.1 ∈ lw_tbl ∧ z_mt mJ5_append_cf1ce 1 ∧ z_ms' mJ4_append_15ec4.1.cls mJ5_append_cf1ce := ⟨⟨z_D DJ4_append_15ec4_ok 2 rfl, rfl⟩, wB3_26, tJ5_append_cf1ce, qJ5_append_cf1ce⟩
theorem eJ4_append_15ec4_5 : z_at mJ4_append_15ec4 5 (.pop) 1 6 := ⟨z_D DJ4_append_15ec4_ok 3 rfl, rfl⟩
theorem eJ4_append_15ec4_6 : z_ad mJ4_append_15ec4 6 0 7 := Or.inl ⟨0, z_D DJ4_append_15ec4_ok 4 rfl, rfl, rfl⟩
theorem eJ4_append_15ec4_7 : z_at mJ4_append_15ec4 7 (.areturn) 1 8 := ⟨z_D DJ4_append_15ec4_ok 5 rfl, rfl⟩
def DJ4_append_cf468 : List (Nat × Instr × Nat) := [(0, .aload_n 0, 1), (1, .iload_n 1, 1), (2, .invokespecial 50, 3), (5, .pop, 1), (6, .aload_n 0, 1), (7, .areturn, 1)]
theorem DJ4_append_cf468_ok : DJ4_append_cf468.all (fun q => decide (decode mJ4_append_cf468.2.1 q.1 = .ok q.2)) = true := by decide +kernel
theorem eJ4_append_cf468_0 : z_ad mJ4_append_cf468 0 0 1 := Or.inl ⟨0, z_D DJ4_append_cf468_ok 0 rfl, rfl, rfl⟩
theorem eJ4_append_cf468_1 : z_ld mJ4_append_cf468 1 1 2 := Or.inl ⟨1, z_D DJ4_append_cf468_ok 1 rfl, rfl, rfl⟩
theorem eJ4_append_cf468_2 : z_at mJ4_append_cf468 2 (.invokespecial 50) 3 5 ∧ Cond.methodLink mJ4_append_cf468.1.cls 50 mJ5_append_3fe6f.1 ∈ lw_tbl ∧ z_mt mJ5_append_3fe6f 1 ∧ z_ms' mJ4_append_cf468.1.cls mJ5_append_3fe6f := ⟨⟨z_D DJ4_append_cf468_ok 2 rfl, rfl⟩, wB3_146, tJ5_append_3fe6f, qJ5_append_3fe6f⟩
theorem eJ4_append_cf468_5 : z_at mJ4_append_cf468 5 (.pop) 1 6 := ⟨z_D DJ4_append_cf468_ok 3 rfl, rfl⟩
theorem eJ4_append_cf468_6 : z_ad mJ4_append_cf468 6 0 7 := Or.inl ⟨0, z_D DJ4_append_cf468_ok 4 rfl, rfl, rfl⟩
theorem eJ4_append_cf468_7 : z_at mJ4_append_cf468 7 (.areturn) 1 8 := ⟨z_D DJ4_append_cf468_ok 5 rfl, rfl⟩
def DJ4_append_bf812 : List (Nat × Instr × Nat) := [(0, .aload_n 0, 1), (1, .iload_n 1, 1), (2, .invokespecial 53, 3), (5, .pop, 1), (6, .aload_n 0, 1), (7, .areturn, 1)]
theorem DJ4_append_bf812_ok : DJ4_append_bf812.all (fun q => decide (decode mJ4_append_bf812.2.1 q.1 = .ok q.2)) = true := by decide +kernel
theorem eJ4_append_bf812_0 : z_ad mJ4_append_bf812 0 0 1 := Or.inl ⟨0, z_D DJ4_append_bf812_ok 0 rfl, rfl, rfl⟩
theorem eJ4_append_bf812_1 : z_ld mJ4_append_bf812 1 1 2 := Or.inl ⟨1, z_D DJ4_append_bf812_ok 1 rfl, rfl, rfl⟩
theorem eJ4_append_bf812_2 : z_at mJ4_append_bf812 2 (.invokespecial 53) 3 5 ∧ Cond.methodLink mJ4_append_bf812.1.cls 53 mJ5_append_c97b9.1 ∈ lw_tbl ∧ z_mt mJ5_append_c97b9 1 ∧ z_ms' mJ4_append_bf812.1.cls mJ5_append_c97b9 := ⟨⟨z_D DJ4_append_bf812_ok 2 rfl, rfl⟩, wB3_168, tJ5_append_c97b9, qJ5_append_c97b9⟩
theorem eJ4_append_bf812_5 : z_at mJ4_append_bf812 5 (.pop) 1 6 := ⟨z_D DJ4_append_bf812_ok 3 rfl, rfl⟩
theorem eJ4_append_bf812_6 : z_ad mJ4_append_bf812 6 0 7 := Or.inl ⟨0, z_D DJ4_append_bf812_ok 4 rfl, rfl, rfl⟩
theorem eJ4_append_bf812_7 : z_at mJ4_append_bf812 7 (.areturn) 1 8 := ⟨z_D DJ4_append_bf812_ok 5 rfl, rfl⟩
def DJ4_toString_0e30d : List (Nat × Instr × Nat) := [(0, .new 18, 3), (3, .dup, 1), (4, .aload_n 0, 1), (5, .invokespecial 137, 3), (8, .areturn, 1)]
theorem DJ4_toString_0e30d_ok : DJ4_toString_0e30d.all (fun q => decide (decode mJ4_toString_0e30d.2.1 q.1 = .ok q.2)) = true := by decide +kernel
theorem eJ4_toString_0e30d_0 : z_at mJ4_toString_0e30d 0 (.new 18) 3 3 ∧ z_mk mJ4_toString_0e30d.1.cls 18 11 4 [.null, z_i 0, z_i 0, z_i 0] := ⟨⟨z_D DJ4_toString_0e30d_ok 0 rfl, rfl⟩, ⟨_, _, _, cJ0, wB3_194, wB3_195, wB1_26, z_dv (by decide +kernel)⟩⟩
theorem eJ4_toString_0e30d_3 : z_at mJ4_toString_0e30d 3 (.dup) 1 4 := ⟨z_D DJ4_toString_0e30d_ok 1 rfl, rfl⟩
theorem eJ4_toString_0e30d_4 : z_ad mJ4_toString_0e30d 4 0 5 := Or.inl ⟨0, z_D DJ4_toString_0e30d_ok 2 rfl, rfl, rfl⟩
theorem eJ4_toString_0e30d_5 : z_at mJ4_toString_0e30d 5 (.invokespecial 137) 3 8 ∧ z_lk mJ4_toString_0e30d.1.cls 137 mJ0_init_81219.1 ∧ z_mt mJ0_init_81219 1 ∧ (mJ0_init_81219.1.name = "<init>" ∧ mJ0_init_81219.2.2.2 = none) ∧ Cond.instanceMethod mJ0_init_81219.1 ∈ lw_tbl := ⟨⟨z_D DJ4_toString_0e30d_ok 3 rfl, rfl⟩, Or.inl wB3_196, tJ0_init_81219, iJ0_init_81219⟩
theorem eJ4_toString_0e30d_8 : z_at mJ4_toString_0e30d 8 (.areturn) 1 9 := ⟨z_D DJ4_toString_0e30d_ok 4 rfl, rfl⟩
def DJ4_charAt_5068e : List (Nat × Instr × Nat) := [(0, .aload_n 0, 1), (1, .iload_n 1, 1), (2, .invokespecial 329, 3), (5, .ireturn, 1)]
theorem DJ4_charAt_5068e_ok : DJ4_charAt_5068e.all (fun q => decide (decode mJ4_charAt_5068e.2.1 q.1 = .ok q.2)) = true := by decide +kernel
theorem eJ4_charAt_5068e_0 : z_ad mJ4_charAt_5068e 0 0 1 := Or.inl ⟨0, z_D DJ4_charAt_5068e_ok 0 rfl, rfl, rfl⟩
theorem eJ4_charAt_5068e_1 : z_ld mJ4_charAt_5068e 1 1 2 := Or.inl ⟨1, z_D DJ4_charAt_5068e_ok 1 rfl, rfl, rfl⟩
theorem eJ4_charAt_5068e_2 : z_at mJ4_charAt_5068e 2 (.invokespecial 329) 3 5 ∧ Cond.methodLink mJ4_charAt_5068e.1.cls 329 mJ5_charAt_5068e.1 ∈ lw_tbl ∧ z_mt mJ5_charAt_5068e 1 ∧ z_ms' mJ4_charAt_5068e.1.cls mJ5_charAt_5068e := ⟨⟨z_D DJ4_charAt_5068e_ok 2 rfl, rfl⟩, wB4_15, tJ5_charAt_5068e, qJ5_charAt_5068e⟩
theorem eJ4_charAt_5068e_5 : z_at mJ4_charAt_5068e 5 (.ireturn) 1 6 := ⟨z_D DJ4_charAt_5068e_ok 3 rfl, rfl⟩
def DJ4_length_8abf5 : List (Nat × Instr × Nat) := [(0, .aload_n 0, 1), (1, .invokespecial 343, 3), (4, .ireturn, 1)]
theorem DJ4_length_8abf5_ok : DJ4_length_8abf5.all (fun q => decide (decode mJ4_length_8abf5.2.1 q.1 = .ok q.2)) = true := by decide +kernel
theorem eJ4_length_8abf5_0 : z_ad mJ4_length_8abf5 0 0 1 := Or.inl ⟨0, z_D DJ4_length_8abf5_ok 0 rfl, rfl, rfl⟩
theorem eJ4_length_8abf5_1 : z_at mJ4_length_8abf5 1 (.invokespecial 343) 3 4 ∧ Cond.methodLink mJ4_length_8abf5.1.cls 343 mJ5_length_8abf5.1 ∈ lw_tbl ∧ z_mt mJ5_length_8abf5 0 ∧ z_ms' mJ4_length_8abf5.1.cls mJ5_length_8abf5 := ⟨⟨z_D DJ4_length_8abf5_ok 1 rfl, rfl⟩, wB3_214, tJ5_length_8abf5, qJ5_length_8abf5⟩
theorem eJ4_length_8abf5_4 : z_at mJ4_length_8abf5 4 (.ireturn) 1 5 := ⟨z_D DJ4_length_8abf5_ok 2 rfl, rfl⟩
def DJ0_init_81219 : List (Nat × Instr × Nat) := [(0, .aload_n 0, 1), (1, .aload_n 1, 1), (2, .aconst_null, 1), (3, .invokespecial 489, 3), (6, .return_, 1)]
theorem DJ0_init_81219_ok : DJ0_init_81219.all (fun q => decide (decode mJ0_init_81219.2.1 q.1 = .ok q.2)) = true := by decide +kernel
theorem eJ0_init_81219_0 : z_ad mJ0_init_81219 0 0 1 := Or.inl ⟨0, z_D DJ0_init_81219_ok 0 rfl, rfl, rfl⟩
theorem eJ0_init_81219_1 : z_ad mJ0_init_81219 1 1 2 := Or.inl ⟨1, z_D DJ0_init_81219_ok 1 rfl, rfl, rfl⟩
theorem eJ0_init_81219_2 : z_at mJ0_init_81219 2 (.aconst_null) 1 3 := ⟨z_D DJ0_init_81219_ok 2 rfl, rfl⟩
theorem eJ0_init_81219_3 : z_at mJ0_init_81219 3 (.invokespecial 489) 3 6 ∧ z_lk mJ0_init_81219.1.cls 489 mJ0_init_db425.1 ∧ z_mt mJ0_init_db425 2 ∧ (mJ0_init_db425.1.name = "<init>" ∧ mJ0_init_db425.2.2.2 = none) ∧ Cond.instanceMethod mJ0_init_db425.1 ∈ lw_tbl := ⟨⟨z_D DJ0_init_81219_ok 3 rfl, rfl⟩, Or.inl wB3_199, tJ0_init_db425, iJ0_init_db425⟩
theorem eJ0_init_81219_6 : z_at mJ0_init_81219 6 (.return_) 1 7 := ⟨z_D DJ0_init_81219_ok 4 rfl, rfl⟩
def DJ0_length_8abf5 : List (Nat × Instr × Nat) := [(0, .aload_n 0, 1), (1, .getfield 9, 3), (4, .arraylength, 1), (5, .aload_n 0, 1), (6, .invokevirtual 335, 3), (9, .ishr, 1), (10, .ireturn, 1)]
theorem DJ0_length_8abf5_ok : DJ0_length_8abf5.all (fun q => decide (decode mJ0_length_8abf5.2.1 q.1 = .ok q.2)) = true := by decide +kernel
theorem eJ0_length_8abf5_0 : z_ad mJ0_length_8abf5 0 0 1 := Or.inl ⟨0, z_D DJ0_length_8abf5_ok 0 rfl, rfl, rfl⟩
theorem eJ0_length_8abf5_1 : z_at mJ0_length_8abf5 1 (.getfield 9) 3 4 ∧ z_fd mJ0_length_8abf5.1.cls 9 11 0 (.array .byte) true := ⟨⟨z_D DJ0_length_8abf5_ok 1 rfl, rfl⟩, fJ0_9⟩
theorem eJ0_length_8abf5_4 : z_at mJ0_length_8abf5 4 (.arraylength) 1 5 := ⟨z_D DJ0_length_8abf5_ok 2 rfl, rfl⟩
theorem eJ0_length_8abf5_5 : z_ad mJ0_length_8abf5 5 0 6 := Or.inl ⟨0, z_D DJ0_length_8abf5_ok 3 rfl, rfl, rfl⟩
theorem eJ0_length_8abf5_6 : z_at mJ0_length_8abf5 6 (.invokevirtual 335) 3 9 ∧ z_lk mJ0_length_8abf5.1.cls 335 mJ0_coder_7d493.1 ∧ z_mt mJ0_coder_7d493 0 ∧ z_mv mJ0_coder_7d493 11 := ⟨⟨z_D DJ0_length_8abf5_ok 4 rfl, rfl⟩, Or.inl wB3_103, tJ0_coder_7d493, vJ0_coder_7d493⟩
theorem eJ0_length_8abf5_9 : z_at mJ0_length_8abf5 9 (.ishr) 1 10 := ⟨z_D DJ0_length_8abf5_ok 5 rfl, rfl⟩
theorem eJ0_length_8abf5_10 : z_at mJ0_length_8abf5 10 (.ireturn) 1 11 := ⟨z_D DJ0_length_8abf5_ok 6 rfl, rfl⟩
def DJ0_getBytes_840e7 : List (Nat × Instr × Nat) := [(0, .aload_n 0, 1), (1, .invokevirtual 335, 3), (4, .iload_n 3, 1), (5, .if_icmp .ne 23, 3), (8, .aload_n 0, 1), (9, .getfield 9, 3), (12, .iconst 0, 1), (13, .aload_n 1, 1), (14, .iload_n 2, 1), (15, .iload_n 3, 1), (16, .ishl, 1), (17, .aload_n 0, 1), (18, .getfield 9, 3), (21, .arraylength, 1), (22, .invokestatic 212, 3), (25, .goto 18, 3), (28, .aload_n 0, 1), (29, .getfield 9, 3), (32, .iconst 0, 1), (33, .aload_n 1, 1), (34, .iload_n 2, 1), (35, .aload_n 0, 1), (36, .getfield 9, 3), (39, .arraylength, 1), (40, .invokestatic 106, 3), (43, .return_, 1)]
theorem DJ0_getBytes_840e7_ok : DJ0_getBytes_840e7.all (fun q => decide (decode mJ0_getBytes_840e7.2.1 q.1 = .ok q.2)) = true := by decide +kernel
theorem eJ0_getBytes_840e7_0 : z_ad mJ0_getBytes_840e7 0 0 1 := Or.inl ⟨0, z_D DJ0_getBytes_840e7_ok 0 rfl, rfl, rfl⟩
theorem eJ0_getBytes_840e7_1 : z_at mJ0_getBytes_840e7 1 (.invokevirtual 335) 3 4 ∧ z_lk mJ0_getBytes_840e7.1.cls 335 mJ0_coder_7d493.1 ∧ z_mt mJ0_coder_7d493 0 ∧ z_mv mJ0_coder_7d493 11 := ⟨⟨z_D DJ0_getBytes_840e7_ok 1 rfl, rfl⟩, Or.inl wB3_103, tJ0_coder_7d493, vJ0_coder_7d493⟩
theorem eJ0_getBytes_840e7_4 : z_ld mJ0_getBytes_840e7 4 3 5 := Or.inl ⟨3, z_D DJ0_getBytes_840e7_ok 2 rfl, rfl, rfl⟩
theorem eJ0_getBytes_840e7_5 : z_br mJ0_getBytes_840e7 5 (.if_icmp .ne 23) (23) 8 28 := ⟨z_D DJ0_getBytes_840e7_ok 3 rfl, rfl, by decide⟩
theorem eJ0_getBytes_840e7_8 : z_ad mJ0_getBytes_840e7 8 0 9 := Or.inl ⟨0, z_D DJ0_getBytes_840e7_ok 4 rfl, rfl, rfl⟩
theorem eJ0_getBytes_840e7_9 : z_at mJ0_getBytes_840e7 9 (.getfield 9) 3 12 ∧ z_fd mJ0_getBytes_840e7.1.cls 9 11 0 (.array .byte) true := ⟨⟨z_D DJ0_getBytes_840e7_ok 5 rfl, rfl⟩, fJ0_9⟩
theorem eJ0_getBytes_840e7_12 : z_co mJ0_getBytes_840e7 12 (0) 13 := Or.inl ⟨z_D DJ0_getBytes_840e7_ok 6 rfl, rfl⟩
theorem eJ0_getBytes_840e7_13 : z_ad mJ0_getBytes_840e7 13 1 14 := Or.inl ⟨1, z_D DJ0_getBytes_840e7_ok 7 rfl, rfl, rfl⟩
theorem eJ0_getBytes_840e7_14 : z_ld mJ0_getBytes_840e7 14 2 15 := Or.inl ⟨2, z_D DJ0_getBytes_840e7_ok 8 rfl, rfl, rfl⟩
theorem eJ0_getBytes_840e7_15 : z_ld mJ0_getBytes_840e7 15 3 16 := Or.inl ⟨3, z_D DJ0_getBytes_840e7_ok 9 rfl, rfl, rfl⟩
theorem eJ0_getBytes_840e7_16 : z_at mJ0_getBytes_840e7 16 (.ishl) 1 17 := ⟨z_D DJ0_getBytes_840e7_ok 10 rfl, rfl⟩
theorem eJ0_getBytes_840e7_17 : z_ad mJ0_getBytes_840e7 17 0 18 := Or.inl ⟨0, z_D DJ0_getBytes_840e7_ok 11 rfl, rfl, rfl⟩
theorem eJ0_getBytes_840e7_18 : z_at mJ0_getBytes_840e7 18 (.getfield 9) 3 21 ∧ z_fd mJ0_getBytes_840e7.1.cls 9 11 0 (.array .byte) true := ⟨⟨z_D DJ0_getBytes_840e7_ok 12 rfl, rfl⟩, fJ0_9⟩
theorem eJ0_getBytes_840e7_21 : z_at mJ0_getBytes_840e7 21 (.arraylength) 1 22 := ⟨z_D DJ0_getBytes_840e7_ok 13 rfl, rfl⟩
theorem eJ0_getBytes_840e7_22 : z_at mJ0_getBytes_840e7 22 (.invokestatic 212) 3 25 := ⟨z_D DJ0_getBytes_840e7_ok 14 rfl, rfl⟩
theorem eJ0_getBytes_840e7_25 : z_br mJ0_getBytes_840e7 25 (.goto 18) (18) 28 43 := ⟨z_D DJ0_getBytes_840e7_ok 15 rfl, rfl, by decide⟩
theorem eJ0_getBytes_840e7_28 : z_ad mJ0_getBytes_840e7 28 0 29 := Or.inl ⟨0, z_D DJ0_getBytes_840e7_ok 16 rfl, rfl, rfl⟩
theorem eJ0_getBytes_840e7_29 : z_at mJ0_getBytes_840e7 29 (.getfield 9) 3 32 ∧ z_fd mJ0_getBytes_840e7.1.cls 9 11 0 (.array .byte) true := ⟨⟨z_D DJ0_getBytes_840e7_ok 17 rfl, rfl⟩, fJ0_9⟩
theorem eJ0_getBytes_840e7_32 : z_co mJ0_getBytes_840e7 32 (0) 33 := Or.inl ⟨z_D DJ0_getBytes_840e7_ok 18 rfl, rfl⟩
theorem eJ0_getBytes_840e7_33 : z_ad mJ0_getBytes_840e7 33 1 34 := Or.inl ⟨1, z_D DJ0_getBytes_840e7_ok 19 rfl, rfl, rfl⟩
theorem eJ0_getBytes_840e7_34 : z_ld mJ0_getBytes_840e7 34 2 35 := Or.inl ⟨2, z_D DJ0_getBytes_840e7_ok 20 rfl, rfl, rfl⟩
theorem eJ0_getBytes_840e7_35 : z_ad mJ0_getBytes_840e7 35 0 36 := Or.inl ⟨0, z_D DJ0_getBytes_840e7_ok 21 rfl, rfl, rfl⟩
theorem eJ0_getBytes_840e7_36 : z_at mJ0_getBytes_840e7 36 (.getfield 9) 3 39 ∧ z_fd mJ0_getBytes_840e7.1.cls 9 11 0 (.array .byte) true := ⟨⟨z_D DJ0_getBytes_840e7_ok 22 rfl, rfl⟩, fJ0_9⟩
theorem eJ0_getBytes_840e7_39 : z_at mJ0_getBytes_840e7 39 (.arraylength) 1 40 := ⟨z_D DJ0_getBytes_840e7_ok 23 rfl, rfl⟩
theorem eJ0_getBytes_840e7_40 : z_at mJ0_getBytes_840e7 40 (.invokestatic 106) 3 43 ∧ z_lk mJ0_getBytes_840e7.1.cls 106 mJ1_inflate_0e8fd.1 ∧ z_mt mJ1_inflate_0e8fd 5 ∧ Cond.static mJ1_inflate_0e8fd.1 ∈ lw_tbl := ⟨⟨z_D DJ0_getBytes_840e7_ok 24 rfl, rfl⟩, Or.inl wB3_141, tJ1_inflate_0e8fd, sJ1_inflate_0e8fd⟩
theorem eJ0_getBytes_840e7_43 : z_at mJ0_getBytes_840e7 43 (.return_) 1 44 := ⟨z_D DJ0_getBytes_840e7_ok 25 rfl, rfl⟩
def DJ0_init_db425 : List (Nat × Instr × Nat) := [(0, .aload_n 0, 1), (1, .invokespecial 1, 3), (4, .aload_n 1, 1), (5, .invokevirtual 552, 3), (8, .astore_n 3, 1), (9, .aload_n 1, 1), (10, .invokevirtual 549, 3), (13, .istore 4, 2), (15, .aload_n 1, 1), (16, .invokevirtual 1047, 3), (19, .ifCond .eq 22, 3), (22, .aload_n 0, 1), (23, .iconst 0, 1), (24, .putfield 15, 3), (27, .aload_n 0, 1), (28, .aload_n 3, 1), (29, .iconst 0, 1), (30, .iload 4, 2), (32, .invokestatic 54, 3), (35, .putfield 9, 3), (38, .goto 59, 3), (41, .getstatic 38, 3), (44, .ifCond .eq 35, 3), (47, .aload_n 1, 1), (48, .getfield 1048, 3), (51, .ifCond .eq 28, 3), (54, .aload_n 0, 1), (55, .aload_n 3, 1), (56, .iconst 0, 1), (57, .iload 4, 2), (59, .invokestatic 1051, 3), (62, .putfield 9, 3), (65, .aload_n 0, 1), (66, .aload_n 0, 1), (67, .getfield 9, 3), (70, .iload 4, 2), (72, .invokestatic 47, 3), (75, .putfield 15, 3), (78, .return_, 1), (79, .aload_n 0, 1), (80, .iconst 1, 1), (81, .putfield 15, 3), (84, .aload_n 0, 1), (85, .aload_n 3, 1), (86, .iconst 0, 1), (87, .iload 4, 2), (89, .iconst 1, 1), (90, .ishl, 1), (91, .invokestatic 54, 3), (94, .putfield 9, 3), (97, .return_, 1)]
theorem DJ0_init_db425_ok : DJ0_init_db425.all (fun q => decide (decode mJ0_init_db425.2.1 q.1 = .ok q.2)) = true := by decide +kernel
theorem eJ0_init_db425_0 : z_ad mJ0_init_db425 0 0 1 := Or.inl ⟨0, z_D DJ0_init_db425_ok 0 rfl, rfl, rfl⟩
theorem eJ0_init_db425_1 : z_at mJ0_init_db425 1 (.invokespecial 1) 3 4 ∧ Cond.methodLink mJ0_init_db425.1.cls 1 objectInit ∈ lw_tbl := ⟨⟨z_D DJ0_init_db425_ok 1 rfl, rfl⟩, wB3_202⟩
theorem eJ0_init_db425_4 : z_ad mJ0_init_db425 4 1 5 := Or.inl ⟨1, z_D DJ0_init_db425_ok 2 rfl, rfl, rfl⟩
theorem eJ0_init_db425_5 : z_at mJ0_init_db425 5 (.invokevirtual 552) 3 8 ∧ z_lk mJ0_init_db425.1.cls 552 mJ5_getValue_6d5f1.1 ∧ z_mt mJ5_getValue_6d5f1 0 ∧ z_mu mJ5_getValue_6d5f1 10 := ⟨⟨z_D DJ0_init_db425_ok 3 rfl, rfl⟩, Or.inl wB3_203, tJ5_getValue_6d5f1, uJ5_getValue_6d5f1⟩
theorem eJ0_init_db425_8 : z_asd mJ0_init_db425 8 3 9 := ⟨Or.inl ⟨3, z_D DJ0_init_db425_ok 4 rfl, rfl, rfl⟩, by decide⟩
theorem eJ0_init_db425_9 : z_ad mJ0_init_db425 9 1 10 := Or.inl ⟨1, z_D DJ0_init_db425_ok 5 rfl, rfl, rfl⟩
theorem eJ0_init_db425_10 : z_at mJ0_init_db425 10 (.invokevirtual 549) 3 13 := ⟨z_D DJ0_init_db425_ok 6 rfl, rfl⟩
theorem eJ0_init_db425_13 : z_sd mJ0_init_db425 13 4 15 := ⟨Or.inr ⟨z_D DJ0_init_db425_ok 7 rfl, rfl⟩, by decide⟩
theorem eJ0_init_db425_15 : z_ad mJ0_init_db425 15 1 16 := Or.inl ⟨1, z_D DJ0_init_db425_ok 8 rfl, rfl, rfl⟩
theorem eJ0_init_db425_16 : z_at mJ0_init_db425 16 (.invokevirtual 1047) 3 19 ∧ z_lk mJ0_init_db425.1.cls 1047 mJ5_isLatin1_aae02.1 ∧ z_mt mJ5_isLatin1_aae02 0 ∧ z_mu mJ5_isLatin1_aae02 10 := ⟨⟨z_D DJ0_init_db425_ok 9 rfl, rfl⟩, Or.inl wB3_216, tJ5_isLatin1_aae02, uJ5_isLatin1_aae02⟩
theorem eJ0_init_db425_19 : z_br mJ0_init_db425 19 (.ifCond .eq 22) (22) 22 41 := ⟨z_D DJ0_init_db425_ok 10 rfl, rfl, by decide⟩
theorem eJ0_init_db425_22 : z_ad mJ0_init_db425 22 0 23 := Or.inl ⟨0, z_D DJ0_init_db425_ok 11 rfl, rfl, rfl⟩
theorem eJ0_init_db425_23 : z_co mJ0_init_db425 23 (0) 24 := Or.inl ⟨z_D DJ0_init_db425_ok 12 rfl, rfl⟩
theorem eJ0_init_db425_24 : z_at mJ0_init_db425 24 (.putfield 15) 3 27 ∧ z_fd mJ0_init_db425.1.cls 15 11 1 .byte true := ⟨⟨z_D DJ0_init_db425_ok 13 rfl, rfl⟩, fJ0_15⟩
theorem eJ0_init_db425_27 : z_ad mJ0_init_db425 27 0 28 := Or.inl ⟨0, z_D DJ0_init_db425_ok 14 rfl, rfl, rfl⟩
theorem eJ0_init_db425_28 : z_ad mJ0_init_db425 28 3 29 := Or.inl ⟨3, z_D DJ0_init_db425_ok 15 rfl, rfl, rfl⟩
theorem eJ0_init_db425_29 : z_co mJ0_init_db425 29 (0) 30 := Or.inl ⟨z_D DJ0_init_db425_ok 16 rfl, rfl⟩
theorem eJ0_init_db425_30 : z_ld mJ0_init_db425 30 4 32 := Or.inr ⟨z_D DJ0_init_db425_ok 17 rfl, rfl⟩
theorem eJ0_init_db425_32 : z_at mJ0_init_db425 32 (.invokestatic 54) 3 35 ∧ z_lk mJ0_init_db425.1.cls 54 mJ7_copyOfRange_39247.1 ∧ z_mt mJ7_copyOfRange_39247 3 ∧ Cond.static mJ7_copyOfRange_39247.1 ∈ lw_tbl := ⟨⟨z_D DJ0_init_db425_ok 18 rfl, rfl⟩, Or.inl wB3_217, tJ7_copyOfRange_39247, sJ7_copyOfRange_39247⟩
theorem eJ0_init_db425_35 : z_at mJ0_init_db425 35 (.putfield 9) 3 38 ∧ z_fd mJ0_init_db425.1.cls 9 11 0 (.array .byte) true := ⟨⟨z_D DJ0_init_db425_ok 19 rfl, rfl⟩, fJ0_9⟩
theorem eJ0_init_db425_38 : z_br mJ0_init_db425 38 (.goto 59) (59) 41 97 := ⟨z_D DJ0_init_db425_ok 20 rfl, rfl, by decide⟩
theorem eJ0_init_db425_41 : z_at mJ0_init_db425 41 (.getstatic 38) 3 44 := ⟨z_D DJ0_init_db425_ok 21 rfl, rfl⟩
theorem eJ0_init_db425_44 : z_br mJ0_init_db425 44 (.ifCond .eq 35) (35) 47 79 := ⟨z_D DJ0_init_db425_ok 22 rfl, rfl, by decide⟩
theorem eJ0_init_db425_47 : z_ad mJ0_init_db425 47 1 48 := Or.inl ⟨1, z_D DJ0_init_db425_ok 23 rfl, rfl, rfl⟩
theorem eJ0_init_db425_48 : z_at mJ0_init_db425 48 (.getfield 1048) 3 51 ∧ z_fd mJ0_init_db425.1.cls 1048 10 2 .boolean false := ⟨⟨z_D DJ0_init_db425_ok 24 rfl, rfl⟩, fJ0_1048⟩
theorem eJ0_init_db425_51 : z_br mJ0_init_db425 51 (.ifCond .eq 28) (28) 54 79 := ⟨z_D DJ0_init_db425_ok 25 rfl, rfl, by decide⟩
theorem eJ0_init_db425_54 : z_ad mJ0_init_db425 54 0 55 := Or.inl ⟨0, z_D DJ0_init_db425_ok 26 rfl, rfl, rfl⟩
theorem eJ0_init_db425_55 : z_ad mJ0_init_db425 55 3 56 := Or.inl ⟨3, z_D DJ0_init_db425_ok 27 rfl, rfl, rfl⟩
theorem eJ0_init_db425_56 : z_co mJ0_init_db425 56 (0) 57 := Or.inl ⟨z_D DJ0_init_db425_ok 28 rfl, rfl⟩
theorem eJ0_init_db425_57 : z_ld mJ0_init_db425 57 4 59 := Or.inr ⟨z_D DJ0_init_db425_ok 29 rfl, rfl⟩
theorem eJ0_init_db425_59 : z_at mJ0_init_db425 59 (.invokestatic 1051) 3 62 := ⟨z_D DJ0_init_db425_ok 30 rfl, rfl⟩
theorem eJ0_init_db425_62 : z_at mJ0_init_db425 62 (.putfield 9) 3 65 ∧ z_fd mJ0_init_db425.1.cls 9 11 0 (.array .byte) true := ⟨⟨z_D DJ0_init_db425_ok 31 rfl, rfl⟩, fJ0_9⟩
theorem eJ0_init_db425_65 : z_ad mJ0_init_db425 65 0 66 := Or.inl ⟨0, z_D DJ0_init_db425_ok 32 rfl, rfl, rfl⟩
theorem eJ0_init_db425_66 : z_ad mJ0_init_db425 66 0 67 := Or.inl ⟨0, z_D DJ0_init_db425_ok 33 rfl, rfl, rfl⟩
theorem eJ0_init_db425_67 : z_at mJ0_init_db425 67 (.getfield 9) 3 70 ∧ z_fd mJ0_init_db425.1.cls 9 11 0 (.array .byte) true := ⟨⟨z_D DJ0_init_db425_ok 34 rfl, rfl⟩, fJ0_9⟩
theorem eJ0_init_db425_70 : z_ld mJ0_init_db425 70 4 72 := Or.inr ⟨z_D DJ0_init_db425_ok 35 rfl, rfl⟩
theorem eJ0_init_db425_72 : z_at mJ0_init_db425 72 (.invokestatic 47) 3 75 := ⟨z_D DJ0_init_db425_ok 36 rfl, rfl⟩
theorem eJ0_init_db425_75 : z_at mJ0_init_db425 75 (.putfield 15) 3 78 ∧ z_fd mJ0_init_db425.1.cls 15 11 1 .byte true := ⟨⟨z_D DJ0_init_db425_ok 37 rfl, rfl⟩, fJ0_15⟩
theorem eJ0_init_db425_78 : z_at mJ0_init_db425 78 (.return_) 1 79 := ⟨z_D DJ0_init_db425_ok 38 rfl, rfl⟩
theorem eJ0_init_db425_79 : z_ad mJ0_init_db425 79 0 80 := Or.inl ⟨0, z_D DJ0_init_db425_ok 39 rfl, rfl, rfl⟩
theorem eJ0_init_db425_80 : z_co mJ0_init_db425 80 (1) 81 := Or.inl ⟨z_D DJ0_init_db425_ok 40 rfl, rfl⟩
theorem eJ0_init_db425_81 : z_at mJ0_init_db425 81 (.putfield 15) 3 84 ∧ z_fd mJ0_init_db425.1.cls 15 11 1 .byte true := ⟨⟨z_D DJ0_init_db425_ok 41 rfl, rfl⟩, fJ0_15⟩
theorem eJ0_init_db425_84 : z_ad mJ0_init_db425 84 0 85 := Or.inl ⟨0, z_D DJ0_init_db425_ok 42 rfl, rfl, rfl⟩
theorem eJ0_init_db425_85 : z_ad mJ0_init_db425 85 3 86 := Or.inl ⟨3, z_D DJ0_init_db425_ok 43 rfl, rfl, rfl⟩
theorem eJ0_init_db425_86 : z_co mJ0_init_db425 86 (0) 87 := Or.inl ⟨z_D DJ0_init_db425_ok 44 rfl, rfl⟩
theorem eJ0_init_db425_87 : z_ld mJ0_init_db425 87 4 89 := Or.inr ⟨z_D DJ0_init_db425_ok 45 rfl, rfl⟩
theorem eJ0_init_db425_89 : z_co mJ0_init_db425 89 (1) 90 := Or.inl ⟨z_D DJ0_init_db425_ok 46 rfl, rfl⟩
theorem eJ0_init_db425_90 : z_at mJ0_init_db425 90 (.ishl) 1 91 := ⟨z_D DJ0_init_db425_ok 47 rfl, rfl⟩
theorem eJ0_init_db425_91 : z_at mJ0_init_db425 91 (.invokestatic 54) 3 94 ∧ z_lk mJ0_init_db425.1.cls 54 mJ7_copyOfRange_39247.1 ∧ z_mt mJ7_copyOfRange_39247 3 ∧ Cond.static mJ7_copyOfRange_39247.1 ∈ lw_tbl := ⟨⟨z_D DJ0_init_db425_ok 48 rfl, rfl⟩, Or.inl wB3_217, tJ7_copyOfRange_39247, sJ7_copyOfRange_39247⟩
theorem eJ0_init_db425_94 : z_at mJ0_init_db425 94 (.putfield 9) 3 97 ∧ z_fd mJ0_init_db425.1.cls 9 11 0 (.array .byte) true := ⟨⟨z_D DJ0_init_db425_ok 49 rfl, rfl⟩, fJ0_9⟩
theorem eJ0_init_db425_97 : z_at mJ0_init_db425 97 (.return_) 1 98 := ⟨z_D DJ0_init_db425_ok 50 rfl, rfl⟩
def DJ0_coder_7d493 : List (Nat × Instr × Nat) := [(0, .getstatic 38, 3), (3, .ifCond .eq 10, 3), (6, .aload_n 0, 1), (7, .getfield 15, 3), (10, .goto 4, 3), (13, .iconst 1, 1), (14, .ireturn, 1)]
theorem DJ0_coder_7d493_ok : DJ0_coder_7d493.all (fun q => decide (decode mJ0_coder_7d493.2.1 q.1 = .ok q.2)) = true := by decide +kernel
theorem eJ0_coder_7d493_0 : z_at mJ0_coder_7d493 0 (.getstatic 38) 3 3 := ⟨z_D DJ0_coder_7d493_ok 0 rfl, rfl⟩
theorem eJ0_coder_7d493_3 : z_br mJ0_coder_7d493 3 (.ifCond .eq 10) (10) 6 13 := ⟨z_D DJ0_coder_7d493_ok 1 rfl, rfl, by decide⟩
theorem eJ0_coder_7d493_6 : z_ad mJ0_coder_7d493 6 0 7 := Or.inl ⟨0, z_D DJ0_coder_7d493_ok 2 rfl, rfl, rfl⟩
theorem eJ0_coder_7d493_7 : z_at mJ0_coder_7d493 7 (.getfield 15) 3 10 ∧ z_fd mJ0_coder_7d493.1.cls 15 11 1 .byte true := ⟨⟨z_D DJ0_coder_7d493_ok 3 rfl, rfl⟩, fJ0_15⟩
theorem eJ0_coder_7d493_10 : z_br mJ0_coder_7d493 10 (.goto 4) (4) 13 14 := ⟨z_D DJ0_coder_7d493_ok 4 rfl, rfl, by decide⟩
theorem eJ0_coder_7d493_13 : z_co mJ0_coder_7d493 13 (1) 14 := Or.inl ⟨z_D DJ0_coder_7d493_ok 5 rfl, rfl⟩
theorem eJ0_coder_7d493_14 : z_at mJ0_coder_7d493 14 (.ireturn) 1 15 := ⟨z_D DJ0_coder_7d493_ok 6 rfl, rfl⟩
def DJ0_checkIndex_df160 : List (Nat × Instr × Nat) := [(0, .iload_n 0, 1), (1, .iload_n 1, 1), (2, .getstatic 1053, 3), (5, .invokestatic 1059, 3), (8, .pop, 1), (9, .return_, 1)]
theorem DJ0_checkIndex_df160_ok : DJ0_checkIndex_df160.all (fun q => decide (decode mJ0_checkIndex_df160.2.1 q.1 = .ok q.2)) = true := by decide +kernel
theorem eJ0_checkIndex_df160_0 : z_ld mJ0_checkIndex_df160 0 0 1 := Or.inl ⟨0, z_D DJ0_checkIndex_df160_ok 0 rfl, rfl, rfl⟩
theorem eJ0_checkIndex_df160_1 : z_ld mJ0_checkIndex_df160 1 1 2 := Or.inl ⟨1, z_D DJ0_checkIndex_df160_ok 1 rfl, rfl, rfl⟩
theorem eJ0_checkIndex_df160_2 : z_at mJ0_checkIndex_df160 2 (.getstatic 1053) 3 5 := ⟨z_D DJ0_checkIndex_df160_ok 2 rfl, rfl⟩
theorem eJ0_checkIndex_df160_5 : z_at mJ0_checkIndex_df160 5 (.invokestatic 1059) 3 8 ∧ z_lk mJ0_checkIndex_df160.1.cls 1059 mJ3_checkIndex_8e157.1 ∧ z_mt mJ3_checkIndex_8e157 3 ∧ Cond.static mJ3_checkIndex_8e157.1 ∈ lw_tbl := ⟨⟨z_D DJ0_checkIndex_df160_ok 3 rfl, rfl⟩, Or.inl wB3_161, tJ3_checkIndex_8e157, sJ3_checkIndex_8e157⟩
theorem eJ0_checkIndex_df160_8 : z_at mJ0_checkIndex_df160 8 (.pop) 1 9 := ⟨z_D DJ0_checkIndex_df160_ok 4 rfl, rfl⟩
theorem eJ0_checkIndex_df160_9 : z_at mJ0_checkIndex_df160 9 (.return_) 1 10 := ⟨z_D DJ0_checkIndex_df160_ok 5 rfl, rfl⟩
def DJ6_getChars_ba4f3 : List (Nat × Instr × Nat) := [(0, .iload_n 1, 1), (1, .istore 5, 2), (3, .iload_n 0, 1), (4, .ifCond .ge 7, 3), (7, .iconst 1, 1), (8, .goto 4, 3), (11, .iconst 0, 1), (12, .istore 6, 2), (14, .iload 6, 2), (16, .ifCond .ne 6, 3), (19, .iload_n 0, 1), (20, .ineg, 1), (21, .istore_n 0, 1), (22, .iload_n 0, 1), (23, .bipush (-100), 2), (25, .if_icmp .gt 47, 3), (28, .iload_n 0, 1), (29, .bipush 100, 2), (31, .idiv, 1), (32, .istore_n 3, 1), (33, .iload_n 3, 1), (34, .bipush 100, 2), (36, .imul, 1), (37, .iload_n 0, 1), (38, .isub, 1), (39, .istore 4, 2), (41, .iload_n 3, 1), (42, .istore_n 0, 1), (43, .aload_n 2, 1), (44, .iinc 5 (-1), 3), (47, .iload 5, 2), (49, .getstatic 83, 3), (52, .iload 4, 2), (54, .baload, 1), (55, .bastore, 1), (56, .aload_n 2, 1), (57, .iinc 5 (-1), 3), (60, .iload 5, 2), (62, .getstatic 87, 3), (65, .iload 4, 2), (67, .baload, 1), (68, .bastore, 1), (69, .goto (-47), 3), (72, .aload_n 2, 1), (73, .iinc 5 (-1), 3), (76, .iload 5, 2), (78, .getstatic 83, 3), (81, .iload_n 0, 1), (82, .ineg, 1), (83, .baload, 1), (84, .bastore, 1), (85, .iload_n 0, 1), (86, .bipush (-9), 2), (88, .if_icmp .ge 16, 3), (91, .aload_n 2, 1), (92, .iinc 5 (-1), 3), (95, .iload 5, 2), (97, .getstatic 87, 3), (100, .iload_n 0, 1), (101, .ineg, 1), (102, .baload, 1), (103, .bastore, 1), (104, .iload 6, 2), (106, .ifCond .eq 12, 3), (109, .aload_n 2, 1), (110, .iinc 5 (-1), 3), (113, .iload 5, 2), (115, .bipush 45, 2), (117, .bastore, 1), (118, .iload 5, 2), (120, .ireturn, 1)]
theorem DJ6_getChars_ba4f3_ok : DJ6_getChars_ba4f3.all (fun q => decide (decode mJ6_getChars_ba4f3.2.1 q.1 = .ok q.2)) = true := by decide +kernel
theorem eJ6_getChars_ba4f3_0 : z_ld mJ6_getChars_ba4f3 0 1 1 := Or.inl ⟨1, z_D DJ6_getChars_ba4f3_ok 0 rfl, rfl, rfl⟩
theorem eJ6_getChars_ba4f3_1 : z_sd mJ6_getChars_ba4f3 1 5 3 := ⟨Or.inr ⟨z_D DJ6_getChars_ba4f3_ok 1 rfl, rfl⟩, by decide⟩
theorem eJ6_getChars_ba4f3_3 : z_ld mJ6_getChars_ba4f3 3 0 4 := Or.inl ⟨0, z_D DJ6_getChars_ba4f3_ok 2 rfl, rfl, rfl⟩
theorem eJ6_getChars_ba4f3_4 : z_br mJ6_getChars_ba4f3 4 (.ifCond .ge 7) (7) 7 11 := ⟨z_D DJ6_getChars_ba4f3_ok 3 rfl, rfl, by decide⟩
theorem eJ6_getChars_ba4f3_7 : z_co mJ6_getChars_ba4f3 7 (1) 8 := Or.inl ⟨z_D DJ6_getChars_ba4f3_ok 4 rfl, rfl⟩
theorem eJ6_getChars_ba4f3_8 : z_br mJ6_getChars_ba4f3 8 (.goto 4) (4) 11 12 := ⟨z_D DJ6_getChars_ba4f3_ok 5 rfl, rfl, by decide⟩
theorem eJ6_getChars_ba4f3_11 : z_co mJ6_getChars_ba4f3 11 (0) 12 := Or.inl ⟨z_D DJ6_getChars_ba4f3_ok 6 rfl, rfl⟩
theorem eJ6_getChars_ba4f3_12 : z_sd mJ6_getChars_ba4f3 12 6 14 := ⟨Or.inr ⟨z_D DJ6_getChars_ba4f3_ok 7 rfl, rfl⟩, by decide⟩
theorem eJ6_getChars_ba4f3_14 : z_ld mJ6_getChars_ba4f3 14 6 16 := Or.inr ⟨z_D DJ6_getChars_ba4f3_ok 8 rfl, rfl⟩
theorem eJ6_getChars_ba4f3_16 : z_br mJ6_getChars_ba4f3 16 (.ifCond .ne 6) (6) 19 22 := ⟨z_D DJ6_getChars_ba4f3_ok 9 rfl, rfl, by decide⟩
theorem eJ6_getChars_ba4f3_19 : z_ld mJ6_getChars_ba4f3 19 0 20 := Or.inl ⟨0, z_D DJ6_getChars_ba4f3_ok 10 rfl, rfl, rfl⟩
theorem eJ6_getChars_ba4f3_20 : z_at mJ6_getChars_ba4f3 20 (.ineg) 1 21 := ⟨z_D DJ6_getChars_ba4f3_ok 11 rfl, rfl⟩
theorem eJ6_getChars_ba4f3_21 : z_sd mJ6_getChars_ba4f3 21 0 22 := ⟨Or.inl ⟨0, z_D DJ6_getChars_ba4f3_ok 12 rfl, rfl, rfl⟩, by decide⟩
theorem eJ6_getChars_ba4f3_22 : z_ld mJ6_getChars_ba4f3 22 0 23 := Or.inl ⟨0, z_D DJ6_getChars_ba4f3_ok 13 rfl, rfl, rfl⟩
theorem eJ6_getChars_ba4f3_23 : z_co mJ6_getChars_ba4f3 23 (-100) 25 := Or.inr (Or.inl ⟨_, z_D DJ6_getChars_ba4f3_ok 14 rfl, by decide, rfl⟩)
theorem eJ6_getChars_ba4f3_25 : z_br mJ6_getChars_ba4f3 25 (.if_icmp .gt 47) (47) 28 72 := ⟨z_D DJ6_getChars_ba4f3_ok 15 rfl, rfl, by decide⟩
theorem eJ6_getChars_ba4f3_28 : z_ld mJ6_getChars_ba4f3 28 0 29 := Or.inl ⟨0, z_D DJ6_getChars_ba4f3_ok 16 rfl, rfl, rfl⟩
theorem eJ6_getChars_ba4f3_29 : z_co mJ6_getChars_ba4f3 29 (100) 31 := Or.inr (Or.inl ⟨_, z_D DJ6_getChars_ba4f3_ok 17 rfl, by decide, rfl⟩)
theorem eJ6_getChars_ba4f3_31 : z_at mJ6_getChars_ba4f3 31 (.idiv) 1 32 := ⟨z_D DJ6_getChars_ba4f3_ok 18 rfl, rfl⟩
theorem eJ6_getChars_ba4f3_32 : z_sd mJ6_getChars_ba4f3 32 3 33 := ⟨Or.inl ⟨3, z_D DJ6_getChars_ba4f3_ok 19 rfl, rfl, rfl⟩, by decide⟩
theorem eJ6_getChars_ba4f3_33 : z_ld mJ6_getChars_ba4f3 33 3 34 := Or.inl ⟨3, z_D DJ6_getChars_ba4f3_ok 20 rfl, rfl, rfl⟩
theorem eJ6_getChars_ba4f3_34 : z_co mJ6_getChars_ba4f3 34 (100) 36 := Or.inr (Or.inl ⟨_, z_D DJ6_getChars_ba4f3_ok 21 rfl, by decide, rfl⟩)
theorem eJ6_getChars_ba4f3_36 : z_at mJ6_getChars_ba4f3 36 (.imul) 1 37 := ⟨z_D DJ6_getChars_ba4f3_ok 22 rfl, rfl⟩
theorem eJ6_getChars_ba4f3_37 : z_ld mJ6_getChars_ba4f3 37 0 38 := Or.inl ⟨0, z_D DJ6_getChars_ba4f3_ok 23 rfl, rfl, rfl⟩
theorem eJ6_getChars_ba4f3_38 : z_at mJ6_getChars_ba4f3 38 (.isub) 1 39 := ⟨z_D DJ6_getChars_ba4f3_ok 24 rfl, rfl⟩
theorem eJ6_getChars_ba4f3_39 : z_sd mJ6_getChars_ba4f3 39 4 41 := ⟨Or.inr ⟨z_D DJ6_getChars_ba4f3_ok 25 rfl, rfl⟩, by decide⟩
theorem eJ6_getChars_ba4f3_41 : z_ld mJ6_getChars_ba4f3 41 3 42 := Or.inl ⟨3, z_D DJ6_getChars_ba4f3_ok 26 rfl, rfl, rfl⟩
theorem eJ6_getChars_ba4f3_42 : z_sd mJ6_getChars_ba4f3 42 0 43 := ⟨Or.inl ⟨0, z_D DJ6_getChars_ba4f3_ok 27 rfl, rfl, rfl⟩, by decide⟩
theorem eJ6_getChars_ba4f3_43 : z_ad mJ6_getChars_ba4f3 43 2 44 := Or.inl ⟨2, z_D DJ6_getChars_ba4f3_ok 28 rfl, rfl, rfl⟩
theorem eJ6_getChars_ba4f3_44 : z_at mJ6_getChars_ba4f3 44 (.iinc 5 (-1)) 3 47 ∧ 5 < mJ6_getChars_ba4f3.2.2.1 := ⟨⟨z_D DJ6_getChars_ba4f3_ok 29 rfl, rfl⟩, by decide⟩
theorem eJ6_getChars_ba4f3_47 : z_ld mJ6_getChars_ba4f3 47 5 49 := Or.inr ⟨z_D DJ6_getChars_ba4f3_ok 30 rfl, rfl⟩
theorem eJ6_getChars_ba4f3_49 : z_at mJ6_getChars_ba4f3 49 (.getstatic 83) 3 52 := ⟨z_D DJ6_getChars_ba4f3_ok 31 rfl, rfl⟩
theorem eJ6_getChars_ba4f3_52 : z_ld mJ6_getChars_ba4f3 52 4 54 := Or.inr ⟨z_D DJ6_getChars_ba4f3_ok 32 rfl, rfl⟩
theorem eJ6_getChars_ba4f3_54 : z_at mJ6_getChars_ba4f3 54 (.baload) 1 55 := ⟨z_D DJ6_getChars_ba4f3_ok 33 rfl, rfl⟩
theorem eJ6_getChars_ba4f3_55 : z_at mJ6_getChars_ba4f3 55 (.bastore) 1 56 := ⟨z_D DJ6_getChars_ba4f3_ok 34 rfl, rfl⟩
theorem eJ6_getChars_ba4f3_56 : z_ad mJ6_getChars_ba4f3 56 2 57 := Or.inl ⟨2, z_D DJ6_getChars_ba4f3_ok 35 rfl, rfl, rfl⟩
theorem eJ6_getChars_ba4f3_57 : z_at mJ6_getChars_ba4f3 57 (.iinc 5 (-1)) 3 60 ∧ 5 < mJ6_getChars_ba4f3.2.2.1 := ⟨⟨z_D DJ6_getChars_ba4f3_ok 36 rfl, rfl⟩, by decide⟩
theorem eJ6_getChars_ba4f3_60 : z_ld mJ6_getChars_ba4f3 60 5 62 := Or.inr ⟨z_D DJ6_getChars_ba4f3_ok 37 rfl, rfl⟩
theorem eJ6_getChars_ba4f3_62 : z_at mJ6_getChars_ba4f3 62 (.getstatic 87) 3 65 := ⟨z_D DJ6_getChars_ba4f3_ok 38 rfl, rfl⟩
theorem eJ6_getChars_ba4f3_65 : z_ld mJ6_getChars_ba4f3 65 4 67 := Or.inr ⟨z_D DJ6_getChars_ba4f3_ok 39 rfl, rfl⟩
theorem eJ6_getChars_ba4f3_67 : z_at mJ6_getChars_ba4f3 67 (.baload) 1 68 := ⟨z_D DJ6_getChars_ba4f3_ok 40 rfl, rfl⟩
theorem eJ6_getChars_ba4f3_68 : z_at mJ6_getChars_ba4f3 68 (.bastore) 1 69 := ⟨z_D DJ6_getChars_ba4f3_ok 41 rfl, rfl⟩
theorem eJ6_getChars_ba4f3_69 : z_br mJ6_getChars_ba4f3 69 (.goto (-47)) (-47) 72 22 := ⟨z_D DJ6_getChars_ba4f3_ok 42 rfl, rfl, by decide⟩
theorem eJ6_getChars_ba4f3_72 : z_ad mJ6_getChars_ba4f3 72 2 73 := Or.inl ⟨2, z_D DJ6_getChars_ba4f3_ok 43 rfl, rfl, rfl⟩
theorem eJ6_getChars_ba4f3_73 : z_at mJ6_getChars_ba4f3 73 (.iinc 5 (-1)) 3 76 ∧ 5 < mJ6_getChars_ba4f3.2.2.1 := ⟨⟨z_D DJ6_getChars_ba4f3_ok 44 rfl, rfl⟩, by decide⟩
theorem eJ6_getChars_ba4f3_76 : z_ld mJ6_getChars_ba4f3 76 5 78 := Or.inr ⟨z_D DJ6_getChars_ba4f3_ok 45 rfl, rfl⟩
theorem eJ6_getChars_ba4f3_78 : z_at mJ6_getChars_ba4f3 78 (.getstatic 83) 3 81 := ⟨z_D DJ6_getChars_ba4f3_ok 46 rfl, rfl⟩
theorem eJ6_getChars_ba4f3_81 : z_ld mJ6_getChars_ba4f3 81 0 82 := Or.inl ⟨0, z_D DJ6_getChars_ba4f3_ok 47 rfl, rfl, rfl⟩
theorem eJ6_getChars_ba4f3_82 : z_at mJ6_getChars_ba4f3 82 (.ineg) 1 83 := ⟨z_D DJ6_getChars_ba4f3_ok 48 rfl, rfl⟩
theorem eJ6_getChars_ba4f3_83 : z_at mJ6_getChars_ba4f3 83 (.baload) 1 84 := ⟨z_D DJ6_getChars_ba4f3_ok 49 rfl, rfl⟩
theorem eJ6_getChars_ba4f3_84 : z_at mJ6_getChars_ba4f3 84 (.bastore) 1 85 := ⟨z_D DJ6_getChars_ba4f3_ok 50 rfl, rfl⟩
theorem eJ6_getChars_ba4f3_85 : z_ld mJ6_getChars_ba4f3 85 0 86 := Or.inl ⟨0, z_D DJ6_getChars_ba4f3_ok 51 rfl, rfl, rfl⟩
theorem eJ6_getChars_ba4f3_86 : z_co mJ6_getChars_ba4f3 86 (-9) 88 := Or.inr (Or.inl ⟨_, z_D DJ6_getChars_ba4f3_ok 52 rfl, by decide, rfl⟩)
theorem eJ6_getChars_ba4f3_88 : z_br mJ6_getChars_ba4f3 88 (.if_icmp .ge 16) (16) 91 104 := ⟨z_D DJ6_getChars_ba4f3_ok 53 rfl, rfl, by decide⟩
theorem eJ6_getChars_ba4f3_91 : z_ad mJ6_getChars_ba4f3 91 2 92 := Or.inl ⟨2, z_D DJ6_getChars_ba4f3_ok 54 rfl, rfl, rfl⟩
theorem eJ6_getChars_ba4f3_92 : z_at mJ6_getChars_ba4f3 92 (.iinc 5 (-1)) 3 95 ∧ 5 < mJ6_getChars_ba4f3.2.2.1 := ⟨⟨z_D DJ6_getChars_ba4f3_ok 55 rfl, rfl⟩, by decide⟩
theorem eJ6_getChars_ba4f3_95 : z_ld mJ6_getChars_ba4f3 95 5 97 := Or.inr ⟨z_D DJ6_getChars_ba4f3_ok 56 rfl, rfl⟩
theorem eJ6_getChars_ba4f3_97 : z_at mJ6_getChars_ba4f3 97 (.getstatic 87) 3 100 := ⟨z_D DJ6_getChars_ba4f3_ok 57 rfl, rfl⟩
theorem eJ6_getChars_ba4f3_100 : z_ld mJ6_getChars_ba4f3 100 0 101 := Or.inl ⟨0, z_D DJ6_getChars_ba4f3_ok 58 rfl, rfl, rfl⟩
theorem eJ6_getChars_ba4f3_101 : z_at mJ6_getChars_ba4f3 101 (.ineg) 1 102 := ⟨z_D DJ6_getChars_ba4f3_ok 59 rfl, rfl⟩
theorem eJ6_getChars_ba4f3_102 : z_at mJ6_getChars_ba4f3 102 (.baload) 1 103 := ⟨z_D DJ6_getChars_ba4f3_ok 60 rfl, rfl⟩
theorem eJ6_getChars_ba4f3_103 : z_at mJ6_getChars_ba4f3 103 (.bastore) 1 104 := ⟨z_D DJ6_getChars_ba4f3_ok 61 rfl, rfl⟩
theorem eJ6_getChars_ba4f3_104 : z_ld mJ6_getChars_ba4f3 104 6 106 := Or.inr ⟨z_D DJ6_getChars_ba4f3_ok 62 rfl, rfl⟩
theorem eJ6_getChars_ba4f3_106 : z_br mJ6_getChars_ba4f3 106 (.ifCond .eq 12) (12) 109 118 := ⟨z_D DJ6_getChars_ba4f3_ok 63 rfl, rfl, by decide⟩
theorem eJ6_getChars_ba4f3_109 : z_ad mJ6_getChars_ba4f3 109 2 110 := Or.inl ⟨2, z_D DJ6_getChars_ba4f3_ok 64 rfl, rfl, rfl⟩
theorem eJ6_getChars_ba4f3_110 : z_at mJ6_getChars_ba4f3 110 (.iinc 5 (-1)) 3 113 ∧ 5 < mJ6_getChars_ba4f3.2.2.1 := ⟨⟨z_D DJ6_getChars_ba4f3_ok 65 rfl, rfl⟩, by decide⟩
theorem eJ6_getChars_ba4f3_113 : z_ld mJ6_getChars_ba4f3 113 5 115 := Or.inr ⟨z_D DJ6_getChars_ba4f3_ok 66 rfl, rfl⟩
theorem eJ6_getChars_ba4f3_115 : z_co mJ6_getChars_ba4f3 115 (45) 117 := Or.inr (Or.inl ⟨_, z_D DJ6_getChars_ba4f3_ok 67 rfl, by decide, rfl⟩)
theorem eJ6_getChars_ba4f3_117 : z_at mJ6_getChars_ba4f3 117 (.bastore) 1 118 := ⟨z_D DJ6_getChars_ba4f3_ok 68 rfl, rfl⟩
theorem eJ6_getChars_ba4f3_118 : z_ld mJ6_getChars_ba4f3 118 5 120 := Or.inr ⟨z_D DJ6_getChars_ba4f3_ok 69 rfl, rfl⟩
theorem eJ6_getChars_ba4f3_120 : z_at mJ6_getChars_ba4f3 120 (.ireturn) 1 121 := ⟨z_D DJ6_getChars_ba4f3_ok 70 rfl, rfl⟩
def DJ6_stringSize_0f7a4 : List (Nat × Instr × Nat) := [(0, .iconst 1, 1), (1, .istore_n 1, 1), (2, .iload_n 0, 1), (3, .ifCond .lt 8, 3), (6, .iconst 0, 1), (7, .istore_n 1, 1), (8, .iload_n 0, 1), (9, .ineg, 1), (10, .istore_n 0, 1), (11, .bipush (-10), 2), (13, .istore_n 2, 1), (14, .iconst 1, 1), (15, .istore_n 3, 1), (16, .iload_n 3, 1), (17, .bipush 10, 2), (19, .if_icmp .ge 23, 3), (22, .iload_n 0, 1), (23, .iload_n 2, 1), (24, .if_icmp .le 7, 3), (27, .iload_n 3, 1), (28, .iload_n 1, 1), (29, .iadd, 1), (30, .ireturn, 1), (31, .bipush 10, 2), (33, .iload_n 2, 1), (34, .imul, 1), (35, .istore_n 2, 1), (36, .iinc 3 1, 3), (39, .goto (-23), 3), (42, .bipush 10, 2), (44, .iload_n 1, 1), (45, .iadd, 1), (46, .ireturn, 1)]
theorem DJ6_stringSize_0f7a4_ok : DJ6_stringSize_0f7a4.all (fun q => decide (decode mJ6_stringSize_0f7a4.2.1 q.1 = .ok q.2)) = true := by decide +kernel
theorem eJ6_stringSize_0f7a4_0 : z_co mJ6_stringSize_0f7a4 0 (1) 1 := Or.inl ⟨z_D DJ6_stringSize_0f7a4_ok 0 rfl, rfl⟩
theorem eJ6_stringSize_0f7a4_1 : z_sd mJ6_stringSize_0f7a4 1 1 2 := ⟨Or.inl ⟨1, z_D DJ6_stringSize_0f7a4_ok 1 rfl, rfl, rfl⟩, by decide⟩
theorem eJ6_stringSize_0f7a4_2 : z_ld mJ6_stringSize_0f7a4 2 0 3 := Or.inl ⟨0, z_D DJ6_stringSize_0f7a4_ok 2 rfl, rfl, rfl⟩
theorem eJ6_stringSize_0f7a4_3 : z_br mJ6_stringSize_0f7a4 3 (.ifCond .lt 8) (8) 6 11 := ⟨z_D DJ6_stringSize_0f7a4_ok 3 rfl, rfl, by decide⟩
theorem eJ6_stringSize_0f7a4_6 : z_co mJ6_stringSize_0f7a4 6 (0) 7 := Or.inl ⟨z_D DJ6_stringSize_0f7a4_ok 4 rfl, rfl⟩
theorem eJ6_stringSize_0f7a4_7 : z_sd mJ6_stringSize_0f7a4 7 1 8 := ⟨Or.inl ⟨1, z_D DJ6_stringSize_0f7a4_ok 5 rfl, rfl, rfl⟩, by decide⟩
theorem eJ6_stringSize_0f7a4_8 : z_ld mJ6_stringSize_0f7a4 8 0 9 := Or.inl ⟨0, z_D DJ6_stringSize_0f7a4_ok 6 rfl, rfl, rfl⟩
theorem eJ6_stringSize_0f7a4_9 : z_at mJ6_stringSize_0f7a4 9 (.ineg) 1 10 := ⟨z_D DJ6_stringSize_0f7a4_ok 7 rfl, rfl⟩
theorem eJ6_stringSize_0f7a4_10 : z_sd mJ6_stringSize_0f7a4 10 0 11 := ⟨Or.inl ⟨0, z_D DJ6_stringSize_0f7a4_ok 8 rfl, rfl, rfl⟩, by decide⟩
theorem eJ6_stringSize_0f7a4_11 : z_co mJ6_stringSize_0f7a4 11 (-10) 13 := Or.inr (Or.inl ⟨_, z_D DJ6_stringSize_0f7a4_ok 9 rfl, by decide, rfl⟩)
theorem eJ6_stringSize_0f7a4_13 : z_sd mJ6_stringSize_0f7a4 13 2 14 := ⟨Or.inl ⟨2, z_D DJ6_stringSize_0f7a4_ok 10 rfl, rfl, rfl⟩, by decide⟩
theorem eJ6_stringSize_0f7a4_14 : z_co mJ6_stringSize_0f7a4 14 (1) 15 := Or.inl ⟨z_D DJ6_stringSize_0f7a4_ok 11 rfl, rfl⟩
theorem eJ6_stringSize_0f7a4_15 : z_sd mJ6_stringSize_0f7a4 15 3 16 := ⟨Or.inl ⟨3, z_D DJ6_stringSize_0f7a4_ok 12 rfl, rfl, rfl⟩, by decide⟩
theorem eJ6_stringSize_0f7a4_16 : z_ld mJ6_stringSize_0f7a4 16 3 17 := Or.inl ⟨3, z_D DJ6_stringSize_0f7a4_ok 13 rfl, rfl, rfl⟩
theorem eJ6_stringSize_0f7a4_17 : z_co mJ6_stringSize_0f7a4 17 (10) 19 := Or.inr (Or.inl ⟨_, z_D DJ6_stringSize_0f7a4_ok 14 rfl, by decide, rfl⟩)
theorem eJ6_stringSize_0f7a4_19 : z_br mJ6_stringSize_0f7a4 19 (.if_icmp .ge 23) (23) 22 42 := ⟨z_D DJ6_stringSize_0f7a4_ok 15 rfl, rfl, by decide⟩
theorem eJ6_stringSize_0f7a4_22 : z_ld mJ6_stringSize_0f7a4 22 0 23 := Or.inl ⟨0, z_D DJ6_stringSize_0f7a4_ok 16 rfl, rfl, rfl⟩
theorem eJ6_stringSize_0f7a4_23 : z_ld mJ6_stringSize_0f7a4 23 2 24 := Or.inl ⟨2, z_D DJ6_stringSize_0f7a4_ok 17 rfl, rfl, rfl⟩
theorem eJ6_stringSize_0f7a4_24 : z_br mJ6_stringSize_0f7a4 24 (.if_icmp .le 7) (7) 27 31 := ⟨z_D DJ6_stringSize_0f7a4_ok 18 rfl, rfl, by decide⟩
theorem eJ6_stringSize_0f7a4_27 : z_ld mJ6_stringSize_0f7a4 27 3 28 := Or.inl ⟨3, z_D DJ6_stringSize_0f7a4_ok 19 rfl, rfl, rfl⟩
theorem eJ6_stringSize_0f7a4_28 : z_ld mJ6_stringSize_0f7a4 28 1 29 := Or.inl ⟨1, z_D DJ6_stringSize_0f7a4_ok 20 rfl, rfl, rfl⟩
theorem eJ6_stringSize_0f7a4_29 : z_at mJ6_stringSize_0f7a4 29 (.iadd) 1 30 := ⟨z_D DJ6_stringSize_0f7a4_ok 21 rfl, rfl⟩
theorem eJ6_stringSize_0f7a4_30 : z_at mJ6_stringSize_0f7a4 30 (.ireturn) 1 31 := ⟨z_D DJ6_stringSize_0f7a4_ok 22 rfl, rfl⟩
theorem eJ6_stringSize_0f7a4_31 : z_co mJ6_stringSize_0f7a4 31 (10) 33 := Or.inr (Or.inl ⟨_, z_D DJ6_stringSize_0f7a4_ok 23 rfl, by decide, rfl⟩)
theorem eJ6_stringSize_0f7a4_33 : z_ld mJ6_stringSize_0f7a4 33 2 34 := Or.inl ⟨2, z_D DJ6_stringSize_0f7a4_ok 24 rfl, rfl, rfl⟩
theorem eJ6_stringSize_0f7a4_34 : z_at mJ6_stringSize_0f7a4 34 (.imul) 1 35 := ⟨z_D DJ6_stringSize_0f7a4_ok 25 rfl, rfl⟩
theorem eJ6_stringSize_0f7a4_35 : z_sd mJ6_stringSize_0f7a4 35 2 36 := ⟨Or.inl ⟨2, z_D DJ6_stringSize_0f7a4_ok 26 rfl, rfl, rfl⟩, by decide⟩
theorem eJ6_stringSize_0f7a4_36 : z_at mJ6_stringSize_0f7a4 36 (.iinc 3 1) 3 39 ∧ 3 < mJ6_stringSize_0f7a4.2.2.1 := ⟨⟨z_D DJ6_stringSize_0f7a4_ok 27 rfl, rfl⟩, by decide⟩
theorem eJ6_stringSize_0f7a4_39 : z_br mJ6_stringSize_0f7a4 39 (.goto (-23)) (-23) 42 16 := ⟨z_D DJ6_stringSize_0f7a4_ok 28 rfl, rfl, by decide⟩
theorem eJ6_stringSize_0f7a4_42 : z_co mJ6_stringSize_0f7a4 42 (10) 44 := Or.inr (Or.inl ⟨_, z_D DJ6_stringSize_0f7a4_ok 29 rfl, by decide, rfl⟩)
theorem eJ6_stringSize_0f7a4_44 : z_ld mJ6_stringSize_0f7a4 44 1 45 := Or.inl ⟨1, z_D DJ6_stringSize_0f7a4_ok 30 rfl, rfl, rfl⟩
theorem eJ6_stringSize_0f7a4_45 : z_at mJ6_stringSize_0f7a4 45 (.iadd) 1 46 := ⟨z_D DJ6_stringSize_0f7a4_ok 31 rfl, rfl⟩
theorem eJ6_stringSize_0f7a4_46 : z_at mJ6_stringSize_0f7a4 46 (.ireturn) 1 47 := ⟨z_D DJ6_stringSize_0f7a4_ok 32 rfl, rfl⟩
def DJ1_canEncode_fc78d : List (Nat × Instr × Nat) := [(0, .iload_n 0, 1), (1, .sipush 255, 3), (4, .if_icmp .gt 7, 3), (7, .iconst 1, 1), (8, .goto 4, 3), (11, .iconst 0, 1), (12, .ireturn, 1)]
theorem DJ1_canEncode_fc78d_ok : DJ1_canEncode_fc78d.all (fun q => decide (decode mJ1_canEncode_fc78d.2.1 q.1 = .ok q.2)) = true := by decide +kernel
theorem eJ1_canEncode_fc78d_0 : z_ld mJ1_canEncode_fc78d 0 0 1 := Or.inl ⟨0, z_D DJ1_canEncode_fc78d_ok 0 rfl, rfl, rfl⟩
theorem eJ1_canEncode_fc78d_1 : z_co mJ1_canEncode_fc78d 1 (255) 4 := Or.inr (Or.inr (Or.inl ⟨_, z_D DJ1_canEncode_fc78d_ok 1 rfl, by decide, rfl⟩))
theorem eJ1_canEncode_fc78d_4 : z_br mJ1_canEncode_fc78d 4 (.if_icmp .gt 7) (7) 7 11 := ⟨z_D DJ1_canEncode_fc78d_ok 2 rfl, rfl, by decide⟩
theorem eJ1_canEncode_fc78d_7 : z_co mJ1_canEncode_fc78d 7 (1) 8 := Or.inl ⟨z_D DJ1_canEncode_fc78d_ok 3 rfl, rfl⟩
theorem eJ1_canEncode_fc78d_8 : z_br mJ1_canEncode_fc78d 8 (.goto 4) (4) 11 12 := ⟨z_D DJ1_canEncode_fc78d_ok 4 rfl, rfl, by decide⟩
theorem eJ1_canEncode_fc78d_11 : z_co mJ1_canEncode_fc78d 11 (0) 12 := Or.inl ⟨z_D DJ1_canEncode_fc78d_ok 5 rfl, rfl⟩
theorem eJ1_canEncode_fc78d_12 : z_at mJ1_canEncode_fc78d 12 (.ireturn) 1 13 := ⟨z_D DJ1_canEncode_fc78d_ok 6 rfl, rfl⟩
def DJ7_copyOf_9075b : List (Nat × Instr × Nat) := [(0, .iload_n 1, 1), (1, .aload_n 0, 1), (2, .arraylength, 1), (3, .if_icmp .ne 11, 3), (6, .aload_n 0, 1), (7, .invokevirtual 310, 3), (10, .checkcast 311, 3), (13, .areturn, 1), (14, .iload_n 1, 1), (15, .newarray .byte, 2), (17, .astore_n 2, 1), (18, .aload_n 0, 1), (19, .iconst 0, 1), (20, .aload_n 2, 1), (21, .iconst 0, 1), (22, .aload_n 0, 1), (23, .arraylength, 1), (24, .iload_n 1, 1), (25, .invokestatic 304, 3), (28, .invokestatic 150, 3), (31, .aload_n 2, 1), (32, .areturn, 1)]
theorem DJ7_copyOf_9075b_ok : DJ7_copyOf_9075b.all (fun q => decide (decode mJ7_copyOf_9075b.2.1 q.1 = .ok q.2)) = true := by decide +kernel
theorem eJ7_copyOf_9075b_0 : z_ld mJ7_copyOf_9075b 0 1 1 := Or.inl ⟨1, z_D DJ7_copyOf_9075b_ok 0 rfl, rfl, rfl⟩
theorem eJ7_copyOf_9075b_1 : z_ad mJ7_copyOf_9075b 1 0 2 := Or.inl ⟨0, z_D DJ7_copyOf_9075b_ok 1 rfl, rfl, rfl⟩
theorem eJ7_copyOf_9075b_2 : z_at mJ7_copyOf_9075b 2 (.arraylength) 1 3 := ⟨z_D DJ7_copyOf_9075b_ok 2 rfl, rfl⟩
theorem eJ7_copyOf_9075b_3 : z_br mJ7_copyOf_9075b 3 (.if_icmp .ne 11) (11) 6 14 := ⟨z_D DJ7_copyOf_9075b_ok 3 rfl, rfl, by decide⟩
theorem eJ7_copyOf_9075b_6 : z_ad mJ7_copyOf_9075b 6 0 7 := Or.inl ⟨0, z_D DJ7_copyOf_9075b_ok 4 rfl, rfl, rfl⟩
theorem eJ7_copyOf_9075b_7 : z_at mJ7_copyOf_9075b 7 (.invokevirtual 310) 3 10 := ⟨z_D DJ7_copyOf_9075b_ok 5 rfl, rfl⟩
theorem eJ7_copyOf_9075b_10 : z_at mJ7_copyOf_9075b 10 (.checkcast 311) 3 13 ∧ Cond.classLink mJ7_copyOf_9075b.1.cls 311 "[B" ∈ lw_tbl := ⟨⟨z_D DJ7_copyOf_9075b_ok 6 rfl, rfl⟩, wB3_61⟩
theorem eJ7_copyOf_9075b_13 : z_at mJ7_copyOf_9075b 13 (.areturn) 1 14 := ⟨z_D DJ7_copyOf_9075b_ok 7 rfl, rfl⟩
theorem eJ7_copyOf_9075b_14 : z_ld mJ7_copyOf_9075b 14 1 15 := Or.inl ⟨1, z_D DJ7_copyOf_9075b_ok 8 rfl, rfl, rfl⟩
theorem eJ7_copyOf_9075b_15 : z_at mJ7_copyOf_9075b 15 (.newarray .byte) 2 17 := ⟨z_D DJ7_copyOf_9075b_ok 9 rfl, rfl⟩
theorem eJ7_copyOf_9075b_17 : z_asd mJ7_copyOf_9075b 17 2 18 := ⟨Or.inl ⟨2, z_D DJ7_copyOf_9075b_ok 10 rfl, rfl, rfl⟩, by decide⟩
theorem eJ7_copyOf_9075b_18 : z_ad mJ7_copyOf_9075b 18 0 19 := Or.inl ⟨0, z_D DJ7_copyOf_9075b_ok 11 rfl, rfl, rfl⟩
theorem eJ7_copyOf_9075b_19 : z_co mJ7_copyOf_9075b 19 (0) 20 := Or.inl ⟨z_D DJ7_copyOf_9075b_ok 12 rfl, rfl⟩
theorem eJ7_copyOf_9075b_20 : z_ad mJ7_copyOf_9075b 20 2 21 := Or.inl ⟨2, z_D DJ7_copyOf_9075b_ok 13 rfl, rfl, rfl⟩
theorem eJ7_copyOf_9075b_21 : z_co mJ7_copyOf_9075b 21 (0) 22 := Or.inl ⟨z_D DJ7_copyOf_9075b_ok 14 rfl, rfl⟩
theorem eJ7_copyOf_9075b_22 : z_ad mJ7_copyOf_9075b 22 0 23 := Or.inl ⟨0, z_D DJ7_copyOf_9075b_ok 15 rfl, rfl, rfl⟩
theorem eJ7_copyOf_9075b_23 : z_at mJ7_copyOf_9075b 23 (.arraylength) 1 24 := ⟨z_D DJ7_copyOf_9075b_ok 16 rfl, rfl⟩
theorem eJ7_copyOf_9075b_24 : z_ld mJ7_copyOf_9075b 24 1 25 := Or.inl ⟨1, z_D DJ7_copyOf_9075b_ok 17 rfl, rfl, rfl⟩
theorem eJ7_copyOf_9075b_25 : z_at mJ7_copyOf_9075b 25 (.invokestatic 304) 3 28 ∧ z_lk mJ7_copyOf_9075b.1.cls 304 mJ9_min_7cf53.1 ∧ z_mt mJ9_min_7cf53 2 ∧ Cond.static mJ9_min_7cf53.1 ∈ lw_tbl := ⟨⟨z_D DJ7_copyOf_9075b_ok 18 rfl, rfl⟩, Or.inl w3_62, tJ9_min_7cf53, sJ9_min_7cf53⟩
theorem eJ7_copyOf_9075b_28 : z_at mJ7_copyOf_9075b 28 (.invokestatic 150) 3 31 := ⟨z_D DJ7_copyOf_9075b_ok 19 rfl, rfl⟩
theorem eJ7_copyOf_9075b_31 : z_ad mJ7_copyOf_9075b 31 2 32 := Or.inl ⟨2, z_D DJ7_copyOf_9075b_ok 20 rfl, rfl, rfl⟩
theorem eJ7_copyOf_9075b_32 : z_at mJ7_copyOf_9075b 32 (.areturn) 1 33 := ⟨z_D DJ7_copyOf_9075b_ok 21 rfl, rfl⟩
def DJ7_checkLength_df160 : List (Nat × Instr × Nat) := [(0, .iload_n 1, 1), (1, .iload_n 0, 1), (2, .if_icmp .ge 35, 3), (5, .new 43, 3), (8, .dup, 1), (9, .new 45, 3), (12, .dup, 1), (13, .invokespecial 47, 3), (16, .iload_n 0, 1), (17, .invokevirtual 54, 3), (20, .ldc_w 337, 3), (23, .invokevirtual 50, 3), (26, .iload_n 1, 1), (27, .invokevirtual 54, 3), (30, .invokevirtual 61, 3), (33, .invokespecial 65, 3), (36, .athrow, 1), (37, .return_, 1)]
theorem DJ7_checkLength_df160_ok : DJ7_checkLength_df160.all (fun q => decide (decode mJ7_checkLength_df160.2.1 q.1 = .ok q.2)) = true := by decide +kernel
theorem eJ7_checkLength_df160_0 : z_ld mJ7_checkLength_df160 0 1 1 := Or.inl ⟨1, z_D DJ7_checkLength_df160_ok 0 rfl, rfl, rfl⟩
theorem eJ7_checkLength_df160_1 : z_ld mJ7_checkLength_df160 1 0 2 := Or.inl ⟨0, z_D DJ7_checkLength_df160_ok 1 rfl, rfl, rfl⟩
theorem eJ7_checkLength_df160_2 : z_br mJ7_checkLength_df160 2 (.if_icmp .ge 35) (35) 5 37 := ⟨z_D DJ7_checkLength_df160_ok 2 rfl, rfl, by decide⟩
theorem eJ7_checkLength_df160_5 : z_at mJ7_checkLength_df160 5 (.new 43) 3 8 := ⟨z_D DJ7_checkLength_df160_ok 3 rfl, rfl⟩
theorem eJ7_checkLength_df160_8 : z_at mJ7_checkLength_df160 8 (.dup) 1 9 := ⟨z_D DJ7_checkLength_df160_ok 4 rfl, rfl⟩
theorem eJ7_checkLength_df160_9 : z_at mJ7_checkLength_df160 9 (.new 45) 3 12 := ⟨z_D DJ7_checkLength_df160_ok 5 rfl, rfl⟩
theorem eJ7_checkLength_df160_12 : z_at mJ7_checkLength_df160 12 (.dup) 1 13 := ⟨z_D DJ7_checkLength_df160_ok 6 rfl, rfl⟩
theorem eJ7_checkLength_df160_13 : z_at mJ7_checkLength_df160 13 (.invokespecial 47) 3 16 := ⟨z_D DJ7_checkLength_df160_ok 7 rfl, rfl⟩
theorem eJ7_checkLength_df160_16 : z_ld mJ7_checkLength_df160 16 0 17 := Or.inl ⟨0, z_D DJ7_checkLength_df160_ok 8 rfl, rfl, rfl⟩
theorem eJ7_checkLength_df160_17 : z_at mJ7_checkLength_df160 17 (.invokevirtual 54) 3 20 := ⟨z_D DJ7_checkLength_df160_ok 9 rfl, rfl⟩
theorem eJ7_checkLength_df160_20 : z_at mJ7_checkLength_df160 20 (.ldc_w 337) 3 23 := ⟨z_D DJ7_checkLength_df160_ok 10 rfl, rfl⟩
theorem eJ7_checkLength_df160_23 : z_at mJ7_checkLength_df160 23 (.invokevirtual 50) 3 26 := ⟨z_D DJ7_checkLength_df160_ok 11 rfl, rfl⟩
theorem eJ7_checkLength_df160_26 : z_ld mJ7_checkLength_df160 26 1 27 := Or.inl ⟨1, z_D DJ7_checkLength_df160_ok 12 rfl, rfl, rfl⟩
theorem eJ7_checkLength_df160_27 : z_at mJ7_checkLength_df160 27 (.invokevirtual 54) 3 30 := ⟨z_D DJ7_checkLength_df160_ok 13 rfl, rfl⟩
theorem eJ7_checkLength_df160_30 : z_at mJ7_checkLength_df160 30 (.invokevirtual 61) 3 33 := ⟨z_D DJ7_checkLength_df160_ok 14 rfl, rfl⟩
theorem eJ7_checkLength_df160_33 : z_at mJ7_checkLength_df160 33 (.invokespecial 65) 3 36 := ⟨z_D DJ7_checkLength_df160_ok 15 rfl, rfl⟩
theorem eJ7_checkLength_df160_36 : z_at mJ7_checkLength_df160 36 (.athrow) 1 37 := ⟨z_D DJ7_checkLength_df160_ok 16 rfl, rfl⟩
theorem eJ7_checkLength_df160_37 : z_at mJ7_checkLength_df160 37 (.return_) 1 38 := ⟨z_D DJ7_checkLength_df160_ok 17 rfl, rfl⟩
def DJ7_copyOfRange_39247 : List (Nat × Instr × Nat) := [(0, .iload_n 1, 1), (1, .ifCond .ne 9, 3), (4, .iload_n 2, 1), (5, .aload_n 0, 1), (6, .arraylength, 1), (7, .if_icmp .eq 10, 3), (10, .aload_n 0, 1), (11, .iload_n 1, 1), (12, .iload_n 2, 1), (13, .invokestatic 339, 3), (16, .areturn, 1), (17, .aload_n 0, 1), (18, .invokevirtual 310, 3), (21, .checkcast 311, 3), (24, .areturn, 1)]
theorem DJ7_copyOfRange_39247_ok : DJ7_copyOfRange_39247.all (fun q => decide (decode mJ7_copyOfRange_39247.2.1 q.1 = .ok q.2)) = true := by decide +kernel
theorem eJ7_copyOfRange_39247_0 : z_ld mJ7_copyOfRange_39247 0 1 1 := Or.inl ⟨1, z_D DJ7_copyOfRange_39247_ok 0 rfl, rfl, rfl⟩
theorem eJ7_copyOfRange_39247_1 : z_br mJ7_copyOfRange_39247 1 (.ifCond .ne 9) (9) 4 10 := ⟨z_D DJ7_copyOfRange_39247_ok 1 rfl, rfl, by decide⟩
theorem eJ7_copyOfRange_39247_4 : z_ld mJ7_copyOfRange_39247 4 2 5 := Or.inl ⟨2, z_D DJ7_copyOfRange_39247_ok 2 rfl, rfl, rfl⟩
theorem eJ7_copyOfRange_39247_5 : z_ad mJ7_copyOfRange_39247 5 0 6 := Or.inl ⟨0, z_D DJ7_copyOfRange_39247_ok 3 rfl, rfl, rfl⟩
theorem eJ7_copyOfRange_39247_6 : z_at mJ7_copyOfRange_39247 6 (.arraylength) 1 7 := ⟨z_D DJ7_copyOfRange_39247_ok 4 rfl, rfl⟩
theorem eJ7_copyOfRange_39247_7 : z_br mJ7_copyOfRange_39247 7 (.if_icmp .eq 10) (10) 10 17 := ⟨z_D DJ7_copyOfRange_39247_ok 5 rfl, rfl, by decide⟩
theorem eJ7_copyOfRange_39247_10 : z_ad mJ7_copyOfRange_39247 10 0 11 := Or.inl ⟨0, z_D DJ7_copyOfRange_39247_ok 6 rfl, rfl, rfl⟩
theorem eJ7_copyOfRange_39247_11 : z_ld mJ7_copyOfRange_39247 11 1 12 := Or.inl ⟨1, z_D DJ7_copyOfRange_39247_ok 7 rfl, rfl, rfl⟩
theorem eJ7_copyOfRange_39247_12 : z_ld mJ7_copyOfRange_39247 12 2 13 := Or.inl ⟨2, z_D DJ7_copyOfRange_39247_ok 8 rfl, rfl, rfl⟩
theorem eJ7_copyOfRange_39247_13 : z_at mJ7_copyOfRange_39247 13 (.invokestatic 339) 3 16 ∧ z_lk mJ7_copyOfRange_39247.1.cls 339 mJ7_copyOfRangeByte_39247.1 ∧ z_mt mJ7_copyOfRangeByte_39247 3 ∧ Cond.static mJ7_copyOfRangeByte_39247.1 ∈ lw_tbl := ⟨⟨z_D DJ7_copyOfRange_39247_ok 9 rfl, rfl⟩, Or.inl wB3_220, tJ7_copyOfRangeByte_39247, sJ7_copyOfRangeByte_39247⟩
theorem eJ7_copyOfRange_39247_16 : z_at mJ7_copyOfRange_39247 16 (.areturn) 1 17 := ⟨z_D DJ7_copyOfRange_39247_ok 10 rfl, rfl⟩
theorem eJ7_copyOfRange_39247_17 : z_ad mJ7_copyOfRange_39247 17 0 18 := Or.inl ⟨0, z_D DJ7_copyOfRange_39247_ok 11 rfl, rfl, rfl⟩
theorem eJ7_copyOfRange_39247_18 : z_at mJ7_copyOfRange_39247 18 (.invokevirtual 310) 3 21 := ⟨z_D DJ7_copyOfRange_39247_ok 12 rfl, rfl⟩
theorem eJ7_copyOfRange_39247_21 : z_at mJ7_copyOfRange_39247 21 (.checkcast 311) 3 24 ∧ Cond.classLink mJ7_copyOfRange_39247.1.cls 311 "[B" ∈ lw_tbl := ⟨⟨z_D DJ7_copyOfRange_39247_ok 13 rfl, rfl⟩, wB3_61⟩
theorem eJ7_copyOfRange_39247_24 : z_at mJ7_copyOfRange_39247 24 (.areturn) 1 25 := ⟨z_D DJ7_copyOfRange_39247_ok 14 rfl, rfl⟩
def DJ7_copyOfRangeByte_39247 : List (Nat × Instr × Nat) := [(0, .iload_n 1, 1), (1, .iload_n 2, 1), (2, .invokestatic 343, 3), (5, .iload_n 2, 1), (6, .iload_n 1, 1), (7, .isub, 1), (8, .istore_n 3, 1), (9, .iload_n 3, 1), (10, .newarray .byte, 2), (12, .astore 4, 2), (14, .aload_n 0, 1), (15, .iload_n 1, 1), (16, .aload 4, 2), (18, .iconst 0, 1), (19, .aload_n 0, 1), (20, .arraylength, 1), (21, .iload_n 1, 1), (22, .isub, 1), (23, .iload_n 3, 1), (24, .invokestatic 304, 3), (27, .invokestatic 150, 3), (30, .aload 4, 2), (32, .areturn, 1)]
theorem DJ7_copyOfRangeByte_39247_ok : DJ7_copyOfRangeByte_39247.all (fun q => decide (decode mJ7_copyOfRangeByte_39247.2.1 q.1 = .ok q.2)) = true := by decide +kernel
theorem eJ7_copyOfRangeByte_39247_0 : z_ld mJ7_copyOfRangeByte_39247 0 1 1 := Or.inl ⟨1, z_D DJ7_copyOfRangeByte_39247_ok 0 rfl, rfl, rfl⟩
theorem eJ7_copyOfRangeByte_39247_1 : z_ld mJ7_copyOfRangeByte_39247 1 2 2 := Or.inl ⟨2, z_D DJ7_copyOfRangeByte_39247_ok 1 rfl, rfl, rfl⟩
theorem eJ7_copyOfRangeByte_39247_2 : z_at mJ7_copyOfRangeByte_39247 2 (.invokestatic 343) 3 5 ∧ z_lk mJ7_copyOfRangeByte_39247.1.cls 343 mJ7_checkLength_df160.1 ∧ z_mt mJ7_checkLength_df160 2 ∧ Cond.static mJ7_checkLength_df160.1 ∈ lw_tbl := ⟨⟨z_D DJ7_copyOfRangeByte_39247_ok 2 rfl, rfl⟩, Or.inl wB3_223, tJ7_checkLength_df160, sJ7_checkLength_df160⟩
theorem eJ7_copyOfRangeByte_39247_5 : z_ld mJ7_copyOfRangeByte_39247 5 2 6 := Or.inl ⟨2, z_D DJ7_copyOfRangeByte_39247_ok 3 rfl, rfl, rfl⟩
theorem eJ7_copyOfRangeByte_39247_6 : z_ld mJ7_copyOfRangeByte_39247 6 1 7 := Or.inl ⟨1, z_D DJ7_copyOfRangeByte_39247_ok 4 rfl, rfl, rfl⟩
theorem eJ7_copyOfRangeByte_39247_7 : z_at mJ7_copyOfRangeByte_39247 7 (.isub) 1 8 := ⟨z_D DJ7_copyOfRangeByte_39247_ok 5 rfl, rfl⟩
theorem eJ7_copyOfRangeByte_39247_8 : z_sd mJ7_copyOfRangeByte_39247 8 3 9 := ⟨Or.inl ⟨3, z_D DJ7_copyOfRangeByte_39247_ok 6 rfl, rfl, rfl⟩, by decide⟩
theorem eJ7_copyOfRangeByte_39247_9 : z_ld mJ7_copyOfRangeByte_39247 9 3 10 := Or.inl ⟨3, z_D DJ7_copyOfRangeByte_39247_ok 7 rfl, rfl, rfl⟩
theorem eJ7_copyOfRangeByte_39247_10 : z_at mJ7_copyOfRangeByte_39247 10 (.newarray .byte) 2 12 := ⟨z_D DJ7_copyOfRangeByte_39247_ok 8 rfl, rfl⟩
theorem eJ7_copyOfRangeByte_39247_12 : z_asd mJ7_copyOfRangeByte_39247 12 4 14 := ⟨Or.inr ⟨z_D DJ7_copyOfRangeByte_39247_ok 9 rfl, rfl⟩, by decide⟩
theorem eJ7_copyOfRangeByte_39247_14 : z_ad mJ7_copyOfRangeByte_39247 14 0 15 := Or.inl ⟨0, z_D DJ7_copyOfRangeByte_39247_ok 10 rfl, rfl, rfl⟩
theorem eJ7_copyOfRangeByte_39247_15 : z_ld mJ7_copyOfRangeByte_39247 15 1 16 := Or.inl ⟨1, z_D DJ7_copyOfRangeByte_39247_ok 11 rfl, rfl, rfl⟩
theorem eJ7_copyOfRangeByte_39247_16 : z_ad mJ7_copyOfRangeByte_39247 16 4 18 := Or.inr ⟨z_D DJ7_copyOfRangeByte_39247_ok 12 rfl, rfl⟩
theorem eJ7_copyOfRangeByte_39247_18 : z_co mJ7_copyOfRangeByte_39247 18 (0) 19 := Or.inl ⟨z_D DJ7_copyOfRangeByte_39247_ok 13 rfl, rfl⟩
theorem eJ7_copyOfRangeByte_39247_19 : z_ad mJ7_copyOfRangeByte_39247 19 0 20 := Or.inl ⟨0, z_D DJ7_copyOfRangeByte_39247_ok 14 rfl, rfl, rfl⟩
theorem eJ7_copyOfRangeByte_39247_20 : z_at mJ7_copyOfRangeByte_39247 20 (.arraylength) 1 21 := ⟨z_D DJ7_copyOfRangeByte_39247_ok 15 rfl, rfl⟩
theorem eJ7_copyOfRangeByte_39247_21 : z_ld mJ7_copyOfRangeByte_39247 21 1 22 := Or.inl ⟨1, z_D DJ7_copyOfRangeByte_39247_ok 16 rfl, rfl, rfl⟩
theorem eJ7_copyOfRangeByte_39247_22 : z_at mJ7_copyOfRangeByte_39247 22 (.isub) 1 23 := ⟨z_D DJ7_copyOfRangeByte_39247_ok 17 rfl, rfl⟩
theorem eJ7_copyOfRangeByte_39247_23 : z_ld mJ7_copyOfRangeByte_39247 23 3 24 := Or.inl ⟨3, z_D DJ7_copyOfRangeByte_39247_ok 18 rfl, rfl, rfl⟩
theorem eJ7_copyOfRangeByte_39247_24 : z_at mJ7_copyOfRangeByte_39247 24 (.invokestatic 304) 3 27 ∧ z_lk mJ7_copyOfRangeByte_39247.1.cls 304 mJ9_min_7cf53.1 ∧ z_mt mJ9_min_7cf53 2 ∧ Cond.static mJ9_min_7cf53.1 ∈ lw_tbl := ⟨⟨z_D DJ7_copyOfRangeByte_39247_ok 19 rfl, rfl⟩, Or.inl w3_62, tJ9_min_7cf53, sJ9_min_7cf53⟩
theorem eJ7_copyOfRangeByte_39247_27 : z_at mJ7_copyOfRangeByte_39247 27 (.invokestatic 150) 3 30 := ⟨z_D DJ7_copyOfRangeByte_39247_ok 20 rfl, rfl⟩
theorem eJ7_copyOfRangeByte_39247_30 : z_ad mJ7_copyOfRangeByte_39247 30 4 32 := Or.inr ⟨z_D DJ7_copyOfRangeByte_39247_ok 21 rfl, rfl⟩
theorem eJ7_copyOfRangeByte_39247_32 : z_at mJ7_copyOfRangeByte_39247 32 (.areturn) 1 33 := ⟨z_D DJ7_copyOfRangeByte_39247_ok 22 rfl, rfl⟩
