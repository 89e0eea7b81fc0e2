/-! WORDS of the tables by their places; classes, fields, methods (laid by wip/p53/gen/gen_names.py). -/
theorem z_inS {w : Cond} (h : w ∈ k2_sels lw_privs) : w ∈ lw_tbl := List.mem_append_left _ h
theorem z_inT {w : Cond} (h : w ∈ tables_1) : w ∈ lw_tbl := List.mem_append_right _ h
theorem z_in1 {w : Cond} (h : w ∈ tables_1_1) : w ∈ lw_tbl := z_inT (List.mem_append_left _ h)
theorem z_in2 {w : Cond} (h : w ∈ tables_1_2) : w ∈ lw_tbl := z_inT (List.mem_append_right _ (List.mem_append_left _ h))
theorem z_in3 {w : Cond} (h : w ∈ tables_1_3) : w ∈ lw_tbl := z_inT (List.mem_append_right _ (List.mem_append_right _ (List.mem_append_left _ h)))
theorem z_in4 {w : Cond} (h : w ∈ tables_1_4) : w ∈ lw_tbl := z_inT (List.mem_append_right _ (List.mem_append_right _ (List.mem_append_right _ (List.mem_append_left _ h))))
theorem z_in5 {w : Cond} (h : w ∈ tables_1_5) : w ∈ lw_tbl := z_inT (List.mem_append_right _ (List.mem_append_right _ (List.mem_append_right _ (List.mem_append_right _ (List.mem_append_left _ h)))))
theorem z_in6 {w : Cond} (h : w ∈ tables_1_6) : w ∈ lw_tbl := z_inT (List.mem_append_right _ (List.mem_append_right _ (List.mem_append_right _ (List.mem_append_right _ (List.mem_append_right _ (List.mem_append_left _ h))))))
theorem z_in7 {w : Cond} (h : w ∈ tables_1_7) : w ∈ lw_tbl := z_inT (List.mem_append_right _ (List.mem_append_right _ (List.mem_append_right _ (List.mem_append_right _ (List.mem_append_right _ (List.mem_append_right _ h))))))
theorem z_D {cc : ByteArray} {L : List (Nat × Instr × Nat)} (h : L.all (fun q => decide (decode cc q.1 = .ok q.2)) = true) (k : Nat) {pc len : Nat} {i : Instr} (hk : L[k]? = some (pc, i, len)) : decode cc pc = .ok (i, len) := by
  have := List.all_eq_true.mp h _ (List.mem_of_getElem? hk)
  exact of_decide_eq_true this
theorem z_all {L : List Cond} (h : L.all (fun w => decide (w ∈ lw_tbl) && z_gw w) = true) : ∀ w ∈ L, w ∈ lw_tbl ∧ z_gw w = true := by
  intro w hw
  have h1 := List.all_eq_true.mp h w hw
  rw [Bool.and_eq_true] at h1
  exact ⟨of_decide_eq_true h1.1, h1.2⟩
theorem z_dv {N : Nat} {ty : Nat → FieldType} {fs : List Value} (h : (List.range N).all (fun j => decide (defaultValue (ty j) = vp_V fs j)) = true) : ∀ j, j < N → defaultValue (ty j) = vp_V fs j := fun j hj => of_decide_eq_true (List.all_eq_true.mp h j (List.mem_range.mpr hj))
theorem z_lays {C : String} {T : u_T} {N : Nat} (l : List { w : Cond // w ∈ lw_tbl }) (h : u_ws C T N = l.map (·.1)) : ∀ w ∈ u_ws C T N, w ∈ lw_tbl := by
  intro w hw
  rw [h] at hw
  obtain ⟨q, -, rfl⟩ := List.mem_map.mp hw
  exact q.2
/-- a final field of a nest mate, read -/
def z_fdN (own : String) (ix ci kf : Nat) : Prop := ∃ (C : String) (T : u_T) (N : Nat) (ty : Nat → FieldType) (ref : String), z_cls ci C T N ty ∧ kf < N ∧ (∃ host : String, Cond.fieldLinkNest own ix ref (T kf).2.1 (T kf).2.2.1 host ∈ lw_tbl ∧ (ref = (T kf).1 ∨ Cond.sameField ref (T kf).1 (T kf).2.1 (T kf).2.2.1 ∈ lw_tbl))
theorem z_getfieldN {Y : z_Y} {d : Nat} {M : z_M} {pc pc' : Nat} {ls : List (Nat × Value)} {st : List Value} {h : z_H} {k n : Nat} {a ci ix kf : Nat} {fs : List Value} {v : Value} (hY : z_ok Y d M) (dd : z_at M pc (.getfield ix) 3 pc' ∧ z_fdN M.1.cls ix ci kf) (ha : h a = some (z_ob ci fs)) (hv : fs[kf]? = some v) (kk : z_W Y pc' ls (v :: st) h k n) : z_W Y pc ls (.ref a :: st) h k n := by
  obtain ⟨G, ⟨p, e, R, s, m, args, below, meth, c⟩, nL, mc, ms, φ, ψ⟩ := Y
  obtain ⟨hG, hx, hb, -, -, hown, -, -, hW, -⟩ := hY
  obtain ⟨⟨d1, rfl⟩, C, T, N, ty, ref, ⟨hc, hws, -, -⟩, hk, host, hl, hs⟩ := dd
  intro H locs lsA hR hL hlv
  have kk := kk H locs lsA hR hL hlv
  exact va_getN hx hb (z_lay (args := args) hG hW hws) (fun w hw => hw) hown (z_K hG hW) (hR.at ha) 0 rfl hc kf hk (z_wdF hG hW hl) (z_same hG hW hs) hv d1 kk
def z_tw (M : z_M) (pc : Nat) (cls : String) : Prop := (∃ (ik is ic : Nat) (text : String) (names : List String), z_th M.1.cls ik ic cls names ∧ Cond.stringRef M.1.cls is text ∈ lw_tbl ∧
  (z_at M pc (.new ik) 3 (pc + 3) ∧ z_at M (pc + 3) .dup 1 (pc + 4)) ∧ ((z_at M (pc + 4) (.ldc is) 2 (pc + 6) ∧ z_at M (pc + 6) (.invokespecial ic) 3 (pc + 9) ∧ z_at M (pc + 9) .athrow 1 (pc + 10)) ∨ (z_at M (pc + 4) (.ldc_w is) 3 (pc + 7) ∧ z_at M (pc + 7) (.invokespecial ic) 3 (pc + 10) ∧ z_at M (pc + 10) .athrow 1 (pc + 11)))) ∨
  (∃ (ik is ic : Nat) (text : String) (names : List String), z_thX M.1.cls ik ic cls names ∧ Cond.stringRef M.1.cls is text ∈ lw_tbl ∧
  (z_at M pc (.new ik) 3 (pc + 3) ∧ z_at M (pc + 3) .dup 1 (pc + 4)) ∧ ((z_at M (pc + 4) (.ldc is) 2 (pc + 6) ∧ z_at M (pc + 6) (.invokespecial ic) 3 (pc + 9) ∧ z_at M (pc + 9) .athrow 1 (pc + 10)) ∨ (z_at M (pc + 4) (.ldc_w is) 3 (pc + 7) ∧ z_at M (pc + 7) (.invokespecial ic) 3 (pc + 10) ∧ z_at M (pc + 10) .athrow 1 (pc + 11))))
theorem z_thr {Y : z_Y} {d : Nat} {M : z_M} {pc : Nat} {ls : List (Nat × Value)} {h : z_H} {k n : Nat} {cls : String} (hY : z_ok Y d M) (dd : z_tw M pc cls) (hk : k + 1 ≤ z_mc Y ∧ n + 6 ≤ z_ms Y) (hψ : z_ψ Y cls h) : z_W Y pc ls [] h k n := by
  rcases dd with ⟨ik, is, ic, text, names, h1, h2, h3⟩ | ⟨ik, is, ic, text, names, h1, h2, h3⟩
  · exact z_throw hY h1 h2 h3 rfl hk hψ
  · exact z_throw2 hY h1 h2 h3 rfl hk hψ
/-- what the tables say of a method with a table of handlers -/
def z_mtH (M : z_M) (hh : List (Nat × Nat × Nat × Nat)) (n : Nat) : Prop := Cond.codeWith M.1 M.2.1 M.2.2.1 M.2.2.2 hh ∈ lw_tbl ∧ Cond.initialized M.1.cls ∈ lw_tbl ∧ (M.1.cls ≠ "java/lang/invoke/MethodHandle" ∧ M.1.cls ≠ "java/lang/invoke/VarHandle") ∧ (parseMethodDescriptor M.1.desc).map (fun d => d.parameters.length) = some n ∧ M.2.2.1 ≤ 31
theorem w1_7 : (Jvm.Cond.initialized "java/util/ArrayList") ∈ lw_tbl := z_in1 (List.mem_of_getElem? (i := 7) rfl)
theorem w1_230 : (Jvm.Cond.code ({ cls := "java/util/ArrayList", name := "<init>", desc := "()V" } : Jvm.MethodName) prog_36_method_2_code (1 : Nat) (Option.none : Option Jvm.ClassFile.FieldType)) ∈ lw_tbl := z_in1 (List.mem_of_getElem? (i := 230) rfl)
theorem w1_229 : (Jvm.Cond.instanceMethod ({ cls := "java/util/ArrayList", name := "<init>", desc := "()V" } : Jvm.MethodName)) ∈ lw_tbl := z_in1 (List.mem_of_getElem? (i := 229) rfl)
theorem w1_6 : (Jvm.Cond.initialized "java/util/AbstractList") ∈ lw_tbl := z_in1 (List.mem_of_getElem? (i := 6) rfl)
theorem w1_233 : (Jvm.Cond.code ({ cls := "java/util/AbstractList", name := "<init>", desc := "()V" } : Jvm.MethodName) prog_35_method_1_code (1 : Nat) (Option.none : Option Jvm.ClassFile.FieldType)) ∈ lw_tbl := z_in1 (List.mem_of_getElem? (i := 233) rfl)
theorem w1_232 : (Jvm.Cond.instanceMethod ({ cls := "java/util/AbstractList", name := "<init>", desc := "()V" } : Jvm.MethodName)) ∈ lw_tbl := z_in1 (List.mem_of_getElem? (i := 232) rfl)
theorem w1_231 : (Jvm.Cond.methodLink "java/util/ArrayList" (1 : Nat) ({ cls := "java/util/AbstractList", name := "<init>", desc := "()V" } : Jvm.MethodName)) ∈ lw_tbl := z_in1 (List.mem_of_getElem? (i := 231) rfl)
theorem w2_0 : (Jvm.Cond.fieldLink "java/util/ArrayList" (9 : Nat) "java/util/ArrayList" "elementData" "[Ljava/lang/Object;") ∈ lw_tbl := z_in2 (List.mem_of_getElem? (i := 0) rfl)
theorem w4_183 : (Jvm.Cond.code ({ cls := "java/util/ArrayList", name := "add", desc := "(ILjava/lang/Object;)V" } : Jvm.MethodName) prog_36_method_26_code (5 : Nat) (Option.none : Option Jvm.ClassFile.FieldType)) ∈ lw_tbl := z_in4 (List.mem_of_getElem? (i := 183) rfl)
theorem w4_181 : (Jvm.Cond.instanceMethod ({ cls := "java/util/ArrayList", name := "add", desc := "(ILjava/lang/Object;)V" } : Jvm.MethodName)) ∈ lw_tbl := z_in4 (List.mem_of_getElem? (i := 181) rfl)
theorem w4_182 : (Jvm.Cond.selects "java/util/ArrayList" ({ cls := "java/util/ArrayList", name := "add", desc := "(ILjava/lang/Object;)V" } : Jvm.MethodName) ({ cls := "java/util/ArrayList", name := "add", desc := "(ILjava/lang/Object;)V" } : Jvm.MethodName)) ∈ lw_tbl := z_in4 (List.mem_of_getElem? (i := 182) rfl)
theorem w4_187 : (Jvm.Cond.code ({ cls := "java/util/ArrayList", name := "rangeCheckForAdd", desc := "(I)V" } : Jvm.MethodName) prog_36_method_45_code (2 : Nat) (Option.none : Option Jvm.ClassFile.FieldType)) ∈ lw_tbl := z_in4 (List.mem_of_getElem? (i := 187) rfl)
theorem w4_186 : (Jvm.Cond.instanceMethod ({ cls := "java/util/ArrayList", name := "rangeCheckForAdd", desc := "(I)V" } : Jvm.MethodName)) ∈ lw_tbl := z_in4 (List.mem_of_getElem? (i := 186) rfl)
theorem wS40 : (Cond.selects "java/util/ArrayList" ⟨"java/util/ArrayList", "rangeCheckForAdd", "(I)V"⟩ ⟨"java/util/ArrayList", "rangeCheckForAdd", "(I)V"⟩ : Cond) ∈ lw_tbl := z_inS (List.mem_of_getElem? (i := 40) rfl)
theorem w4_184 : (Jvm.Cond.methodLink "java/util/ArrayList" (135 : Nat) ({ cls := "java/util/ArrayList", name := "rangeCheckForAdd", desc := "(I)V" } : Jvm.MethodName)) ∈ lw_tbl := z_in4 (List.mem_of_getElem? (i := 184) rfl)
theorem w2_4 : (Jvm.Cond.sameField "java/util/ArrayList" "java/util/AbstractList" "modCount" "I") ∈ lw_tbl := z_in2 (List.mem_of_getElem? (i := 4) rfl)
theorem w2_3 : (Jvm.Cond.fieldLink "java/util/ArrayList" (63 : Nat) "java/util/ArrayList" "modCount" "I") ∈ lw_tbl := z_in2 (List.mem_of_getElem? (i := 3) rfl)
theorem w2_1 : (Jvm.Cond.fieldLink "java/util/ArrayList" (48 : Nat) "java/util/ArrayList" "size" "I") ∈ lw_tbl := z_in2 (List.mem_of_getElem? (i := 1) rfl)
theorem w4_217 : (Jvm.Cond.code ({ cls := "java/util/ArrayList", name := "grow", desc := "()[Ljava/lang/Object;" } : Jvm.MethodName) prog_36_method_7_code (1 : Nat) (Option.some (Jvm.ClassFile.FieldType.array (Jvm.ClassFile.FieldType.object "java/lang/Object")))) ∈ lw_tbl := z_in4 (List.mem_of_getElem? (i := 217) rfl)
theorem w4_216 : (Jvm.Cond.instanceMethod ({ cls := "java/util/ArrayList", name := "grow", desc := "()[Ljava/lang/Object;" } : Jvm.MethodName)) ∈ lw_tbl := z_in4 (List.mem_of_getElem? (i := 216) rfl)
theorem wS42 : (Cond.selects "java/util/ArrayList" ⟨"java/util/ArrayList", "grow", "()[Ljava/lang/Object;"⟩ ⟨"java/util/ArrayList", "grow", "()[Ljava/lang/Object;"⟩ : Cond) ∈ lw_tbl := z_inS (List.mem_of_getElem? (i := 42) rfl)
theorem w4_214 : (Jvm.Cond.methodLink "java/util/ArrayList" (129 : Nat) ({ cls := "java/util/ArrayList", name := "grow", desc := "()[Ljava/lang/Object;" } : Jvm.MethodName)) ∈ lw_tbl := z_in4 (List.mem_of_getElem? (i := 214) rfl)
theorem w5_236 : (Jvm.Cond.code ({ cls := "java/util/ArrayList", name := "add", desc := "(Ljava/lang/Object;)Z" } : Jvm.MethodName) prog_36_method_25_code (2 : Nat) (Option.some Jvm.ClassFile.FieldType.boolean)) ∈ lw_tbl := z_in5 (List.mem_of_getElem? (i := 236) rfl)
theorem w5_234 : (Jvm.Cond.instanceMethod ({ cls := "java/util/ArrayList", name := "add", desc := "(Ljava/lang/Object;)Z" } : Jvm.MethodName)) ∈ lw_tbl := z_in5 (List.mem_of_getElem? (i := 234) rfl)
theorem w5_235 : (Jvm.Cond.selects "java/util/ArrayList" ({ cls := "java/util/ArrayList", name := "add", desc := "(Ljava/lang/Object;)Z" } : Jvm.MethodName) ({ cls := "java/util/ArrayList", name := "add", desc := "(Ljava/lang/Object;)Z" } : Jvm.MethodName)) ∈ lw_tbl := z_in5 (List.mem_of_getElem? (i := 235) rfl)
theorem w6_0 : (Jvm.Cond.code ({ cls := "java/util/ArrayList", name := "add", desc := "(Ljava/lang/Object;[Ljava/lang/Object;I)V" } : Jvm.MethodName) prog_36_method_24_code (4 : Nat) (Option.none : Option Jvm.ClassFile.FieldType)) ∈ lw_tbl := z_in6 (List.mem_of_getElem? (i := 0) rfl)
theorem w5_239 : (Jvm.Cond.instanceMethod ({ cls := "java/util/ArrayList", name := "add", desc := "(Ljava/lang/Object;[Ljava/lang/Object;I)V" } : Jvm.MethodName)) ∈ lw_tbl := z_in5 (List.mem_of_getElem? (i := 239) rfl)
theorem wS75 : (Cond.selects "java/util/ArrayList" ⟨"java/util/ArrayList", "add", "(Ljava/lang/Object;[Ljava/lang/Object;I)V"⟩ ⟨"java/util/ArrayList", "add", "(Ljava/lang/Object;[Ljava/lang/Object;I)V"⟩ : Cond) ∈ lw_tbl := z_inS (List.mem_of_getElem? (i := 75) rfl)
theorem w5_237 : (Jvm.Cond.methodLink "java/util/ArrayList" (131 : Nat) ({ cls := "java/util/ArrayList", name := "add", desc := "(Ljava/lang/Object;[Ljava/lang/Object;I)V" } : Jvm.MethodName)) ∈ lw_tbl := z_in5 (List.mem_of_getElem? (i := 237) rfl)
theorem w4_175 : (Jvm.Cond.code ({ cls := "java/util/ArrayList", name := "clear", desc := "()V" } : Jvm.MethodName) prog_36_method_40_code (4 : Nat) (Option.none : Option Jvm.ClassFile.FieldType)) ∈ lw_tbl := z_in4 (List.mem_of_getElem? (i := 175) rfl)
theorem w4_173 : (Jvm.Cond.instanceMethod ({ cls := "java/util/ArrayList", name := "clear", desc := "()V" } : Jvm.MethodName)) ∈ lw_tbl := z_in4 (List.mem_of_getElem? (i := 173) rfl)
theorem w4_174 : (Jvm.Cond.selects "java/util/ArrayList" ({ cls := "java/util/ArrayList", name := "clear", desc := "()V" } : Jvm.MethodName) ({ cls := "java/util/ArrayList", name := "clear", desc := "()V" } : Jvm.MethodName)) ∈ lw_tbl := z_in4 (List.mem_of_getElem? (i := 174) rfl)
theorem w1_58 : (Jvm.Cond.code ({ cls := "java/util/ArrayList", name := "elementData", desc := "(I)Ljava/lang/Object;" } : Jvm.MethodName) prog_36_method_18_code (2 : Nat) (Option.some (Jvm.ClassFile.FieldType.object "java/lang/Object"))) ∈ lw_tbl := z_in1 (List.mem_of_getElem? (i := 58) rfl)
theorem w1_56 : (Jvm.Cond.instanceMethod ({ cls := "java/util/ArrayList", name := "elementData", desc := "(I)Ljava/lang/Object;" } : Jvm.MethodName)) ∈ lw_tbl := z_in1 (List.mem_of_getElem? (i := 56) rfl)
theorem w1_57 : (Jvm.Cond.selects "java/util/ArrayList" ({ cls := "java/util/ArrayList", name := "elementData", desc := "(I)Ljava/lang/Object;" } : Jvm.MethodName) ({ cls := "java/util/ArrayList", name := "elementData", desc := "(I)Ljava/lang/Object;" } : Jvm.MethodName)) ∈ lw_tbl := z_in1 (List.mem_of_getElem? (i := 57) rfl)
theorem w5_160 : (Jvm.Cond.code ({ cls := "java/util/ArrayList", name := "fastRemove", desc := "([Ljava/lang/Object;I)V" } : Jvm.MethodName) prog_36_method_39_code (4 : Nat) (Option.none : Option Jvm.ClassFile.FieldType)) ∈ lw_tbl := z_in5 (List.mem_of_getElem? (i := 160) rfl)
theorem w5_159 : (Jvm.Cond.instanceMethod ({ cls := "java/util/ArrayList", name := "fastRemove", desc := "([Ljava/lang/Object;I)V" } : Jvm.MethodName)) ∈ lw_tbl := z_in5 (List.mem_of_getElem? (i := 159) rfl)
theorem wS64 : (Cond.selects "java/util/ArrayList" ⟨"java/util/ArrayList", "fastRemove", "([Ljava/lang/Object;I)V"⟩ ⟨"java/util/ArrayList", "fastRemove", "([Ljava/lang/Object;I)V"⟩ : Cond) ∈ lw_tbl := z_inS (List.mem_of_getElem? (i := 64) rfl)
theorem w1_48 : (Jvm.Cond.code ({ cls := "java/util/ArrayList", name := "get", desc := "(I)Ljava/lang/Object;" } : Jvm.MethodName) prog_36_method_20_code (2 : Nat) (Option.some (Jvm.ClassFile.FieldType.object "java/lang/Object"))) ∈ lw_tbl := z_in1 (List.mem_of_getElem? (i := 48) rfl)
theorem w1_46 : (Jvm.Cond.instanceMethod ({ cls := "java/util/ArrayList", name := "get", desc := "(I)Ljava/lang/Object;" } : Jvm.MethodName)) ∈ lw_tbl := z_in1 (List.mem_of_getElem? (i := 46) rfl)
theorem w1_47 : (Jvm.Cond.selects "java/util/ArrayList" ({ cls := "java/util/ArrayList", name := "get", desc := "(I)Ljava/lang/Object;" } : Jvm.MethodName) ({ cls := "java/util/ArrayList", name := "get", desc := "(I)Ljava/lang/Object;" } : Jvm.MethodName)) ∈ lw_tbl := z_in1 (List.mem_of_getElem? (i := 47) rfl)
theorem w1_21 : (Jvm.Cond.initialized "java/util/Objects") ∈ lw_tbl := z_in1 (List.mem_of_getElem? (i := 21) rfl)
theorem w1_51 : (Jvm.Cond.code ({ cls := "java/util/Objects", name := "checkIndex", desc := "(II)I" } : Jvm.MethodName) prog_41_method_17_code (2 : Nat) (Option.some Jvm.ClassFile.FieldType.int)) ∈ lw_tbl := z_in1 (List.mem_of_getElem? (i := 51) rfl)
theorem w1_50 : (Jvm.Cond.static ({ cls := "java/util/Objects", name := "checkIndex", desc := "(II)I" } : Jvm.MethodName)) ∈ lw_tbl := z_in1 (List.mem_of_getElem? (i := 50) rfl)
theorem w1_49 : (Jvm.Cond.methodLink "java/util/ArrayList" (118 : Nat) ({ cls := "java/util/Objects", name := "checkIndex", desc := "(II)I" } : Jvm.MethodName)) ∈ lw_tbl := z_in1 (List.mem_of_getElem? (i := 49) rfl)
theorem w1_55 : (Jvm.Cond.methodLink "java/util/ArrayList" (123 : Nat) ({ cls := "java/util/ArrayList", name := "elementData", desc := "(I)Ljava/lang/Object;" } : Jvm.MethodName)) ∈ lw_tbl := z_in1 (List.mem_of_getElem? (i := 55) rfl)
theorem w4_221 : (Jvm.Cond.code ({ cls := "java/util/ArrayList", name := "grow", desc := "(I)[Ljava/lang/Object;" } : Jvm.MethodName) prog_36_method_6_code (4 : Nat) (Option.some (Jvm.ClassFile.FieldType.array (Jvm.ClassFile.FieldType.object "java/lang/Object")))) ∈ lw_tbl := z_in4 (List.mem_of_getElem? (i := 221) rfl)
theorem w4_220 : (Jvm.Cond.instanceMethod ({ cls := "java/util/ArrayList", name := "grow", desc := "(I)[Ljava/lang/Object;" } : Jvm.MethodName)) ∈ lw_tbl := z_in4 (List.mem_of_getElem? (i := 220) rfl)
theorem wS43 : (Cond.selects "java/util/ArrayList" ⟨"java/util/ArrayList", "grow", "(I)[Ljava/lang/Object;"⟩ ⟨"java/util/ArrayList", "grow", "(I)[Ljava/lang/Object;"⟩ : Cond) ∈ lw_tbl := z_inS (List.mem_of_getElem? (i := 43) rfl)
theorem w4_218 : (Jvm.Cond.methodLink "java/util/ArrayList" (69 : Nat) ({ cls := "java/util/ArrayList", name := "grow", desc := "(I)[Ljava/lang/Object;" } : Jvm.MethodName)) ∈ lw_tbl := z_in4 (List.mem_of_getElem? (i := 218) rfl)
theorem w1_18 : (Jvm.Cond.initialized "jdk/internal/util/ArraysSupport") ∈ lw_tbl := z_in1 (List.mem_of_getElem? (i := 18) rfl)
theorem w3_43 : (Jvm.Cond.code ({ cls := "jdk/internal/util/ArraysSupport", name := "newLength", desc := "(III)I" } : Jvm.MethodName) prog_44_method_27_code (4 : Nat) (Option.some Jvm.ClassFile.FieldType.int)) ∈ lw_tbl := z_in3 (List.mem_of_getElem? (i := 43) rfl)
theorem w3_42 : (Jvm.Cond.static ({ cls := "jdk/internal/util/ArraysSupport", name := "newLength", desc := "(III)I" } : Jvm.MethodName)) ∈ lw_tbl := z_in3 (List.mem_of_getElem? (i := 42) rfl)
theorem w4_222 : (Jvm.Cond.methodLink "java/util/ArrayList" (73 : Nat) ({ cls := "jdk/internal/util/ArraysSupport", name := "newLength", desc := "(III)I" } : Jvm.MethodName)) ∈ lw_tbl := z_in4 (List.mem_of_getElem? (i := 222) rfl)
theorem w1_12 : (Jvm.Cond.initialized "java/util/Arrays") ∈ lw_tbl := z_in1 (List.mem_of_getElem? (i := 12) rfl)
theorem w4_225 : (Jvm.Cond.code ({ cls := "java/util/Arrays", name := "copyOf", desc := "([Ljava/lang/Object;I)[Ljava/lang/Object;" } : Jvm.MethodName) prog_37_method_119_code (2 : Nat) (Option.some (Jvm.ClassFile.FieldType.array (Jvm.ClassFile.FieldType.object "java/lang/Object")))) ∈ lw_tbl := z_in4 (List.mem_of_getElem? (i := 225) rfl)
theorem w4_224 : (Jvm.Cond.static ({ cls := "java/util/Arrays", name := "copyOf", desc := "([Ljava/lang/Object;I)[Ljava/lang/Object;" } : Jvm.MethodName)) ∈ lw_tbl := z_in4 (List.mem_of_getElem? (i := 224) rfl)
theorem w4_223 : (Jvm.Cond.methodLink "java/util/ArrayList" (66 : Nat) ({ cls := "java/util/Arrays", name := "copyOf", desc := "([Ljava/lang/Object;I)[Ljava/lang/Object;" } : Jvm.MethodName)) ∈ lw_tbl := z_in4 (List.mem_of_getElem? (i := 223) rfl)
theorem w1_19 : (Jvm.Cond.initialized "java/lang/Math") ∈ lw_tbl := z_in1 (List.mem_of_getElem? (i := 19) rfl)
theorem w3_46 : (Jvm.Cond.code ({ cls := "java/lang/Math", name := "max", desc := "(II)I" } : Jvm.MethodName) prog_23_method_65_code (2 : Nat) (Option.some Jvm.ClassFile.FieldType.int)) ∈ lw_tbl := z_in3 (List.mem_of_getElem? (i := 46) rfl)
theorem w3_45 : (Jvm.Cond.static ({ cls := "java/lang/Math", name := "max", desc := "(II)I" } : Jvm.MethodName)) ∈ lw_tbl := z_in3 (List.mem_of_getElem? (i := 45) rfl)
theorem w5_12 : (Jvm.Cond.methodLink "java/util/ArrayList" (79 : Nat) ({ cls := "java/lang/Math", name := "max", desc := "(II)I" } : Jvm.MethodName)) ∈ lw_tbl := z_in5 (List.mem_of_getElem? (i := 12) rfl)
theorem w1_139 : (Jvm.Cond.code ({ cls := "java/util/ArrayList", name := "isEmpty", desc := "()Z" } : Jvm.MethodName) prog_36_method_9_code (1 : Nat) (Option.some Jvm.ClassFile.FieldType.boolean)) ∈ lw_tbl := z_in1 (List.mem_of_getElem? (i := 139) rfl)
theorem w1_137 : (Jvm.Cond.instanceMethod ({ cls := "java/util/ArrayList", name := "isEmpty", desc := "()Z" } : Jvm.MethodName)) ∈ lw_tbl := z_in1 (List.mem_of_getElem? (i := 137) rfl)
theorem w1_138 : (Jvm.Cond.selects "java/util/ArrayList" ({ cls := "java/util/ArrayList", name := "isEmpty", desc := "()Z" } : Jvm.MethodName) ({ cls := "java/util/ArrayList", name := "isEmpty", desc := "()Z" } : Jvm.MethodName)) ∈ lw_tbl := z_in1 (List.mem_of_getElem? (i := 138) rfl)
theorem w4_200 : (Jvm.Cond.code ({ cls := "java/util/ArrayList", name := "outOfBoundsMsg", desc := "(I)Ljava/lang/String;" } : Jvm.MethodName) prog_36_method_46_code (2 : Nat) (Option.some (Jvm.ClassFile.FieldType.object "java/lang/String"))) ∈ lw_tbl := z_in4 (List.mem_of_getElem? (i := 200) rfl)
theorem w4_199 : (Jvm.Cond.instanceMethod ({ cls := "java/util/ArrayList", name := "outOfBoundsMsg", desc := "(I)Ljava/lang/String;" } : Jvm.MethodName)) ∈ lw_tbl := z_in4 (List.mem_of_getElem? (i := 199) rfl)
theorem wS41 : (Cond.selects "java/util/ArrayList" ⟨"java/util/ArrayList", "outOfBoundsMsg", "(I)Ljava/lang/String;"⟩ ⟨"java/util/ArrayList", "outOfBoundsMsg", "(I)Ljava/lang/String;"⟩ : Cond) ∈ lw_tbl := z_inS (List.mem_of_getElem? (i := 41) rfl)
theorem w4_197 : (Jvm.Cond.methodLink "java/util/ArrayList" (198 : Nat) ({ cls := "java/util/ArrayList", name := "outOfBoundsMsg", desc := "(I)Ljava/lang/String;" } : Jvm.MethodName)) ∈ lw_tbl := z_in4 (List.mem_of_getElem? (i := 197) rfl)
theorem w5_156 : (Jvm.Cond.code ({ cls := "java/util/ArrayList", name := "remove", desc := "(I)Ljava/lang/Object;" } : Jvm.MethodName) prog_36_method_29_code (4 : Nat) (Option.some (Jvm.ClassFile.FieldType.object "java/lang/Object"))) ∈ lw_tbl := z_in5 (List.mem_of_getElem? (i := 156) rfl)
theorem w5_154 : (Jvm.Cond.instanceMethod ({ cls := "java/util/ArrayList", name := "remove", desc := "(I)Ljava/lang/Object;" } : Jvm.MethodName)) ∈ lw_tbl := z_in5 (List.mem_of_getElem? (i := 154) rfl)
theorem w5_155 : (Jvm.Cond.selects "java/util/ArrayList" ({ cls := "java/util/ArrayList", name := "remove", desc := "(I)Ljava/lang/Object;" } : Jvm.MethodName) ({ cls := "java/util/ArrayList", name := "remove", desc := "(I)Ljava/lang/Object;" } : Jvm.MethodName)) ∈ lw_tbl := z_in5 (List.mem_of_getElem? (i := 155) rfl)
theorem w5_157 : (Jvm.Cond.methodLink "java/util/ArrayList" (144 : Nat) ({ cls := "java/util/ArrayList", name := "fastRemove", desc := "([Ljava/lang/Object;I)V" } : Jvm.MethodName)) ∈ lw_tbl := z_in5 (List.mem_of_getElem? (i := 157) rfl)
theorem w6_142 : (Jvm.Cond.code ({ cls := "java/util/ArrayList", name := "set", desc := "(ILjava/lang/Object;)Ljava/lang/Object;" } : Jvm.MethodName) prog_36_method_23_code (4 : Nat) (Option.some (Jvm.ClassFile.FieldType.object "java/lang/Object"))) ∈ lw_tbl := z_in6 (List.mem_of_getElem? (i := 142) rfl)
theorem w6_140 : (Jvm.Cond.instanceMethod ({ cls := "java/util/ArrayList", name := "set", desc := "(ILjava/lang/Object;)Ljava/lang/Object;" } : Jvm.MethodName)) ∈ lw_tbl := z_in6 (List.mem_of_getElem? (i := 140) rfl)
theorem w6_141 : (Jvm.Cond.selects "java/util/ArrayList" ({ cls := "java/util/ArrayList", name := "set", desc := "(ILjava/lang/Object;)Ljava/lang/Object;" } : Jvm.MethodName) ({ cls := "java/util/ArrayList", name := "set", desc := "(ILjava/lang/Object;)Ljava/lang/Object;" } : Jvm.MethodName)) ∈ lw_tbl := z_in6 (List.mem_of_getElem? (i := 141) rfl)
theorem w1_44 : (Jvm.Cond.code ({ cls := "java/util/ArrayList", name := "size", desc := "()I" } : Jvm.MethodName) prog_36_method_8_code (1 : Nat) (Option.some Jvm.ClassFile.FieldType.int)) ∈ lw_tbl := z_in1 (List.mem_of_getElem? (i := 44) rfl)
theorem w1_42 : (Jvm.Cond.instanceMethod ({ cls := "java/util/ArrayList", name := "size", desc := "()I" } : Jvm.MethodName)) ∈ lw_tbl := z_in1 (List.mem_of_getElem? (i := 42) rfl)
theorem w1_43 : (Jvm.Cond.selects "java/util/ArrayList" ({ cls := "java/util/ArrayList", name := "size", desc := "()I" } : Jvm.MethodName) ({ cls := "java/util/ArrayList", name := "size", desc := "()I" } : Jvm.MethodName)) ∈ lw_tbl := z_in1 (List.mem_of_getElem? (i := 43) rfl)
theorem w1_5 : (Jvm.Cond.initialized "java/util/AbstractCollection") ∈ lw_tbl := z_in1 (List.mem_of_getElem? (i := 5) rfl)
theorem w1_236 : (Jvm.Cond.code ({ cls := "java/util/AbstractCollection", name := "<init>", desc := "()V" } : Jvm.MethodName) prog_34_method_1_code (1 : Nat) (Option.none : Option Jvm.ClassFile.FieldType)) ∈ lw_tbl := z_in1 (List.mem_of_getElem? (i := 236) rfl)
theorem w1_235 : (Jvm.Cond.instanceMethod ({ cls := "java/util/AbstractCollection", name := "<init>", desc := "()V" } : Jvm.MethodName)) ∈ lw_tbl := z_in1 (List.mem_of_getElem? (i := 235) rfl)
theorem w1_237 : (Jvm.Cond.methodLink "java/util/AbstractCollection" (1 : Nat) ({ cls := "java/lang/Object", name := "<init>", desc := "()V" } : Jvm.MethodName)) ∈ lw_tbl := z_in1 (List.mem_of_getElem? (i := 237) rfl)
theorem w1_234 : (Jvm.Cond.methodLink "java/util/AbstractList" (1 : Nat) ({ cls := "java/util/AbstractCollection", name := "<init>", desc := "()V" } : Jvm.MethodName)) ∈ lw_tbl := z_in1 (List.mem_of_getElem? (i := 234) rfl)
theorem w2_2 : (Jvm.Cond.fieldLink "java/util/AbstractList" (7 : Nat) "java/util/AbstractList" "modCount" "I") ∈ lw_tbl := z_in2 (List.mem_of_getElem? (i := 2) rfl)
theorem w2_63 : (Jvm.Cond.code ({ cls := "java/util/Arrays", name := "fill", desc := "([II)V" } : Jvm.MethodName) prog_37_method_103_code (4 : Nat) (Option.none : Option Jvm.ClassFile.FieldType)) ∈ lw_tbl := z_in2 (List.mem_of_getElem? (i := 63) rfl)
theorem w2_62 : (Jvm.Cond.static ({ cls := "java/util/Arrays", name := "fill", desc := "([II)V" } : Jvm.MethodName)) ∈ lw_tbl := z_in2 (List.mem_of_getElem? (i := 62) rfl)
theorem w5_8 : (Jvm.Cond.code ({ cls := "java/util/Arrays", name := "copyOf", desc := "([Ljava/lang/Object;ILjava/lang/Class;)[Ljava/lang/Object;" } : Jvm.MethodName) prog_37_method_120_code (4 : Nat) (Option.some (Jvm.ClassFile.FieldType.array (Jvm.ClassFile.FieldType.object "java/lang/Object")))) ∈ lw_tbl := z_in5 (List.mem_of_getElem? (i := 8) rfl)
theorem w5_7 : (Jvm.Cond.static ({ cls := "java/util/Arrays", name := "copyOf", desc := "([Ljava/lang/Object;ILjava/lang/Class;)[Ljava/lang/Object;" } : Jvm.MethodName)) ∈ lw_tbl := z_in5 (List.mem_of_getElem? (i := 7) rfl)
theorem w5_6 : (Jvm.Cond.methodLink "java/util/Arrays" (300 : Nat) ({ cls := "java/util/Arrays", name := "copyOf", desc := "([Ljava/lang/Object;ILjava/lang/Class;)[Ljava/lang/Object;" } : Jvm.MethodName)) ∈ lw_tbl := z_in5 (List.mem_of_getElem? (i := 6) rfl)
theorem w5_9 : (Jvm.Cond.classLink "java/util/Arrays" (110 : Nat) "[Ljava/lang/Object;") ∈ lw_tbl := z_in5 (List.mem_of_getElem? (i := 9) rfl)
theorem w3_64 : (Jvm.Cond.code ({ cls := "java/lang/Math", name := "min", desc := "(II)I" } : Jvm.MethodName) prog_23_method_69_code (2 : Nat) (Option.some Jvm.ClassFile.FieldType.int)) ∈ lw_tbl := z_in3 (List.mem_of_getElem? (i := 64) rfl)
theorem w3_63 : (Jvm.Cond.static ({ cls := "java/lang/Math", name := "min", desc := "(II)I" } : Jvm.MethodName)) ∈ lw_tbl := z_in3 (List.mem_of_getElem? (i := 63) rfl)
theorem w3_62 : (Jvm.Cond.methodLink "java/util/Arrays" (304 : Nat) ({ cls := "java/lang/Math", name := "min", desc := "(II)I" } : Jvm.MethodName)) ∈ lw_tbl := z_in3 (List.mem_of_getElem? (i := 62) rfl)
theorem w6_149 : (Jvm.Cond.code ({ cls := "java/lang/Math", name := "floorMod", desc := "(II)I" } : Jvm.MethodName) prog_23_method_50_code (3 : Nat) (Option.some Jvm.ClassFile.FieldType.int)) ∈ lw_tbl := z_in6 (List.mem_of_getElem? (i := 149) rfl)
theorem w6_148 : (Jvm.Cond.static ({ cls := "java/lang/Math", name := "floorMod", desc := "(II)I" } : Jvm.MethodName)) ∈ lw_tbl := z_in6 (List.mem_of_getElem? (i := 148) rfl)
theorem w1_22 : (Jvm.Cond.initialized "jdk/internal/util/Preconditions") ∈ lw_tbl := z_in1 (List.mem_of_getElem? (i := 22) rfl)
theorem w1_54 : (Jvm.Cond.code ({ cls := "jdk/internal/util/Preconditions", name := "checkIndex", desc := "(IILjava/util/function/BiFunction;)I" } : Jvm.MethodName) prog_45_method_11_code (3 : Nat) (Option.some Jvm.ClassFile.FieldType.int)) ∈ lw_tbl := z_in1 (List.mem_of_getElem? (i := 54) rfl)
theorem w1_53 : (Jvm.Cond.static ({ cls := "jdk/internal/util/Preconditions", name := "checkIndex", desc := "(IILjava/util/function/BiFunction;)I" } : Jvm.MethodName)) ∈ lw_tbl := z_in1 (List.mem_of_getElem? (i := 53) rfl)
theorem w1_52 : (Jvm.Cond.methodLink "java/util/Objects" (105 : Nat) ({ cls := "jdk/internal/util/Preconditions", name := "checkIndex", desc := "(IILjava/util/function/BiFunction;)I" } : Jvm.MethodName)) ∈ lw_tbl := z_in1 (List.mem_of_getElem? (i := 52) rfl)
theorem w3_44 : (Jvm.Cond.methodLink "jdk/internal/util/ArraysSupport" (194 : Nat) ({ cls := "java/lang/Math", name := "max", desc := "(II)I" } : Jvm.MethodName)) ∈ lw_tbl := z_in3 (List.mem_of_getElem? (i := 44) rfl)
theorem w3_47 : (Jvm.Cond.constant "jdk/internal/util/ArraysSupport" (200 : Nat) (2147483639 : Int32)) ∈ lw_tbl := z_in3 (List.mem_of_getElem? (i := 47) rfl)
theorem w3_50 : (Jvm.Cond.code ({ cls := "jdk/internal/util/ArraysSupport", name := "hugeLength", desc := "(II)I" } : Jvm.MethodName) prog_44_method_28_code (3 : Nat) (Option.some Jvm.ClassFile.FieldType.int)) ∈ lw_tbl := z_in3 (List.mem_of_getElem? (i := 50) rfl)
theorem w3_49 : (Jvm.Cond.static ({ cls := "jdk/internal/util/ArraysSupport", name := "hugeLength", desc := "(II)I" } : Jvm.MethodName)) ∈ lw_tbl := z_in3 (List.mem_of_getElem? (i := 49) rfl)
theorem w3_48 : (Jvm.Cond.methodLink "jdk/internal/util/ArraysSupport" (201 : Nat) ({ cls := "jdk/internal/util/ArraysSupport", name := "hugeLength", desc := "(II)I" } : Jvm.MethodName)) ∈ lw_tbl := z_in3 (List.mem_of_getElem? (i := 48) rfl)
theorem w1_11 : (Jvm.Cond.initialized "StandingsHall$Entrant") ∈ lw_tbl := z_in1 (List.mem_of_getElem? (i := 11) rfl)
theorem w2_59 : (Jvm.Cond.code ({ cls := "StandingsHall$Entrant", name := "<init>", desc := "(II)V" } : Jvm.MethodName) prog_2_method_1_code (3 : Nat) (Option.none : Option Jvm.ClassFile.FieldType)) ∈ lw_tbl := z_in2 (List.mem_of_getElem? (i := 59) rfl)
theorem w2_58 : (Jvm.Cond.instanceMethod ({ cls := "StandingsHall$Entrant", name := "<init>", desc := "(II)V" } : Jvm.MethodName)) ∈ lw_tbl := z_in2 (List.mem_of_getElem? (i := 58) rfl)
theorem w2_60 : (Jvm.Cond.methodLink "StandingsHall$Entrant" (3 : Nat) ({ cls := "java/lang/Object", name := "<init>", desc := "()V" } : Jvm.MethodName)) ∈ lw_tbl := z_in2 (List.mem_of_getElem? (i := 60) rfl)
theorem w2_72 : (Jvm.Cond.fieldLink "StandingsHall$Entrant" (9 : Nat) "StandingsHall$Entrant" "scores" "[I") ∈ lw_tbl := z_in2 (List.mem_of_getElem? (i := 72) rfl)
theorem w2_73 : (Jvm.Cond.fieldLink "StandingsHall$Entrant" (15 : Nat) "StandingsHall$Entrant" "merits" "[I") ∈ lw_tbl := z_in2 (List.mem_of_getElem? (i := 73) rfl)
theorem w2_80 : (Jvm.Cond.fieldLink "StandingsHall$Entrant" (18 : Nat) "StandingsHall$Entrant" "gains" "[I") ∈ lw_tbl := z_in2 (List.mem_of_getElem? (i := 80) rfl)
theorem w2_81 : (Jvm.Cond.fieldLink "StandingsHall$Entrant" (21 : Nat) "StandingsHall$Entrant" "places" "[I") ∈ lw_tbl := z_in2 (List.mem_of_getElem? (i := 81) rfl)
theorem w2_64 : (Jvm.Cond.fieldLink "StandingsHall$Entrant" (24 : Nat) "StandingsHall$Entrant" "number" "I") ∈ lw_tbl := z_in2 (List.mem_of_getElem? (i := 64) rfl)
theorem w2_67 : (Jvm.Cond.fieldLink "StandingsHall$Entrant" (28 : Nat) "StandingsHall$Entrant" "group" "I") ∈ lw_tbl := z_in2 (List.mem_of_getElem? (i := 67) rfl)
theorem w2_70 : (Jvm.Cond.fieldLink "StandingsHall$Entrant" (31 : Nat) "StandingsHall$Entrant" "isThere" "Z") ∈ lw_tbl := z_in2 (List.mem_of_getElem? (i := 70) rfl)
theorem w2_75 : (Jvm.Cond.fieldLink "StandingsHall$Entrant" (35 : Nat) "StandingsHall$Entrant" "place" "I") ∈ lw_tbl := z_in2 (List.mem_of_getElem? (i := 75) rfl)
theorem w2_61 : (Jvm.Cond.methodLink "StandingsHall$Entrant" (38 : Nat) ({ cls := "java/util/Arrays", name := "fill", desc := "([II)V" } : Jvm.MethodName)) ∈ lw_tbl := z_in2 (List.mem_of_getElem? (i := 61) rfl)
theorem w2_82 : (Jvm.Cond.fieldLink "StandingsHall$Entrant" (44 : Nat) "StandingsHall$Entrant" "entered" "I") ∈ lw_tbl := z_in2 (List.mem_of_getElem? (i := 82) rfl)
theorem w2_84 : (Jvm.Cond.fieldLink "StandingsHall$Entrant" (47 : Nat) "StandingsHall$Entrant" "played" "I") ∈ lw_tbl := z_in2 (List.mem_of_getElem? (i := 84) rfl)
theorem w1_64 : (Jvm.Cond.code ({ cls := "StandingsHall$Entrant", name := "points", desc := "()I" } : Jvm.MethodName) prog_2_method_2_code (1 : Nat) (Option.some Jvm.ClassFile.FieldType.int)) ∈ lw_tbl := z_in1 (List.mem_of_getElem? (i := 64) rfl)
theorem w1_62 : (Jvm.Cond.instanceMethod ({ cls := "StandingsHall$Entrant", name := "points", desc := "()I" } : Jvm.MethodName)) ∈ lw_tbl := z_in1 (List.mem_of_getElem? (i := 62) rfl)
theorem wS1 : (Cond.selects "StandingsHall$Entrant" ⟨"StandingsHall$Entrant", "points", "()I"⟩ ⟨"StandingsHall$Entrant", "points", "()I"⟩ : Cond) ∈ lw_tbl := z_inS (List.mem_of_getElem? (i := 1) rfl)
theorem w1_72 : (Jvm.Cond.code ({ cls := "StandingsHall$Entrant", name := "scoreIn", desc := "(I)I" } : Jvm.MethodName) prog_2_method_3_code (2 : Nat) (Option.some Jvm.ClassFile.FieldType.int)) ∈ lw_tbl := z_in1 (List.mem_of_getElem? (i := 72) rfl)
theorem w1_71 : (Jvm.Cond.instanceMethod ({ cls := "StandingsHall$Entrant", name := "scoreIn", desc := "(I)I" } : Jvm.MethodName)) ∈ lw_tbl := z_in1 (List.mem_of_getElem? (i := 71) rfl)
theorem wS3 : (Cond.selects "StandingsHall$Entrant" ⟨"StandingsHall$Entrant", "scoreIn", "(I)I"⟩ ⟨"StandingsHall$Entrant", "scoreIn", "(I)I"⟩ : Cond) ∈ lw_tbl := z_inS (List.mem_of_getElem? (i := 3) rfl)
theorem w1_76 : (Jvm.Cond.code ({ cls := "StandingsHall$Entrant", name := "putScore", desc := "(II)V" } : Jvm.MethodName) prog_2_method_4_code (3 : Nat) (Option.none : Option Jvm.ClassFile.FieldType)) ∈ lw_tbl := z_in1 (List.mem_of_getElem? (i := 76) rfl)
theorem w1_75 : (Jvm.Cond.instanceMethod ({ cls := "StandingsHall$Entrant", name := "putScore", desc := "(II)V" } : Jvm.MethodName)) ∈ lw_tbl := z_in1 (List.mem_of_getElem? (i := 75) rfl)
theorem wS4 : (Cond.selects "StandingsHall$Entrant" ⟨"StandingsHall$Entrant", "putScore", "(II)V"⟩ ⟨"StandingsHall$Entrant", "putScore", "(II)V"⟩ : Cond) ∈ lw_tbl := z_inS (List.mem_of_getElem? (i := 4) rfl)
theorem w1_106 : (Jvm.Cond.code ({ cls := "StandingsHall$Entrant", name := "isBetterThan", desc := "(LStandingsHall$Entrant;)Z" } : Jvm.MethodName) prog_2_method_5_code (3 : Nat) (Option.some Jvm.ClassFile.FieldType.boolean)) ∈ lw_tbl := z_in1 (List.mem_of_getElem? (i := 106) rfl)
theorem w1_105 : (Jvm.Cond.instanceMethod ({ cls := "StandingsHall$Entrant", name := "isBetterThan", desc := "(LStandingsHall$Entrant;)Z" } : Jvm.MethodName)) ∈ lw_tbl := z_in1 (List.mem_of_getElem? (i := 105) rfl)
theorem wS10 : (Cond.selects "StandingsHall$Entrant" ⟨"StandingsHall$Entrant", "isBetterThan", "(LStandingsHall$Entrant;)Z"⟩ ⟨"StandingsHall$Entrant", "isBetterThan", "(LStandingsHall$Entrant;)Z"⟩ : Cond) ∈ lw_tbl := z_inS (List.mem_of_getElem? (i := 10) rfl)
theorem w5_63 : (Jvm.Cond.code ({ cls := "StandingsHall$Entrant", name := "isAlikeWith", desc := "(LStandingsHall$Entrant;)Z" } : Jvm.MethodName) prog_2_method_6_code (2 : Nat) (Option.some Jvm.ClassFile.FieldType.boolean)) ∈ lw_tbl := z_in5 (List.mem_of_getElem? (i := 63) rfl)
theorem w5_62 : (Jvm.Cond.instanceMethod ({ cls := "StandingsHall$Entrant", name := "isAlikeWith", desc := "(LStandingsHall$Entrant;)Z" } : Jvm.MethodName)) ∈ lw_tbl := z_in5 (List.mem_of_getElem? (i := 62) rfl)
theorem wS52 : (Cond.selects "StandingsHall$Entrant" ⟨"StandingsHall$Entrant", "isAlikeWith", "(LStandingsHall$Entrant;)Z"⟩ ⟨"StandingsHall$Entrant", "isAlikeWith", "(LStandingsHall$Entrant;)Z"⟩ : Cond) ∈ lw_tbl := z_inS (List.mem_of_getElem? (i := 52) rfl)
theorem w1_103 : (Jvm.Cond.methodLink "StandingsHall$Entrant" (50 : Nat) ({ cls := "StandingsHall$Entrant", name := "isBetterThan", desc := "(LStandingsHall$Entrant;)Z" } : Jvm.MethodName)) ∈ lw_tbl := z_in1 (List.mem_of_getElem? (i := 103) rfl)
theorem w1_102 : (Jvm.Cond.code ({ cls := "StandingsHall$Entrant", name := "isAheadOf", desc := "(LStandingsHall$Entrant;)Z" } : Jvm.MethodName) prog_2_method_7_code (2 : Nat) (Option.some Jvm.ClassFile.FieldType.boolean)) ∈ lw_tbl := z_in1 (List.mem_of_getElem? (i := 102) rfl)
theorem w1_101 : (Jvm.Cond.instanceMethod ({ cls := "StandingsHall$Entrant", name := "isAheadOf", desc := "(LStandingsHall$Entrant;)Z" } : Jvm.MethodName)) ∈ lw_tbl := z_in1 (List.mem_of_getElem? (i := 101) rfl)
theorem wS9 : (Cond.selects "StandingsHall$Entrant" ⟨"StandingsHall$Entrant", "isAheadOf", "(LStandingsHall$Entrant;)Z"⟩ ⟨"StandingsHall$Entrant", "isAheadOf", "(LStandingsHall$Entrant;)Z"⟩ : Cond) ∈ lw_tbl := z_inS (List.mem_of_getElem? (i := 9) rfl)
theorem w6_146 : (Jvm.Cond.code ({ cls := "StandingsHall$Entrant", name := "keepRound", desc := "(I)V" } : Jvm.MethodName) prog_2_method_8_code (2 : Nat) (Option.none : Option Jvm.ClassFile.FieldType)) ∈ lw_tbl := z_in6 (List.mem_of_getElem? (i := 146) rfl)
theorem w6_145 : (Jvm.Cond.instanceMethod ({ cls := "StandingsHall$Entrant", name := "keepRound", desc := "(I)V" } : Jvm.MethodName)) ∈ lw_tbl := z_in6 (List.mem_of_getElem? (i := 145) rfl)
theorem wS85 : (Cond.selects "StandingsHall$Entrant" ⟨"StandingsHall$Entrant", "keepRound", "(I)V"⟩ ⟨"StandingsHall$Entrant", "keepRound", "(I)V"⟩ : Cond) ∈ lw_tbl := z_inS (List.mem_of_getElem? (i := 85) rfl)
theorem w6_147 : (Jvm.Cond.methodLink "StandingsHall$Entrant" (54 : Nat) ({ cls := "java/lang/Math", name := "floorMod", desc := "(II)I" } : Jvm.MethodName)) ∈ lw_tbl := z_in6 (List.mem_of_getElem? (i := 147) rfl)
theorem w2_78 : (Jvm.Cond.fieldLink "StandingsHall$Entrant" (60 : Nat) "StandingsHall$Entrant" "gained" "I") ∈ lw_tbl := z_in2 (List.mem_of_getElem? (i := 78) rfl)
theorem w6_174 : (Jvm.Cond.code ({ cls := "StandingsHall$Entrant", name := "gainIn", desc := "(I)I" } : Jvm.MethodName) prog_2_method_9_code (2 : Nat) (Option.some Jvm.ClassFile.FieldType.int)) ∈ lw_tbl := z_in6 (List.mem_of_getElem? (i := 174) rfl)
theorem w6_173 : (Jvm.Cond.instanceMethod ({ cls := "StandingsHall$Entrant", name := "gainIn", desc := "(I)I" } : Jvm.MethodName)) ∈ lw_tbl := z_in6 (List.mem_of_getElem? (i := 173) rfl)
theorem wS89 : (Cond.selects "StandingsHall$Entrant" ⟨"StandingsHall$Entrant", "gainIn", "(I)I"⟩ ⟨"StandingsHall$Entrant", "gainIn", "(I)I"⟩ : Cond) ∈ lw_tbl := z_inS (List.mem_of_getElem? (i := 89) rfl)
theorem w6_212 : (Jvm.Cond.code ({ cls := "StandingsHall$Entrant", name := "placeIn", desc := "(I)I" } : Jvm.MethodName) prog_2_method_10_code (2 : Nat) (Option.some Jvm.ClassFile.FieldType.int)) ∈ lw_tbl := z_in6 (List.mem_of_getElem? (i := 212) rfl)
theorem w6_211 : (Jvm.Cond.instanceMethod ({ cls := "StandingsHall$Entrant", name := "placeIn", desc := "(I)I" } : Jvm.MethodName)) ∈ lw_tbl := z_in6 (List.mem_of_getElem? (i := 211) rfl)
theorem wS96 : (Cond.selects "StandingsHall$Entrant" ⟨"StandingsHall$Entrant", "placeIn", "(I)I"⟩ ⟨"StandingsHall$Entrant", "placeIn", "(I)I"⟩ : Cond) ∈ lw_tbl := z_inS (List.mem_of_getElem? (i := 96) rfl)
theorem w1_10 : (Jvm.Cond.initialized "StandingsHall$Ladder") ∈ lw_tbl := z_in1 (List.mem_of_getElem? (i := 10) rfl)
theorem w2_40 : (Jvm.Cond.code ({ cls := "StandingsHall$Ladder", name := "<init>", desc := "()V" } : Jvm.MethodName) prog_3_method_1_code (1 : Nat) (Option.none : Option Jvm.ClassFile.FieldType)) ∈ lw_tbl := z_in2 (List.mem_of_getElem? (i := 40) rfl)
theorem w2_39 : (Jvm.Cond.instanceMethod ({ cls := "StandingsHall$Ladder", name := "<init>", desc := "()V" } : Jvm.MethodName)) ∈ lw_tbl := z_in2 (List.mem_of_getElem? (i := 39) rfl)
theorem w2_41 : (Jvm.Cond.methodLink "StandingsHall$Ladder" (3 : Nat) ({ cls := "java/lang/Object", name := "<init>", desc := "()V" } : Jvm.MethodName)) ∈ lw_tbl := z_in2 (List.mem_of_getElem? (i := 41) rfl)
theorem w2_42 : (Jvm.Cond.classLink "StandingsHall$Ladder" (9 : Nat) "java/util/ArrayList") ∈ lw_tbl := z_in2 (List.mem_of_getElem? (i := 42) rfl)
theorem w1_227 : (Jvm.Cond.instantiable "java/util/ArrayList" (3 : Nat)) ∈ lw_tbl := z_in1 (List.mem_of_getElem? (i := 227) rfl)
theorem w2_43 : (Jvm.Cond.methodLink "StandingsHall$Ladder" (11 : Nat) ({ cls := "java/util/ArrayList", name := "<init>", desc := "()V" } : Jvm.MethodName)) ∈ lw_tbl := z_in2 (List.mem_of_getElem? (i := 43) rfl)
theorem w2_44 : (Jvm.Cond.fieldLink "StandingsHall$Ladder" (12 : Nat) "StandingsHall$Ladder" "row" "Ljava/util/ArrayList;") ∈ lw_tbl := z_in2 (List.mem_of_getElem? (i := 44) rfl)
theorem w2_46 : (Jvm.Cond.fieldLink "StandingsHall$Ladder" (18 : Nat) "StandingsHall$Ladder" "reach" "I") ∈ lw_tbl := z_in2 (List.mem_of_getElem? (i := 46) rfl)
theorem w2_48 : (Jvm.Cond.fieldLink "StandingsHall$Ladder" (22 : Nat) "StandingsHall$Ladder" "patience" "I") ∈ lw_tbl := z_in2 (List.mem_of_getElem? (i := 48) rfl)
theorem w6_92 : (Jvm.Cond.code ({ cls := "StandingsHall$Ladder", name := "put", desc := "(LStandingsHall$Entrant;I)V" } : Jvm.MethodName) prog_3_method_2_code (3 : Nat) (Option.none : Option Jvm.ClassFile.FieldType)) ∈ lw_tbl := z_in6 (List.mem_of_getElem? (i := 92) rfl)
theorem w6_91 : (Jvm.Cond.instanceMethod ({ cls := "StandingsHall$Ladder", name := "put", desc := "(LStandingsHall$Entrant;I)V" } : Jvm.MethodName)) ∈ lw_tbl := z_in6 (List.mem_of_getElem? (i := 91) rfl)
theorem wS80 : (Cond.selects "StandingsHall$Ladder" ⟨"StandingsHall$Ladder", "put", "(LStandingsHall$Entrant;I)V"⟩ ⟨"StandingsHall$Ladder", "put", "(LStandingsHall$Entrant;I)V"⟩ : Cond) ∈ lw_tbl := z_inS (List.mem_of_getElem? (i := 80) rfl)
theorem w2_83 : (Jvm.Cond.fieldLinkNest "StandingsHall$Ladder" (25 : Nat) "StandingsHall$Entrant" "entered" "I" "StandingsHall") ∈ lw_tbl := z_in2 (List.mem_of_getElem? (i := 83) rfl)
theorem w6_93 : (Jvm.Cond.methodLink "StandingsHall$Ladder" (30 : Nat) ({ cls := "java/util/ArrayList", name := "add", desc := "(Ljava/lang/Object;)Z" } : Jvm.MethodName)) ∈ lw_tbl := z_in6 (List.mem_of_getElem? (i := 93) rfl)
theorem w5_211 : (Jvm.Cond.code ({ cls := "StandingsHall$Ladder", name := "take", desc := "(LStandingsHall$Entrant;)V" } : Jvm.MethodName) prog_3_method_3_code (3 : Nat) (Option.none : Option Jvm.ClassFile.FieldType)) ∈ lw_tbl := z_in5 (List.mem_of_getElem? (i := 211) rfl)
theorem w5_210 : (Jvm.Cond.instanceMethod ({ cls := "StandingsHall$Ladder", name := "take", desc := "(LStandingsHall$Entrant;)V" } : Jvm.MethodName)) ∈ lw_tbl := z_in5 (List.mem_of_getElem? (i := 210) rfl)
theorem wS71 : (Cond.selects "StandingsHall$Ladder" ⟨"StandingsHall$Ladder", "take", "(LStandingsHall$Entrant;)V"⟩ ⟨"StandingsHall$Ladder", "take", "(LStandingsHall$Entrant;)V"⟩ : Cond) ∈ lw_tbl := z_inS (List.mem_of_getElem? (i := 71) rfl)
theorem w5_215 : (Jvm.Cond.code ({ cls := "StandingsHall$Ladder", name := "placeIn", desc := "(LStandingsHall$Entrant;)I" } : Jvm.MethodName) prog_3_method_4_code (3 : Nat) (Option.some Jvm.ClassFile.FieldType.int)) ∈ lw_tbl := z_in5 (List.mem_of_getElem? (i := 215) rfl)
theorem w5_214 : (Jvm.Cond.instanceMethod ({ cls := "StandingsHall$Ladder", name := "placeIn", desc := "(LStandingsHall$Entrant;)I" } : Jvm.MethodName)) ∈ lw_tbl := z_in5 (List.mem_of_getElem? (i := 214) rfl)
theorem wS72 : (Cond.selects "StandingsHall$Ladder" ⟨"StandingsHall$Ladder", "placeIn", "(LStandingsHall$Entrant;)I"⟩ ⟨"StandingsHall$Ladder", "placeIn", "(LStandingsHall$Entrant;)I"⟩ : Cond) ∈ lw_tbl := z_inS (List.mem_of_getElem? (i := 72) rfl)
theorem w5_212 : (Jvm.Cond.methodLink "StandingsHall$Ladder" (34 : Nat) ({ cls := "StandingsHall$Ladder", name := "placeIn", desc := "(LStandingsHall$Entrant;)I" } : Jvm.MethodName)) ∈ lw_tbl := z_in5 (List.mem_of_getElem? (i := 212) rfl)
theorem w5_216 : (Jvm.Cond.methodLink "StandingsHall$Ladder" (38 : Nat) ({ cls := "java/util/ArrayList", name := "size", desc := "()I" } : Jvm.MethodName)) ∈ lw_tbl := z_in5 (List.mem_of_getElem? (i := 216) rfl)
theorem w5_218 : (Jvm.Cond.methodLink "StandingsHall$Ladder" (42 : Nat) ({ cls := "java/util/ArrayList", name := "remove", desc := "(I)Ljava/lang/Object;" } : Jvm.MethodName)) ∈ lw_tbl := z_in5 (List.mem_of_getElem? (i := 218) rfl)
theorem w5_217 : (Jvm.Cond.methodLink "StandingsHall$Ladder" (46 : Nat) ({ cls := "java/util/ArrayList", name := "get", desc := "(I)Ljava/lang/Object;" } : Jvm.MethodName)) ∈ lw_tbl := z_in5 (List.mem_of_getElem? (i := 217) rfl)
theorem w6_111 : (Jvm.Cond.code ({ cls := "StandingsHall$Ladder", name := "raise", desc := "(II)V" } : Jvm.MethodName) prog_3_method_5_code (4 : Nat) (Option.none : Option Jvm.ClassFile.FieldType)) ∈ lw_tbl := z_in6 (List.mem_of_getElem? (i := 111) rfl)
theorem w6_110 : (Jvm.Cond.instanceMethod ({ cls := "StandingsHall$Ladder", name := "raise", desc := "(II)V" } : Jvm.MethodName)) ∈ lw_tbl := z_in6 (List.mem_of_getElem? (i := 110) rfl)
theorem wS81 : (Cond.selects "StandingsHall$Ladder" ⟨"StandingsHall$Ladder", "raise", "(II)V"⟩ ⟨"StandingsHall$Ladder", "raise", "(II)V"⟩ : Cond) ∈ lw_tbl := z_inS (List.mem_of_getElem? (i := 81) rfl)
theorem w6_112 : (Jvm.Cond.classLink "StandingsHall$Ladder" (26 : Nat) "StandingsHall$Entrant") ∈ lw_tbl := z_in6 (List.mem_of_getElem? (i := 112) rfl)
theorem w6_113 : (Jvm.Cond.methodLink "StandingsHall$Ladder" (49 : Nat) ({ cls := "java/util/ArrayList", name := "add", desc := "(ILjava/lang/Object;)V" } : Jvm.MethodName)) ∈ lw_tbl := z_in6 (List.mem_of_getElem? (i := 113) rfl)
theorem w6_138 : (Jvm.Cond.code ({ cls := "StandingsHall$Ladder", name := "letFall", desc := "(I)V" } : Jvm.MethodName) prog_3_method_6_code (5 : Nat) (Option.none : Option Jvm.ClassFile.FieldType)) ∈ lw_tbl := z_in6 (List.mem_of_getElem? (i := 138) rfl)
theorem w6_137 : (Jvm.Cond.instanceMethod ({ cls := "StandingsHall$Ladder", name := "letFall", desc := "(I)V" } : Jvm.MethodName)) ∈ lw_tbl := z_in6 (List.mem_of_getElem? (i := 137) rfl)
theorem wS84 : (Cond.selects "StandingsHall$Ladder" ⟨"StandingsHall$Ladder", "letFall", "(I)V"⟩ ⟨"StandingsHall$Ladder", "letFall", "(I)V"⟩ : Cond) ∈ lw_tbl := z_inS (List.mem_of_getElem? (i := 84) rfl)
theorem w2_85 : (Jvm.Cond.fieldLinkNest "StandingsHall$Ladder" (52 : Nat) "StandingsHall$Entrant" "played" "I" "StandingsHall") ∈ lw_tbl := z_in2 (List.mem_of_getElem? (i := 85) rfl)
theorem w6_139 : (Jvm.Cond.methodLink "StandingsHall$Ladder" (55 : Nat) ({ cls := "java/util/ArrayList", name := "set", desc := "(ILjava/lang/Object;)Ljava/lang/Object;" } : Jvm.MethodName)) ∈ lw_tbl := z_in6 (List.mem_of_getElem? (i := 139) rfl)
theorem w1_4 : (Jvm.Cond.initialized "StandingsHall$Order") ∈ lw_tbl := z_in1 (List.mem_of_getElem? (i := 4) rfl)
theorem w1_205 : (Jvm.Cond.code ({ cls := "StandingsHall$Order", name := "<init>", desc := "()V" } : Jvm.MethodName) prog_4_method_1_code (1 : Nat) (Option.none : Option Jvm.ClassFile.FieldType)) ∈ lw_tbl := z_in1 (List.mem_of_getElem? (i := 205) rfl)
theorem w1_204 : (Jvm.Cond.instanceMethod ({ cls := "StandingsHall$Order", name := "<init>", desc := "()V" } : Jvm.MethodName)) ∈ lw_tbl := z_in1 (List.mem_of_getElem? (i := 204) rfl)
theorem w1_206 : (Jvm.Cond.methodLink "StandingsHall$Order" (3 : Nat) ({ cls := "java/lang/Object", name := "<init>", desc := "()V" } : Jvm.MethodName)) ∈ lw_tbl := z_in1 (List.mem_of_getElem? (i := 206) rfl)
theorem w1_207 : (Jvm.Cond.fieldLink "StandingsHall$Order" (9 : Nat) "StandingsHall$Order" "factors" "[I") ∈ lw_tbl := z_in1 (List.mem_of_getElem? (i := 207) rfl)
theorem w1_208 : (Jvm.Cond.fieldLink "StandingsHall$Order" (15 : Nat) "StandingsHall$Order" "signs" "[I") ∈ lw_tbl := z_in1 (List.mem_of_getElem? (i := 208) rfl)
theorem w4_112 : (Jvm.Cond.code ({ cls := "StandingsHall$Order", name := "empty", desc := "()V" } : Jvm.MethodName) prog_4_method_2_code (1 : Nat) (Option.none : Option Jvm.ClassFile.FieldType)) ∈ lw_tbl := z_in4 (List.mem_of_getElem? (i := 112) rfl)
theorem w4_111 : (Jvm.Cond.instanceMethod ({ cls := "StandingsHall$Order", name := "empty", desc := "()V" } : Jvm.MethodName)) ∈ lw_tbl := z_in4 (List.mem_of_getElem? (i := 111) rfl)
theorem wS28 : (Cond.selects "StandingsHall$Order" ⟨"StandingsHall$Order", "empty", "()V"⟩ ⟨"StandingsHall$Order", "empty", "()V"⟩ : Cond) ∈ lw_tbl := z_inS (List.mem_of_getElem? (i := 28) rfl)
theorem w4_113 : (Jvm.Cond.methodLink "StandingsHall$Order" (18 : Nat) ({ cls := "java/util/Arrays", name := "fill", desc := "([II)V" } : Jvm.MethodName)) ∈ lw_tbl := z_in4 (List.mem_of_getElem? (i := 113) rfl)
theorem w1_209 : (Jvm.Cond.fieldLink "StandingsHall$Order" (24 : Nat) "StandingsHall$Order" "count" "I") ∈ lw_tbl := z_in1 (List.mem_of_getElem? (i := 209) rfl)
theorem w1_221 : (Jvm.Cond.code ({ cls := "StandingsHall$Order", name := "begin", desc := "(II)V" } : Jvm.MethodName) prog_4_method_3_code (3 : Nat) (Option.none : Option Jvm.ClassFile.FieldType)) ∈ lw_tbl := z_in1 (List.mem_of_getElem? (i := 221) rfl)
theorem w1_220 : (Jvm.Cond.instanceMethod ({ cls := "StandingsHall$Order", name := "begin", desc := "(II)V" } : Jvm.MethodName)) ∈ lw_tbl := z_in1 (List.mem_of_getElem? (i := 220) rfl)
theorem wS19 : (Cond.selects "StandingsHall$Order" ⟨"StandingsHall$Order", "begin", "(II)V"⟩ ⟨"StandingsHall$Order", "begin", "(II)V"⟩ : Cond) ∈ lw_tbl := z_inS (List.mem_of_getElem? (i := 19) rfl)
theorem w1_89 : (Jvm.Cond.code ({ cls := "StandingsHall$Order", name := "isCriterion", desc := "(I)Z" } : Jvm.MethodName) prog_4_method_5_code (2 : Nat) (Option.some Jvm.ClassFile.FieldType.boolean)) ∈ lw_tbl := z_in1 (List.mem_of_getElem? (i := 89) rfl)
theorem w1_88 : (Jvm.Cond.instanceMethod ({ cls := "StandingsHall$Order", name := "isCriterion", desc := "(I)Z" } : Jvm.MethodName)) ∈ lw_tbl := z_in1 (List.mem_of_getElem? (i := 88) rfl)
theorem wS7 : (Cond.selects "StandingsHall$Order" ⟨"StandingsHall$Order", "isCriterion", "(I)Z"⟩ ⟨"StandingsHall$Order", "isCriterion", "(I)Z"⟩ : Cond) ∈ lw_tbl := z_inS (List.mem_of_getElem? (i := 7) rfl)
theorem w1_86 : (Jvm.Cond.methodLink "StandingsHall$Order" (28 : Nat) ({ cls := "StandingsHall$Order", name := "isCriterion", desc := "(I)Z" } : Jvm.MethodName)) ∈ lw_tbl := z_in1 (List.mem_of_getElem? (i := 86) rfl)
theorem w1_225 : (Jvm.Cond.code ({ cls := "StandingsHall$Order", name := "addTerm", desc := "(III)V" } : Jvm.MethodName) prog_4_method_4_code (4 : Nat) (Option.none : Option Jvm.ClassFile.FieldType)) ∈ lw_tbl := z_in1 (List.mem_of_getElem? (i := 225) rfl)
theorem w1_224 : (Jvm.Cond.instanceMethod ({ cls := "StandingsHall$Order", name := "addTerm", desc := "(III)V" } : Jvm.MethodName)) ∈ lw_tbl := z_in1 (List.mem_of_getElem? (i := 224) rfl)
theorem wS20 : (Cond.selects "StandingsHall$Order" ⟨"StandingsHall$Order", "addTerm", "(III)V"⟩ ⟨"StandingsHall$Order", "addTerm", "(III)V"⟩ : Cond) ∈ lw_tbl := z_inS (List.mem_of_getElem? (i := 20) rfl)
theorem w1_85 : (Jvm.Cond.code ({ cls := "StandingsHall$Order", name := "valueFor", desc := "(LStandingsHall$Entrant;I)I" } : Jvm.MethodName) prog_4_method_6_code (5 : Nat) (Option.some Jvm.ClassFile.FieldType.int)) ∈ lw_tbl := z_in1 (List.mem_of_getElem? (i := 85) rfl)
theorem w1_84 : (Jvm.Cond.instanceMethod ({ cls := "StandingsHall$Order", name := "valueFor", desc := "(LStandingsHall$Entrant;I)I" } : Jvm.MethodName)) ∈ lw_tbl := z_in1 (List.mem_of_getElem? (i := 84) rfl)
theorem wS6 : (Cond.selects "StandingsHall$Order" ⟨"StandingsHall$Order", "valueFor", "(LStandingsHall$Entrant;I)I"⟩ ⟨"StandingsHall$Order", "valueFor", "(LStandingsHall$Entrant;I)I"⟩ : Cond) ∈ lw_tbl := z_inS (List.mem_of_getElem? (i := 6) rfl)
theorem w1_90 : (Jvm.Cond.methodLinkNest "StandingsHall$Order" (32 : Nat) ({ cls := "StandingsHall$Entrant", name := "scoreIn", desc := "(I)I" } : Jvm.MethodName) "StandingsHall") ∈ lw_tbl := z_in1 (List.mem_of_getElem? (i := 90) rfl)
theorem w1_81 : (Jvm.Cond.code ({ cls := "StandingsHall$Order", name := "judge", desc := "(LStandingsHall$Entrant;)V" } : Jvm.MethodName) prog_4_method_7_code (3 : Nat) (Option.none : Option Jvm.ClassFile.FieldType)) ∈ lw_tbl := z_in1 (List.mem_of_getElem? (i := 81) rfl)
theorem w1_79 : (Jvm.Cond.instanceMethod ({ cls := "StandingsHall$Order", name := "judge", desc := "(LStandingsHall$Entrant;)V" } : Jvm.MethodName)) ∈ lw_tbl := z_in1 (List.mem_of_getElem? (i := 79) rfl)
theorem wS5 : (Cond.selects "StandingsHall$Order" ⟨"StandingsHall$Order", "judge", "(LStandingsHall$Entrant;)V"⟩ ⟨"StandingsHall$Order", "judge", "(LStandingsHall$Entrant;)V"⟩ : Cond) ∈ lw_tbl := z_inS (List.mem_of_getElem? (i := 5) rfl)
theorem w2_74 : (Jvm.Cond.fieldLinkNest "StandingsHall$Order" (38 : Nat) "StandingsHall$Entrant" "merits" "[I" "StandingsHall") ∈ lw_tbl := z_in2 (List.mem_of_getElem? (i := 74) rfl)
theorem w1_82 : (Jvm.Cond.methodLink "StandingsHall$Order" (41 : Nat) ({ cls := "StandingsHall$Order", name := "valueFor", desc := "(LStandingsHall$Entrant;I)I" } : Jvm.MethodName)) ∈ lw_tbl := z_in1 (List.mem_of_getElem? (i := 82) rfl)
theorem w1_3 : (Jvm.Cond.initialized "StandingsHall$OrderReader") ∈ lw_tbl := z_in1 (List.mem_of_getElem? (i := 3) rfl)
theorem w1_180 : (Jvm.Cond.code ({ cls := "StandingsHall$OrderReader", name := "<init>", desc := "(LStandingsHall$Tape;)V" } : Jvm.MethodName) prog_5_method_1_code (2 : Nat) (Option.none : Option Jvm.ClassFile.FieldType)) ∈ lw_tbl := z_in1 (List.mem_of_getElem? (i := 180) rfl)
theorem w1_179 : (Jvm.Cond.instanceMethod ({ cls := "StandingsHall$OrderReader", name := "<init>", desc := "(LStandingsHall$Tape;)V" } : Jvm.MethodName)) ∈ lw_tbl := z_in1 (List.mem_of_getElem? (i := 179) rfl)
theorem w1_181 : (Jvm.Cond.methodLink "StandingsHall$OrderReader" (3 : Nat) ({ cls := "java/lang/Object", name := "<init>", desc := "()V" } : Jvm.MethodName)) ∈ lw_tbl := z_in1 (List.mem_of_getElem? (i := 181) rfl)
theorem w1_182 : (Jvm.Cond.fieldLink "StandingsHall$OrderReader" (9 : Nat) "StandingsHall$OrderReader" "tape" "LStandingsHall$Tape;") ∈ lw_tbl := z_in1 (List.mem_of_getElem? (i := 182) rfl)
theorem w4_108 : (Jvm.Cond.code ({ cls := "StandingsHall$OrderReader", name := "readOrder", desc := "(LStandingsHall$Order;)Z" } : Jvm.MethodName) prog_5_method_2_code (3 : Nat) (Option.some Jvm.ClassFile.FieldType.boolean)) ∈ lw_tbl := z_in4 (List.mem_of_getElem? (i := 108) rfl)
theorem w4_107 : (Jvm.Cond.instanceMethod ({ cls := "StandingsHall$OrderReader", name := "readOrder", desc := "(LStandingsHall$Order;)Z" } : Jvm.MethodName)) ∈ lw_tbl := z_in4 (List.mem_of_getElem? (i := 107) rfl)
theorem wS27 : (Cond.selects "StandingsHall$OrderReader" ⟨"StandingsHall$OrderReader", "readOrder", "(LStandingsHall$Order;)Z"⟩ ⟨"StandingsHall$OrderReader", "readOrder", "(LStandingsHall$Order;)Z"⟩ : Cond) ∈ lw_tbl := z_inS (List.mem_of_getElem? (i := 27) rfl)
theorem w4_109 : (Jvm.Cond.methodLinkNest "StandingsHall$OrderReader" (15 : Nat) ({ cls := "StandingsHall$Order", name := "empty", desc := "()V" } : Jvm.MethodName) "StandingsHall") ∈ lw_tbl := z_in4 (List.mem_of_getElem? (i := 109) rfl)
theorem w1_186 : (Jvm.Cond.fieldLink "StandingsHall$OrderReader" (20 : Nat) "StandingsHall$OrderReader" "after" "I") ∈ lw_tbl := z_in1 (List.mem_of_getElem? (i := 186) rfl)
theorem w4_117 : (Jvm.Cond.code ({ cls := "StandingsHall$OrderReader", name := "readToken", desc := "()V" } : Jvm.MethodName) prog_5_method_5_code (2 : Nat) (Option.none : Option Jvm.ClassFile.FieldType)) ∈ lw_tbl := z_in4 (List.mem_of_getElem? (i := 117) rfl)
theorem w4_116 : (Jvm.Cond.instanceMethod ({ cls := "StandingsHall$OrderReader", name := "readToken", desc := "()V" } : Jvm.MethodName)) ∈ lw_tbl := z_in4 (List.mem_of_getElem? (i := 116) rfl)
theorem wS29 : (Cond.selects "StandingsHall$OrderReader" ⟨"StandingsHall$OrderReader", "readToken", "()V"⟩ ⟨"StandingsHall$OrderReader", "readToken", "()V"⟩ : Cond) ∈ lw_tbl := z_inS (List.mem_of_getElem? (i := 29) rfl)
theorem w4_114 : (Jvm.Cond.methodLink "StandingsHall$OrderReader" (24 : Nat) ({ cls := "StandingsHall$OrderReader", name := "readToken", desc := "()V" } : Jvm.MethodName)) ∈ lw_tbl := z_in4 (List.mem_of_getElem? (i := 114) rfl)
theorem w4_145 : (Jvm.Cond.code ({ cls := "StandingsHall$OrderReader", name := "readCriterion", desc := "(LStandingsHall$Order;I)Z" } : Jvm.MethodName) prog_5_method_3_code (5 : Nat) (Option.some Jvm.ClassFile.FieldType.boolean)) ∈ lw_tbl := z_in4 (List.mem_of_getElem? (i := 145) rfl)
theorem w4_144 : (Jvm.Cond.instanceMethod ({ cls := "StandingsHall$OrderReader", name := "readCriterion", desc := "(LStandingsHall$Order;I)Z" } : Jvm.MethodName)) ∈ lw_tbl := z_in4 (List.mem_of_getElem? (i := 144) rfl)
theorem wS36 : (Cond.selects "StandingsHall$OrderReader" ⟨"StandingsHall$OrderReader", "readCriterion", "(LStandingsHall$Order;I)Z"⟩ ⟨"StandingsHall$OrderReader", "readCriterion", "(LStandingsHall$Order;I)Z"⟩ : Cond) ∈ lw_tbl := z_inS (List.mem_of_getElem? (i := 36) rfl)
theorem w4_142 : (Jvm.Cond.methodLink "StandingsHall$OrderReader" (27 : Nat) ({ cls := "StandingsHall$OrderReader", name := "readCriterion", desc := "(LStandingsHall$Order;I)Z" } : Jvm.MethodName)) ∈ lw_tbl := z_in4 (List.mem_of_getElem? (i := 142) rfl)
theorem w1_183 : (Jvm.Cond.fieldLink "StandingsHall$OrderReader" (31 : Nat) "StandingsHall$OrderReader" "token" "I") ∈ lw_tbl := z_in1 (List.mem_of_getElem? (i := 183) rfl)
theorem w4_146 : (Jvm.Cond.methodLinkNest "StandingsHall$OrderReader" (34 : Nat) ({ cls := "StandingsHall$Order", name := "begin", desc := "(II)V" } : Jvm.MethodName) "StandingsHall") ∈ lw_tbl := z_in4 (List.mem_of_getElem? (i := 146) rfl)
theorem w4_150 : (Jvm.Cond.code ({ cls := "StandingsHall$OrderReader", name := "readTerm", desc := "(LStandingsHall$Order;II)Z" } : Jvm.MethodName) prog_5_method_4_code (5 : Nat) (Option.some Jvm.ClassFile.FieldType.boolean)) ∈ lw_tbl := z_in4 (List.mem_of_getElem? (i := 150) rfl)
theorem w4_149 : (Jvm.Cond.instanceMethod ({ cls := "StandingsHall$OrderReader", name := "readTerm", desc := "(LStandingsHall$Order;II)Z" } : Jvm.MethodName)) ∈ lw_tbl := z_in4 (List.mem_of_getElem? (i := 149) rfl)
theorem wS37 : (Cond.selects "StandingsHall$OrderReader" ⟨"StandingsHall$OrderReader", "readTerm", "(LStandingsHall$Order;II)Z"⟩ ⟨"StandingsHall$OrderReader", "readTerm", "(LStandingsHall$Order;II)Z"⟩ : Cond) ∈ lw_tbl := z_inS (List.mem_of_getElem? (i := 37) rfl)
theorem w4_147 : (Jvm.Cond.methodLink "StandingsHall$OrderReader" (38 : Nat) ({ cls := "StandingsHall$OrderReader", name := "readTerm", desc := "(LStandingsHall$Order;II)Z" } : Jvm.MethodName)) ∈ lw_tbl := z_in4 (List.mem_of_getElem? (i := 147) rfl)
theorem w1_187 : (Jvm.Cond.fieldLink "StandingsHall$OrderReader" (42 : Nat) "StandingsHall$OrderReader" "number" "I") ∈ lw_tbl := z_in1 (List.mem_of_getElem? (i := 187) rfl)
theorem w1_188 : (Jvm.Cond.fieldLink "StandingsHall$OrderReader" (45 : Nat) "StandingsHall$OrderReader" "kind" "I") ∈ lw_tbl := z_in1 (List.mem_of_getElem? (i := 188) rfl)
theorem w4_151 : (Jvm.Cond.methodLinkNest "StandingsHall$OrderReader" (48 : Nat) ({ cls := "StandingsHall$Order", name := "addTerm", desc := "(III)V" } : Jvm.MethodName) "StandingsHall") ∈ lw_tbl := z_in4 (List.mem_of_getElem? (i := 151) rfl)
theorem w1_185 : (Jvm.Cond.fieldLink "StandingsHall$OrderReader" (52 : Nat) "StandingsHall$OrderReader" "start" "I") ∈ lw_tbl := z_in1 (List.mem_of_getElem? (i := 185) rfl)
theorem w1_2 : (Jvm.Cond.initialized "StandingsHall$Tape") ∈ lw_tbl := z_in1 (List.mem_of_getElem? (i := 2) rfl)
theorem w4_121 : (Jvm.Cond.code ({ cls := "StandingsHall$Tape", name := "byteAt", desc := "(I)I" } : Jvm.MethodName) prog_8_method_4_code (2 : Nat) (Option.some Jvm.ClassFile.FieldType.int)) ∈ lw_tbl := z_in4 (List.mem_of_getElem? (i := 121) rfl)
theorem w4_120 : (Jvm.Cond.instanceMethod ({ cls := "StandingsHall$Tape", name := "byteAt", desc := "(I)I" } : Jvm.MethodName)) ∈ lw_tbl := z_in4 (List.mem_of_getElem? (i := 120) rfl)
theorem wS30 : (Cond.selects "StandingsHall$Tape" ⟨"StandingsHall$Tape", "byteAt", "(I)I"⟩ ⟨"StandingsHall$Tape", "byteAt", "(I)I"⟩ : Cond) ∈ lw_tbl := z_inS (List.mem_of_getElem? (i := 30) rfl)
theorem w4_118 : (Jvm.Cond.methodLinkNest "StandingsHall$OrderReader" (55 : Nat) ({ cls := "StandingsHall$Tape", name := "byteAt", desc := "(I)I" } : Jvm.MethodName) "StandingsHall") ∈ lw_tbl := z_in4 (List.mem_of_getElem? (i := 118) rfl)
theorem w4_125 : (Jvm.Cond.code ({ cls := "StandingsHall$OrderReader", name := "isBlank", desc := "(I)Z" } : Jvm.MethodName) prog_5_method_9_code (2 : Nat) (Option.some Jvm.ClassFile.FieldType.boolean)) ∈ lw_tbl := z_in4 (List.mem_of_getElem? (i := 125) rfl)
theorem w4_124 : (Jvm.Cond.instanceMethod ({ cls := "StandingsHall$OrderReader", name := "isBlank", desc := "(I)Z" } : Jvm.MethodName)) ∈ lw_tbl := z_in4 (List.mem_of_getElem? (i := 124) rfl)
theorem wS31 : (Cond.selects "StandingsHall$OrderReader" ⟨"StandingsHall$OrderReader", "isBlank", "(I)Z"⟩ ⟨"StandingsHall$OrderReader", "isBlank", "(I)Z"⟩ : Cond) ∈ lw_tbl := z_inS (List.mem_of_getElem? (i := 31) rfl)
theorem w4_122 : (Jvm.Cond.methodLink "StandingsHall$OrderReader" (61 : Nat) ({ cls := "StandingsHall$OrderReader", name := "isBlank", desc := "(I)Z" } : Jvm.MethodName)) ∈ lw_tbl := z_in4 (List.mem_of_getElem? (i := 122) rfl)
theorem w4_129 : (Jvm.Cond.code ({ cls := "StandingsHall$OrderReader", name := "isDigit", desc := "(I)Z" } : Jvm.MethodName) prog_5_method_10_code (2 : Nat) (Option.some Jvm.ClassFile.FieldType.boolean)) ∈ lw_tbl := z_in4 (List.mem_of_getElem? (i := 129) rfl)
theorem w4_128 : (Jvm.Cond.instanceMethod ({ cls := "StandingsHall$OrderReader", name := "isDigit", desc := "(I)Z" } : Jvm.MethodName)) ∈ lw_tbl := z_in4 (List.mem_of_getElem? (i := 128) rfl)
theorem wS32 : (Cond.selects "StandingsHall$OrderReader" ⟨"StandingsHall$OrderReader", "isDigit", "(I)Z"⟩ ⟨"StandingsHall$OrderReader", "isDigit", "(I)Z"⟩ : Cond) ∈ lw_tbl := z_inS (List.mem_of_getElem? (i := 32) rfl)
theorem w4_126 : (Jvm.Cond.methodLink "StandingsHall$OrderReader" (65 : Nat) ({ cls := "StandingsHall$OrderReader", name := "isDigit", desc := "(I)Z" } : Jvm.MethodName)) ∈ lw_tbl := z_in4 (List.mem_of_getElem? (i := 126) rfl)
theorem w4_133 : (Jvm.Cond.code ({ cls := "StandingsHall$OrderReader", name := "readDigits", desc := "()V" } : Jvm.MethodName) prog_5_method_7_code (2 : Nat) (Option.none : Option Jvm.ClassFile.FieldType)) ∈ lw_tbl := z_in4 (List.mem_of_getElem? (i := 133) rfl)
theorem w4_132 : (Jvm.Cond.instanceMethod ({ cls := "StandingsHall$OrderReader", name := "readDigits", desc := "()V" } : Jvm.MethodName)) ∈ lw_tbl := z_in4 (List.mem_of_getElem? (i := 132) rfl)
theorem wS33 : (Cond.selects "StandingsHall$OrderReader" ⟨"StandingsHall$OrderReader", "readDigits", "()V"⟩ ⟨"StandingsHall$OrderReader", "readDigits", "()V"⟩ : Cond) ∈ lw_tbl := z_inS (List.mem_of_getElem? (i := 33) rfl)
theorem w4_130 : (Jvm.Cond.methodLink "StandingsHall$OrderReader" (68 : Nat) ({ cls := "StandingsHall$OrderReader", name := "readDigits", desc := "()V" } : Jvm.MethodName)) ∈ lw_tbl := z_in4 (List.mem_of_getElem? (i := 130) rfl)
theorem w4_137 : (Jvm.Cond.code ({ cls := "StandingsHall$OrderReader", name := "readSign", desc := "(I)V" } : Jvm.MethodName) prog_5_method_6_code (2 : Nat) (Option.none : Option Jvm.ClassFile.FieldType)) ∈ lw_tbl := z_in4 (List.mem_of_getElem? (i := 137) rfl)
theorem w4_136 : (Jvm.Cond.instanceMethod ({ cls := "StandingsHall$OrderReader", name := "readSign", desc := "(I)V" } : Jvm.MethodName)) ∈ lw_tbl := z_in4 (List.mem_of_getElem? (i := 136) rfl)
theorem wS34 : (Cond.selects "StandingsHall$OrderReader" ⟨"StandingsHall$OrderReader", "readSign", "(I)V"⟩ ⟨"StandingsHall$OrderReader", "readSign", "(I)V"⟩ : Cond) ∈ lw_tbl := z_inS (List.mem_of_getElem? (i := 34) rfl)
theorem w4_134 : (Jvm.Cond.methodLink "StandingsHall$OrderReader" (71 : Nat) ({ cls := "StandingsHall$OrderReader", name := "readSign", desc := "(I)V" } : Jvm.MethodName)) ∈ lw_tbl := z_in4 (List.mem_of_getElem? (i := 134) rfl)
theorem w4_141 : (Jvm.Cond.code ({ cls := "StandingsHall$OrderReader", name := "isSign", desc := "(I)Z" } : Jvm.MethodName) prog_5_method_8_code (2 : Nat) (Option.some Jvm.ClassFile.FieldType.boolean)) ∈ lw_tbl := z_in4 (List.mem_of_getElem? (i := 141) rfl)
theorem w4_140 : (Jvm.Cond.instanceMethod ({ cls := "StandingsHall$OrderReader", name := "isSign", desc := "(I)Z" } : Jvm.MethodName)) ∈ lw_tbl := z_in4 (List.mem_of_getElem? (i := 140) rfl)
theorem wS35 : (Cond.selects "StandingsHall$OrderReader" ⟨"StandingsHall$OrderReader", "isSign", "(I)Z"⟩ ⟨"StandingsHall$OrderReader", "isSign", "(I)Z"⟩ : Cond) ∈ lw_tbl := z_inS (List.mem_of_getElem? (i := 35) rfl)
theorem w4_138 : (Jvm.Cond.methodLink "StandingsHall$OrderReader" (75 : Nat) ({ cls := "StandingsHall$OrderReader", name := "isSign", desc := "(I)Z" } : Jvm.MethodName)) ∈ lw_tbl := z_in4 (List.mem_of_getElem? (i := 138) rfl)
theorem w1_9 : (Jvm.Cond.initialized "StandingsHall$PointsRow") ∈ lw_tbl := z_in1 (List.mem_of_getElem? (i := 9) rfl)
theorem w2_27 : (Jvm.Cond.code ({ cls := "StandingsHall$PointsRow", name := "<init>", desc := "()V" } : Jvm.MethodName) prog_6_method_1_code (1 : Nat) (Option.none : Option Jvm.ClassFile.FieldType)) ∈ lw_tbl := z_in2 (List.mem_of_getElem? (i := 27) rfl)
theorem w2_26 : (Jvm.Cond.instanceMethod ({ cls := "StandingsHall$PointsRow", name := "<init>", desc := "()V" } : Jvm.MethodName)) ∈ lw_tbl := z_in2 (List.mem_of_getElem? (i := 26) rfl)
theorem w2_28 : (Jvm.Cond.methodLink "StandingsHall$PointsRow" (1 : Nat) ({ cls := "java/lang/Object", name := "<init>", desc := "()V" } : Jvm.MethodName)) ∈ lw_tbl := z_in2 (List.mem_of_getElem? (i := 28) rfl)
theorem w2_29 : (Jvm.Cond.classLink "StandingsHall$PointsRow" (7 : Nat) "java/util/ArrayList") ∈ lw_tbl := z_in2 (List.mem_of_getElem? (i := 29) rfl)
theorem w2_30 : (Jvm.Cond.methodLink "StandingsHall$PointsRow" (9 : Nat) ({ cls := "java/util/ArrayList", name := "<init>", desc := "()V" } : Jvm.MethodName)) ∈ lw_tbl := z_in2 (List.mem_of_getElem? (i := 30) rfl)
theorem w2_31 : (Jvm.Cond.fieldLink "StandingsHall$PointsRow" (10 : Nat) "StandingsHall$PointsRow" "row" "Ljava/util/ArrayList;") ∈ lw_tbl := z_in2 (List.mem_of_getElem? (i := 31) rfl)
theorem w5_169 : (Jvm.Cond.code ({ cls := "StandingsHall$PointsRow", name := "put", desc := "(LStandingsHall$Entrant;)V" } : Jvm.MethodName) prog_6_method_2_code (2 : Nat) (Option.none : Option Jvm.ClassFile.FieldType)) ∈ lw_tbl := z_in5 (List.mem_of_getElem? (i := 169) rfl)
theorem w5_168 : (Jvm.Cond.instanceMethod ({ cls := "StandingsHall$PointsRow", name := "put", desc := "(LStandingsHall$Entrant;)V" } : Jvm.MethodName)) ∈ lw_tbl := z_in5 (List.mem_of_getElem? (i := 168) rfl)
theorem wS66 : (Cond.selects "StandingsHall$PointsRow" ⟨"StandingsHall$PointsRow", "put", "(LStandingsHall$Entrant;)V"⟩ ⟨"StandingsHall$PointsRow", "put", "(LStandingsHall$Entrant;)V"⟩ : Cond) ∈ lw_tbl := z_inS (List.mem_of_getElem? (i := 66) rfl)
theorem w1_127 : (Jvm.Cond.methodLinkNest "StandingsHall$PointsRow" (16 : Nat) ({ cls := "StandingsHall$Entrant", name := "points", desc := "()I" } : Jvm.MethodName) "StandingsHall") ∈ lw_tbl := z_in1 (List.mem_of_getElem? (i := 127) rfl)
theorem w1_123 : (Jvm.Cond.code ({ cls := "StandingsHall$PointsRow", name := "countUpTo", desc := "(I)I" } : Jvm.MethodName) prog_6_method_5_code (4 : Nat) (Option.some Jvm.ClassFile.FieldType.int)) ∈ lw_tbl := z_in1 (List.mem_of_getElem? (i := 123) rfl)
theorem w1_121 : (Jvm.Cond.instanceMethod ({ cls := "StandingsHall$PointsRow", name := "countUpTo", desc := "(I)I" } : Jvm.MethodName)) ∈ lw_tbl := z_in1 (List.mem_of_getElem? (i := 121) rfl)
theorem wS14 : (Cond.selects "StandingsHall$PointsRow" ⟨"StandingsHall$PointsRow", "countUpTo", "(I)I"⟩ ⟨"StandingsHall$PointsRow", "countUpTo", "(I)I"⟩ : Cond) ∈ lw_tbl := z_inS (List.mem_of_getElem? (i := 14) rfl)
theorem w5_170 : (Jvm.Cond.methodLink "StandingsHall$PointsRow" (22 : Nat) ({ cls := "StandingsHall$PointsRow", name := "countUpTo", desc := "(I)I" } : Jvm.MethodName)) ∈ lw_tbl := z_in5 (List.mem_of_getElem? (i := 170) rfl)
theorem w5_171 : (Jvm.Cond.methodLink "StandingsHall$PointsRow" (26 : Nat) ({ cls := "java/util/ArrayList", name := "add", desc := "(ILjava/lang/Object;)V" } : Jvm.MethodName)) ∈ lw_tbl := z_in5 (List.mem_of_getElem? (i := 171) rfl)
theorem w5_164 : (Jvm.Cond.code ({ cls := "StandingsHall$PointsRow", name := "take", desc := "(LStandingsHall$Entrant;)V" } : Jvm.MethodName) prog_6_method_3_code (3 : Nat) (Option.none : Option Jvm.ClassFile.FieldType)) ∈ lw_tbl := z_in5 (List.mem_of_getElem? (i := 164) rfl)
theorem w5_163 : (Jvm.Cond.instanceMethod ({ cls := "StandingsHall$PointsRow", name := "take", desc := "(LStandingsHall$Entrant;)V" } : Jvm.MethodName)) ∈ lw_tbl := z_in5 (List.mem_of_getElem? (i := 163) rfl)
theorem wS65 : (Cond.selects "StandingsHall$PointsRow" ⟨"StandingsHall$PointsRow", "take", "(LStandingsHall$Entrant;)V"⟩ ⟨"StandingsHall$PointsRow", "take", "(LStandingsHall$Entrant;)V"⟩ : Cond) ∈ lw_tbl := z_inS (List.mem_of_getElem? (i := 65) rfl)
theorem w1_124 : (Jvm.Cond.methodLink "StandingsHall$PointsRow" (30 : Nat) ({ cls := "java/util/ArrayList", name := "size", desc := "()I" } : Jvm.MethodName)) ∈ lw_tbl := z_in1 (List.mem_of_getElem? (i := 124) rfl)
theorem w1_125 : (Jvm.Cond.methodLink "StandingsHall$PointsRow" (33 : Nat) ({ cls := "java/util/ArrayList", name := "get", desc := "(I)Ljava/lang/Object;" } : Jvm.MethodName)) ∈ lw_tbl := z_in1 (List.mem_of_getElem? (i := 125) rfl)
theorem w5_165 : (Jvm.Cond.methodLink "StandingsHall$PointsRow" (37 : Nat) ({ cls := "java/util/ArrayList", name := "remove", desc := "(I)Ljava/lang/Object;" } : Jvm.MethodName)) ∈ lw_tbl := z_in5 (List.mem_of_getElem? (i := 165) rfl)
theorem w1_131 : (Jvm.Cond.code ({ cls := "StandingsHall$PointsRow", name := "countBelow", desc := "(I)I" } : Jvm.MethodName) prog_6_method_4_code (4 : Nat) (Option.some Jvm.ClassFile.FieldType.int)) ∈ lw_tbl := z_in1 (List.mem_of_getElem? (i := 131) rfl)
theorem w1_130 : (Jvm.Cond.instanceMethod ({ cls := "StandingsHall$PointsRow", name := "countBelow", desc := "(I)I" } : Jvm.MethodName)) ∈ lw_tbl := z_in1 (List.mem_of_getElem? (i := 130) rfl)
theorem wS15 : (Cond.selects "StandingsHall$PointsRow" ⟨"StandingsHall$PointsRow", "countBelow", "(I)I"⟩ ⟨"StandingsHall$PointsRow", "countBelow", "(I)I"⟩ : Cond) ∈ lw_tbl := z_inS (List.mem_of_getElem? (i := 15) rfl)
theorem w1_126 : (Jvm.Cond.classLink "StandingsHall$PointsRow" (17 : Nat) "StandingsHall$Entrant") ∈ lw_tbl := z_in1 (List.mem_of_getElem? (i := 126) rfl)
theorem w1_147 : (Jvm.Cond.code ({ cls := "StandingsHall$PointsRow", name := "pointsAt", desc := "(I)I" } : Jvm.MethodName) prog_6_method_6_code (2 : Nat) (Option.some Jvm.ClassFile.FieldType.int)) ∈ lw_tbl := z_in1 (List.mem_of_getElem? (i := 147) rfl)
theorem w1_146 : (Jvm.Cond.instanceMethod ({ cls := "StandingsHall$PointsRow", name := "pointsAt", desc := "(I)I" } : Jvm.MethodName)) ∈ lw_tbl := z_in1 (List.mem_of_getElem? (i := 146) rfl)
theorem wS18 : (Cond.selects "StandingsHall$PointsRow" ⟨"StandingsHall$PointsRow", "pointsAt", "(I)I"⟩ ⟨"StandingsHall$PointsRow", "pointsAt", "(I)I"⟩ : Cond) ∈ lw_tbl := z_inS (List.mem_of_getElem? (i := 18) rfl)
theorem w1_8 : (Jvm.Cond.initialized "StandingsHall$Standing") ∈ lw_tbl := z_in1 (List.mem_of_getElem? (i := 8) rfl)
theorem w2_15 : (Jvm.Cond.code ({ cls := "StandingsHall$Standing", name := "<init>", desc := "()V" } : Jvm.MethodName) prog_7_method_1_code (1 : Nat) (Option.none : Option Jvm.ClassFile.FieldType)) ∈ lw_tbl := z_in2 (List.mem_of_getElem? (i := 15) rfl)
theorem w2_14 : (Jvm.Cond.instanceMethod ({ cls := "StandingsHall$Standing", name := "<init>", desc := "()V" } : Jvm.MethodName)) ∈ lw_tbl := z_in2 (List.mem_of_getElem? (i := 14) rfl)
theorem w2_16 : (Jvm.Cond.methodLink "StandingsHall$Standing" (3 : Nat) ({ cls := "java/lang/Object", name := "<init>", desc := "()V" } : Jvm.MethodName)) ∈ lw_tbl := z_in2 (List.mem_of_getElem? (i := 16) rfl)
theorem w2_17 : (Jvm.Cond.classLink "StandingsHall$Standing" (9 : Nat) "java/util/ArrayList") ∈ lw_tbl := z_in2 (List.mem_of_getElem? (i := 17) rfl)
theorem w2_18 : (Jvm.Cond.methodLink "StandingsHall$Standing" (11 : Nat) ({ cls := "java/util/ArrayList", name := "<init>", desc := "()V" } : Jvm.MethodName)) ∈ lw_tbl := z_in2 (List.mem_of_getElem? (i := 18) rfl)
theorem w2_19 : (Jvm.Cond.fieldLink "StandingsHall$Standing" (12 : Nat) "StandingsHall$Standing" "row" "Ljava/util/ArrayList;") ∈ lw_tbl := z_in2 (List.mem_of_getElem? (i := 19) rfl)
theorem w4_179 : (Jvm.Cond.code ({ cls := "StandingsHall$Standing", name := "put", desc := "(LStandingsHall$Entrant;)V" } : Jvm.MethodName) prog_7_method_2_code (4 : Nat) (Option.none : Option Jvm.ClassFile.FieldType)) ∈ lw_tbl := z_in4 (List.mem_of_getElem? (i := 179) rfl)
theorem w4_178 : (Jvm.Cond.instanceMethod ({ cls := "StandingsHall$Standing", name := "put", desc := "(LStandingsHall$Entrant;)V" } : Jvm.MethodName)) ∈ lw_tbl := z_in4 (List.mem_of_getElem? (i := 178) rfl)
theorem wS39 : (Cond.selects "StandingsHall$Standing" ⟨"StandingsHall$Standing", "put", "(LStandingsHall$Entrant;)V"⟩ ⟨"StandingsHall$Standing", "put", "(LStandingsHall$Entrant;)V"⟩ : Cond) ∈ lw_tbl := z_inS (List.mem_of_getElem? (i := 39) rfl)
theorem w1_96 : (Jvm.Cond.methodLink "StandingsHall$Standing" (18 : Nat) ({ cls := "java/util/ArrayList", name := "size", desc := "()I" } : Jvm.MethodName)) ∈ lw_tbl := z_in1 (List.mem_of_getElem? (i := 96) rfl)
theorem w1_97 : (Jvm.Cond.methodLink "StandingsHall$Standing" (22 : Nat) ({ cls := "java/util/ArrayList", name := "get", desc := "(I)Ljava/lang/Object;" } : Jvm.MethodName)) ∈ lw_tbl := z_in1 (List.mem_of_getElem? (i := 97) rfl)
theorem w1_98 : (Jvm.Cond.classLink "StandingsHall$Standing" (26 : Nat) "StandingsHall$Entrant") ∈ lw_tbl := z_in1 (List.mem_of_getElem? (i := 98) rfl)
theorem w1_99 : (Jvm.Cond.methodLinkNest "StandingsHall$Standing" (28 : Nat) ({ cls := "StandingsHall$Entrant", name := "isAheadOf", desc := "(LStandingsHall$Entrant;)Z" } : Jvm.MethodName) "StandingsHall") ∈ lw_tbl := z_in1 (List.mem_of_getElem? (i := 99) rfl)
theorem w4_180 : (Jvm.Cond.methodLink "StandingsHall$Standing" (32 : Nat) ({ cls := "java/util/ArrayList", name := "add", desc := "(ILjava/lang/Object;)V" } : Jvm.MethodName)) ∈ lw_tbl := z_in4 (List.mem_of_getElem? (i := 180) rfl)
theorem w5_18 : (Jvm.Cond.code ({ cls := "StandingsHall$Standing", name := "numberPlaces", desc := "()V" } : Jvm.MethodName) prog_7_method_4_code (2 : Nat) (Option.none : Option Jvm.ClassFile.FieldType)) ∈ lw_tbl := z_in5 (List.mem_of_getElem? (i := 18) rfl)
theorem w5_17 : (Jvm.Cond.instanceMethod ({ cls := "StandingsHall$Standing", name := "numberPlaces", desc := "()V" } : Jvm.MethodName)) ∈ lw_tbl := z_in5 (List.mem_of_getElem? (i := 17) rfl)
theorem wS44 : (Cond.selects "StandingsHall$Standing" ⟨"StandingsHall$Standing", "numberPlaces", "()V"⟩ ⟨"StandingsHall$Standing", "numberPlaces", "()V"⟩ : Cond) ∈ lw_tbl := z_inS (List.mem_of_getElem? (i := 44) rfl)
theorem w5_15 : (Jvm.Cond.methodLink "StandingsHall$Standing" (36 : Nat) ({ cls := "StandingsHall$Standing", name := "numberPlaces", desc := "()V" } : Jvm.MethodName)) ∈ lw_tbl := z_in5 (List.mem_of_getElem? (i := 15) rfl)
theorem w5_152 : (Jvm.Cond.code ({ cls := "StandingsHall$Standing", name := "take", desc := "(LStandingsHall$Entrant;)V" } : Jvm.MethodName) prog_7_method_3_code (3 : Nat) (Option.none : Option Jvm.ClassFile.FieldType)) ∈ lw_tbl := z_in5 (List.mem_of_getElem? (i := 152) rfl)
theorem w5_151 : (Jvm.Cond.instanceMethod ({ cls := "StandingsHall$Standing", name := "take", desc := "(LStandingsHall$Entrant;)V" } : Jvm.MethodName)) ∈ lw_tbl := z_in5 (List.mem_of_getElem? (i := 151) rfl)
theorem wS63 : (Cond.selects "StandingsHall$Standing" ⟨"StandingsHall$Standing", "take", "(LStandingsHall$Entrant;)V"⟩ ⟨"StandingsHall$Standing", "take", "(LStandingsHall$Entrant;)V"⟩ : Cond) ∈ lw_tbl := z_inS (List.mem_of_getElem? (i := 63) rfl)
theorem w2_76 : (Jvm.Cond.fieldLinkNest "StandingsHall$Standing" (39 : Nat) "StandingsHall$Entrant" "place" "I" "StandingsHall") ∈ lw_tbl := z_in2 (List.mem_of_getElem? (i := 76) rfl)
theorem w5_153 : (Jvm.Cond.methodLink "StandingsHall$Standing" (43 : Nat) ({ cls := "java/util/ArrayList", name := "remove", desc := "(I)Ljava/lang/Object;" } : Jvm.MethodName)) ∈ lw_tbl := z_in5 (List.mem_of_getElem? (i := 153) rfl)
theorem w5_54 : (Jvm.Cond.code ({ cls := "StandingsHall$Standing", name := "sharedRank", desc := "(LStandingsHall$Entrant;)I" } : Jvm.MethodName) prog_7_method_5_code (5 : Nat) (Option.some Jvm.ClassFile.FieldType.int)) ∈ lw_tbl := z_in5 (List.mem_of_getElem? (i := 54) rfl)
theorem w5_53 : (Jvm.Cond.instanceMethod ({ cls := "StandingsHall$Standing", name := "sharedRank", desc := "(LStandingsHall$Entrant;)I" } : Jvm.MethodName)) ∈ lw_tbl := z_in5 (List.mem_of_getElem? (i := 53) rfl)
theorem wS50 : (Cond.selects "StandingsHall$Standing" ⟨"StandingsHall$Standing", "sharedRank", "(LStandingsHall$Entrant;)I"⟩ ⟨"StandingsHall$Standing", "sharedRank", "(LStandingsHall$Entrant;)I"⟩ : Cond) ∈ lw_tbl := z_inS (List.mem_of_getElem? (i := 50) rfl)
theorem w2_65 : (Jvm.Cond.fieldLinkNest "StandingsHall$Standing" (46 : Nat) "StandingsHall$Entrant" "number" "I" "StandingsHall") ∈ lw_tbl := z_in2 (List.mem_of_getElem? (i := 65) rfl)
theorem w5_55 : (Jvm.Cond.methodLinkNest "StandingsHall$Standing" (49 : Nat) ({ cls := "StandingsHall$Entrant", name := "isBetterThan", desc := "(LStandingsHall$Entrant;)Z" } : Jvm.MethodName) "StandingsHall") ∈ lw_tbl := z_in5 (List.mem_of_getElem? (i := 55) rfl)
theorem w1_95 : (Jvm.Cond.code ({ cls := "StandingsHall$Standing", name := "countAhead", desc := "(LStandingsHall$Entrant;)I" } : Jvm.MethodName) prog_7_method_6_code (5 : Nat) (Option.some Jvm.ClassFile.FieldType.int)) ∈ lw_tbl := z_in1 (List.mem_of_getElem? (i := 95) rfl)
theorem w1_93 : (Jvm.Cond.instanceMethod ({ cls := "StandingsHall$Standing", name := "countAhead", desc := "(LStandingsHall$Entrant;)I" } : Jvm.MethodName)) ∈ lw_tbl := z_in1 (List.mem_of_getElem? (i := 93) rfl)
theorem wS8 : (Cond.selects "StandingsHall$Standing" ⟨"StandingsHall$Standing", "countAhead", "(LStandingsHall$Entrant;)I"⟩ ⟨"StandingsHall$Standing", "countAhead", "(LStandingsHall$Entrant;)I"⟩ : Cond) ∈ lw_tbl := z_inS (List.mem_of_getElem? (i := 8) rfl)
theorem w5_100 : (Jvm.Cond.code ({ cls := "StandingsHall$Standing", name := "denseRank", desc := "(LStandingsHall$Entrant;)I" } : Jvm.MethodName) prog_7_method_7_code (4 : Nat) (Option.some Jvm.ClassFile.FieldType.int)) ∈ lw_tbl := z_in5 (List.mem_of_getElem? (i := 100) rfl)
theorem w5_99 : (Jvm.Cond.instanceMethod ({ cls := "StandingsHall$Standing", name := "denseRank", desc := "(LStandingsHall$Entrant;)I" } : Jvm.MethodName)) ∈ lw_tbl := z_in5 (List.mem_of_getElem? (i := 99) rfl)
theorem wS54 : (Cond.selects "StandingsHall$Standing" ⟨"StandingsHall$Standing", "denseRank", "(LStandingsHall$Entrant;)I"⟩ ⟨"StandingsHall$Standing", "denseRank", "(LStandingsHall$Entrant;)I"⟩ : Cond) ∈ lw_tbl := z_inS (List.mem_of_getElem? (i := 54) rfl)
theorem w5_104 : (Jvm.Cond.code ({ cls := "StandingsHall$Standing", name := "beginsResult", desc := "(I)Z" } : Jvm.MethodName) prog_7_method_12_code (2 : Nat) (Option.some Jvm.ClassFile.FieldType.boolean)) ∈ lw_tbl := z_in5 (List.mem_of_getElem? (i := 104) rfl)
theorem w5_103 : (Jvm.Cond.instanceMethod ({ cls := "StandingsHall$Standing", name := "beginsResult", desc := "(I)Z" } : Jvm.MethodName)) ∈ lw_tbl := z_in5 (List.mem_of_getElem? (i := 103) rfl)
theorem wS55 : (Cond.selects "StandingsHall$Standing" ⟨"StandingsHall$Standing", "beginsResult", "(I)Z"⟩ ⟨"StandingsHall$Standing", "beginsResult", "(I)Z"⟩ : Cond) ∈ lw_tbl := z_inS (List.mem_of_getElem? (i := 55) rfl)
theorem w5_101 : (Jvm.Cond.methodLink "StandingsHall$Standing" (52 : Nat) ({ cls := "StandingsHall$Standing", name := "beginsResult", desc := "(I)Z" } : Jvm.MethodName)) ∈ lw_tbl := z_in5 (List.mem_of_getElem? (i := 101) rfl)
theorem w5_50 : (Jvm.Cond.code ({ cls := "StandingsHall$Standing", name := "twiceMeanRank", desc := "(LStandingsHall$Entrant;)I" } : Jvm.MethodName) prog_7_method_8_code (2 : Nat) (Option.some Jvm.ClassFile.FieldType.int)) ∈ lw_tbl := z_in5 (List.mem_of_getElem? (i := 50) rfl)
theorem w5_49 : (Jvm.Cond.instanceMethod ({ cls := "StandingsHall$Standing", name := "twiceMeanRank", desc := "(LStandingsHall$Entrant;)I" } : Jvm.MethodName)) ∈ lw_tbl := z_in5 (List.mem_of_getElem? (i := 49) rfl)
theorem wS49 : (Cond.selects "StandingsHall$Standing" ⟨"StandingsHall$Standing", "twiceMeanRank", "(LStandingsHall$Entrant;)I"⟩ ⟨"StandingsHall$Standing", "twiceMeanRank", "(LStandingsHall$Entrant;)I"⟩ : Cond) ∈ lw_tbl := z_inS (List.mem_of_getElem? (i := 49) rfl)
theorem w5_51 : (Jvm.Cond.methodLink "StandingsHall$Standing" (56 : Nat) ({ cls := "StandingsHall$Standing", name := "sharedRank", desc := "(LStandingsHall$Entrant;)I" } : Jvm.MethodName)) ∈ lw_tbl := z_in5 (List.mem_of_getElem? (i := 51) rfl)
theorem w5_59 : (Jvm.Cond.code ({ cls := "StandingsHall$Standing", name := "countAlike", desc := "(LStandingsHall$Entrant;)I" } : Jvm.MethodName) prog_7_method_9_code (4 : Nat) (Option.some Jvm.ClassFile.FieldType.int)) ∈ lw_tbl := z_in5 (List.mem_of_getElem? (i := 59) rfl)
theorem w5_58 : (Jvm.Cond.instanceMethod ({ cls := "StandingsHall$Standing", name := "countAlike", desc := "(LStandingsHall$Entrant;)I" } : Jvm.MethodName)) ∈ lw_tbl := z_in5 (List.mem_of_getElem? (i := 58) rfl)
theorem wS51 : (Cond.selects "StandingsHall$Standing" ⟨"StandingsHall$Standing", "countAlike", "(LStandingsHall$Entrant;)I"⟩ ⟨"StandingsHall$Standing", "countAlike", "(LStandingsHall$Entrant;)I"⟩ : Cond) ∈ lw_tbl := z_inS (List.mem_of_getElem? (i := 51) rfl)
theorem w5_56 : (Jvm.Cond.methodLink "StandingsHall$Standing" (60 : Nat) ({ cls := "StandingsHall$Standing", name := "countAlike", desc := "(LStandingsHall$Entrant;)I" } : Jvm.MethodName)) ∈ lw_tbl := z_in5 (List.mem_of_getElem? (i := 56) rfl)
theorem w5_60 : (Jvm.Cond.methodLinkNest "StandingsHall$Standing" (63 : Nat) ({ cls := "StandingsHall$Entrant", name := "isAlikeWith", desc := "(LStandingsHall$Entrant;)Z" } : Jvm.MethodName) "StandingsHall") ∈ lw_tbl := z_in5 (List.mem_of_getElem? (i := 60) rfl)
theorem w5_112 : (Jvm.Cond.code ({ cls := "StandingsHall$Standing", name := "countResults", desc := "()I" } : Jvm.MethodName) prog_7_method_11_code (3 : Nat) (Option.some Jvm.ClassFile.FieldType.int)) ∈ lw_tbl := z_in5 (List.mem_of_getElem? (i := 112) rfl)
theorem w5_111 : (Jvm.Cond.instanceMethod ({ cls := "StandingsHall$Standing", name := "countResults", desc := "()I" } : Jvm.MethodName)) ∈ lw_tbl := z_in5 (List.mem_of_getElem? (i := 111) rfl)
theorem wS56 : (Cond.selects "StandingsHall$Standing" ⟨"StandingsHall$Standing", "countResults", "()I"⟩ ⟨"StandingsHall$Standing", "countResults", "()I"⟩ : Cond) ∈ lw_tbl := z_inS (List.mem_of_getElem? (i := 56) rfl)
theorem w7_18 : (Jvm.Cond.code ({ cls := "StandingsHall$Standing", name := "firstPlaceOf", desc := "(I)I" } : Jvm.MethodName) prog_7_method_13_code (3 : Nat) (Option.some Jvm.ClassFile.FieldType.int)) ∈ lw_tbl := z_in7 (List.mem_of_getElem? (i := 18) rfl)
theorem w7_17 : (Jvm.Cond.instanceMethod ({ cls := "StandingsHall$Standing", name := "firstPlaceOf", desc := "(I)I" } : Jvm.MethodName)) ∈ lw_tbl := z_in7 (List.mem_of_getElem? (i := 17) rfl)
theorem wS103 : (Cond.selects "StandingsHall$Standing" ⟨"StandingsHall$Standing", "firstPlaceOf", "(I)I"⟩ ⟨"StandingsHall$Standing", "firstPlaceOf", "(I)I"⟩ : Cond) ∈ lw_tbl := z_inS (List.mem_of_getElem? (i := 103) rfl)
theorem w2_69 : (Jvm.Cond.fieldLinkNest "StandingsHall$Standing" (66 : Nat) "StandingsHall$Entrant" "group" "I" "StandingsHall") ∈ lw_tbl := z_in2 (List.mem_of_getElem? (i := 69) rfl)
theorem w7_34 : (Jvm.Cond.code ({ cls := "StandingsHall$Standing", name := "countOf", desc := "(I)I" } : Jvm.MethodName) prog_7_method_14_code (4 : Nat) (Option.some Jvm.ClassFile.FieldType.int)) ∈ lw_tbl := z_in7 (List.mem_of_getElem? (i := 34) rfl)
theorem w7_33 : (Jvm.Cond.instanceMethod ({ cls := "StandingsHall$Standing", name := "countOf", desc := "(I)I" } : Jvm.MethodName)) ∈ lw_tbl := z_in7 (List.mem_of_getElem? (i := 33) rfl)
theorem wS104 : (Cond.selects "StandingsHall$Standing" ⟨"StandingsHall$Standing", "countOf", "(I)I"⟩ ⟨"StandingsHall$Standing", "countOf", "(I)I"⟩ : Cond) ∈ lw_tbl := z_inS (List.mem_of_getElem? (i := 104) rfl)
theorem w7_10 : (Jvm.Cond.code ({ cls := "StandingsHall$Standing", name := "teamSum", desc := "(I)I" } : Jvm.MethodName) prog_7_method_15_code (5 : Nat) (Option.some Jvm.ClassFile.FieldType.int)) ∈ lw_tbl := z_in7 (List.mem_of_getElem? (i := 10) rfl)
theorem w7_9 : (Jvm.Cond.instanceMethod ({ cls := "StandingsHall$Standing", name := "teamSum", desc := "(I)I" } : Jvm.MethodName)) ∈ lw_tbl := z_in7 (List.mem_of_getElem? (i := 9) rfl)
theorem wS101 : (Cond.selects "StandingsHall$Standing" ⟨"StandingsHall$Standing", "teamSum", "(I)I"⟩ ⟨"StandingsHall$Standing", "teamSum", "(I)I"⟩ : Cond) ∈ lw_tbl := z_inS (List.mem_of_getElem? (i := 101) rfl)
theorem w1_165 : (Jvm.Cond.code ({ cls := "StandingsHall$Tape", name := "<init>", desc := "()V" } : Jvm.MethodName) prog_8_method_1_code (1 : Nat) (Option.none : Option Jvm.ClassFile.FieldType)) ∈ lw_tbl := z_in1 (List.mem_of_getElem? (i := 165) rfl)
theorem w1_164 : (Jvm.Cond.instanceMethod ({ cls := "StandingsHall$Tape", name := "<init>", desc := "()V" } : Jvm.MethodName)) ∈ lw_tbl := z_in1 (List.mem_of_getElem? (i := 164) rfl)
theorem w1_166 : (Jvm.Cond.methodLink "StandingsHall$Tape" (3 : Nat) ({ cls := "java/lang/Object", name := "<init>", desc := "()V" } : Jvm.MethodName)) ∈ lw_tbl := z_in1 (List.mem_of_getElem? (i := 166) rfl)
theorem w1_167 : (Jvm.Cond.fieldLink "StandingsHall$Tape" (9 : Nat) "StandingsHall$Tape" "bytes" "[I") ∈ lw_tbl := z_in1 (List.mem_of_getElem? (i := 167) rfl)
theorem w4_28 : (Jvm.Cond.code ({ cls := "StandingsHall$Tape", name := "bytesIn", desc := "(I)I" } : Jvm.MethodName) prog_8_method_2_code (4 : Nat) (Option.some Jvm.ClassFile.FieldType.int)) ∈ lw_tbl := z_in4 (List.mem_of_getElem? (i := 28) rfl)
theorem w4_27 : (Jvm.Cond.instanceMethod ({ cls := "StandingsHall$Tape", name := "bytesIn", desc := "(I)I" } : Jvm.MethodName)) ∈ lw_tbl := z_in4 (List.mem_of_getElem? (i := 27) rfl)
theorem wS24 : (Cond.selects "StandingsHall$Tape" ⟨"StandingsHall$Tape", "bytesIn", "(I)I"⟩ ⟨"StandingsHall$Tape", "bytesIn", "(I)I"⟩ : Cond) ∈ lw_tbl := z_inS (List.mem_of_getElem? (i := 24) rfl)
theorem w4_100 : (Jvm.Cond.code ({ cls := "StandingsHall$Tape", name := "addWord", desc := "(I)V" } : Jvm.MethodName) prog_8_method_3_code (4 : Nat) (Option.none : Option Jvm.ClassFile.FieldType)) ∈ lw_tbl := z_in4 (List.mem_of_getElem? (i := 100) rfl)
theorem w4_99 : (Jvm.Cond.instanceMethod ({ cls := "StandingsHall$Tape", name := "addWord", desc := "(I)V" } : Jvm.MethodName)) ∈ lw_tbl := z_in4 (List.mem_of_getElem? (i := 99) rfl)
theorem wS26 : (Cond.selects "StandingsHall$Tape" ⟨"StandingsHall$Tape", "addWord", "(I)V"⟩ ⟨"StandingsHall$Tape", "addWord", "(I)V"⟩ : Cond) ∈ lw_tbl := z_inS (List.mem_of_getElem? (i := 26) rfl)
theorem w1_169 : (Jvm.Cond.fieldLink "StandingsHall$Tape" (15 : Nat) "StandingsHall$Tape" "length" "I") ∈ lw_tbl := z_in1 (List.mem_of_getElem? (i := 169) rfl)
theorem w1_1 : (Jvm.Cond.initialized "StandingsHall") ∈ lw_tbl := z_in1 (List.mem_of_getElem? (i := 1) rfl)
theorem w1_159 : (Jvm.Cond.code ({ cls := "StandingsHall", name := "<init>", desc := "()V" } : Jvm.MethodName) prog_1_method_1_code (1 : Nat) (Option.none : Option Jvm.ClassFile.FieldType)) ∈ lw_tbl := z_in1 (List.mem_of_getElem? (i := 159) rfl)
theorem w1_158 : (Jvm.Cond.instanceMethod ({ cls := "StandingsHall", name := "<init>", desc := "()V" } : Jvm.MethodName)) ∈ lw_tbl := z_in1 (List.mem_of_getElem? (i := 158) rfl)
theorem w1_160 : (Jvm.Cond.methodLink "StandingsHall" (1 : Nat) ({ cls := "java/lang/Object", name := "<init>", desc := "()V" } : Jvm.MethodName)) ∈ lw_tbl := z_in1 (List.mem_of_getElem? (i := 160) rfl)
theorem w1_161 : (Jvm.Cond.classLink "StandingsHall" (7 : Nat) "StandingsHall$Tape") ∈ lw_tbl := z_in1 (List.mem_of_getElem? (i := 161) rfl)
theorem w1_162 : (Jvm.Cond.instantiable "StandingsHall$Tape" (2 : Nat)) ∈ lw_tbl := z_in1 (List.mem_of_getElem? (i := 162) rfl)
theorem w1_163 : (Jvm.Cond.methodLinkNest "StandingsHall" (9 : Nat) ({ cls := "StandingsHall$Tape", name := "<init>", desc := "()V" } : Jvm.MethodName) "StandingsHall") ∈ lw_tbl := z_in1 (List.mem_of_getElem? (i := 163) rfl)
theorem w2_110 : (Jvm.Cond.fieldLink "StandingsHall" (10 : Nat) "StandingsHall" "tape" "LStandingsHall$Tape;") ∈ lw_tbl := z_in2 (List.mem_of_getElem? (i := 110) rfl)
theorem w1_176 : (Jvm.Cond.classLink "StandingsHall" (16 : Nat) "StandingsHall$OrderReader") ∈ lw_tbl := z_in1 (List.mem_of_getElem? (i := 176) rfl)
theorem w1_177 : (Jvm.Cond.instantiable "StandingsHall$OrderReader" (6 : Nat)) ∈ lw_tbl := z_in1 (List.mem_of_getElem? (i := 177) rfl)
theorem w1_178 : (Jvm.Cond.methodLinkNest "StandingsHall" (18 : Nat) ({ cls := "StandingsHall$OrderReader", name := "<init>", desc := "(LStandingsHall$Tape;)V" } : Jvm.MethodName) "StandingsHall") ∈ lw_tbl := z_in1 (List.mem_of_getElem? (i := 178) rfl)
theorem w2_111 : (Jvm.Cond.fieldLink "StandingsHall" (21 : Nat) "StandingsHall" "reader" "LStandingsHall$OrderReader;") ∈ lw_tbl := z_in2 (List.mem_of_getElem? (i := 111) rfl)
theorem w1_202 : (Jvm.Cond.classLink "StandingsHall" (25 : Nat) "StandingsHall$Order") ∈ lw_tbl := z_in1 (List.mem_of_getElem? (i := 202) rfl)
theorem w1_80 : (Jvm.Cond.instantiable "StandingsHall$Order" (3 : Nat)) ∈ lw_tbl := z_in1 (List.mem_of_getElem? (i := 80) rfl)
theorem w1_203 : (Jvm.Cond.methodLinkNest "StandingsHall" (27 : Nat) ({ cls := "StandingsHall$Order", name := "<init>", desc := "()V" } : Jvm.MethodName) "StandingsHall") ∈ lw_tbl := z_in1 (List.mem_of_getElem? (i := 203) rfl)
theorem w2_112 : (Jvm.Cond.fieldLink "StandingsHall" (28 : Nat) "StandingsHall" "order" "LStandingsHall$Order;") ∈ lw_tbl := z_in2 (List.mem_of_getElem? (i := 112) rfl)
theorem w2_113 : (Jvm.Cond.fieldLink "StandingsHall" (32 : Nat) "StandingsHall" "draft" "LStandingsHall$Order;") ∈ lw_tbl := z_in2 (List.mem_of_getElem? (i := 113) rfl)
theorem w1_218 : (Jvm.Cond.methodLinkNest "StandingsHall" (35 : Nat) ({ cls := "StandingsHall$Order", name := "begin", desc := "(II)V" } : Jvm.MethodName) "StandingsHall") ∈ lw_tbl := z_in1 (List.mem_of_getElem? (i := 218) rfl)
theorem w1_222 : (Jvm.Cond.methodLinkNest "StandingsHall" (39 : Nat) ({ cls := "StandingsHall$Order", name := "addTerm", desc := "(III)V" } : Jvm.MethodName) "StandingsHall") ∈ lw_tbl := z_in1 (List.mem_of_getElem? (i := 222) rfl)
theorem w2_114 : (Jvm.Cond.fieldLink "StandingsHall" (43 : Nat) "StandingsHall" "errorPosition" "I") ∈ lw_tbl := z_in2 (List.mem_of_getElem? (i := 114) rfl)
theorem w1_226 : (Jvm.Cond.classLink "StandingsHall" (47 : Nat) "java/util/ArrayList") ∈ lw_tbl := z_in1 (List.mem_of_getElem? (i := 226) rfl)
theorem w1_228 : (Jvm.Cond.methodLink "StandingsHall" (49 : Nat) ({ cls := "java/util/ArrayList", name := "<init>", desc := "()V" } : Jvm.MethodName)) ∈ lw_tbl := z_in1 (List.mem_of_getElem? (i := 228) rfl)
theorem w2_115 : (Jvm.Cond.fieldLink "StandingsHall" (50 : Nat) "StandingsHall" "come" "Ljava/util/ArrayList;") ∈ lw_tbl := z_in2 (List.mem_of_getElem? (i := 115) rfl)
theorem w2_12 : (Jvm.Cond.classLink "StandingsHall" (54 : Nat) "StandingsHall$Standing") ∈ lw_tbl := z_in2 (List.mem_of_getElem? (i := 12) rfl)
theorem w1_94 : (Jvm.Cond.instantiable "StandingsHall$Standing" (1 : Nat)) ∈ lw_tbl := z_in1 (List.mem_of_getElem? (i := 94) rfl)
theorem w2_13 : (Jvm.Cond.methodLinkNest "StandingsHall" (56 : Nat) ({ cls := "StandingsHall$Standing", name := "<init>", desc := "()V" } : Jvm.MethodName) "StandingsHall") ∈ lw_tbl := z_in2 (List.mem_of_getElem? (i := 13) rfl)
theorem w2_116 : (Jvm.Cond.fieldLink "StandingsHall" (57 : Nat) "StandingsHall" "standing" "LStandingsHall$Standing;") ∈ lw_tbl := z_in2 (List.mem_of_getElem? (i := 116) rfl)
theorem w2_24 : (Jvm.Cond.classLink "StandingsHall" (61 : Nat) "StandingsHall$PointsRow") ∈ lw_tbl := z_in2 (List.mem_of_getElem? (i := 24) rfl)
theorem w1_122 : (Jvm.Cond.instantiable "StandingsHall$PointsRow" (1 : Nat)) ∈ lw_tbl := z_in1 (List.mem_of_getElem? (i := 122) rfl)
theorem w2_25 : (Jvm.Cond.methodLinkNest "StandingsHall" (63 : Nat) ({ cls := "StandingsHall$PointsRow", name := "<init>", desc := "()V" } : Jvm.MethodName) "StandingsHall") ∈ lw_tbl := z_in2 (List.mem_of_getElem? (i := 25) rfl)
theorem w2_117 : (Jvm.Cond.fieldLink "StandingsHall" (64 : Nat) "StandingsHall" "pointsRow" "LStandingsHall$PointsRow;") ∈ lw_tbl := z_in2 (List.mem_of_getElem? (i := 117) rfl)
theorem w2_36 : (Jvm.Cond.classLink "StandingsHall" (68 : Nat) "StandingsHall$Ladder") ∈ lw_tbl := z_in2 (List.mem_of_getElem? (i := 36) rfl)
theorem w2_37 : (Jvm.Cond.instantiable "StandingsHall$Ladder" (3 : Nat)) ∈ lw_tbl := z_in2 (List.mem_of_getElem? (i := 37) rfl)
theorem w2_38 : (Jvm.Cond.methodLinkNest "StandingsHall" (70 : Nat) ({ cls := "StandingsHall$Ladder", name := "<init>", desc := "()V" } : Jvm.MethodName) "StandingsHall") ∈ lw_tbl := z_in2 (List.mem_of_getElem? (i := 38) rfl)
theorem w2_118 : (Jvm.Cond.fieldLink "StandingsHall" (71 : Nat) "StandingsHall" "ladder" "LStandingsHall$Ladder;") ∈ lw_tbl := z_in2 (List.mem_of_getElem? (i := 118) rfl)
theorem w1_59 : (Jvm.Cond.classLink "StandingsHall" (75 : Nat) "StandingsHall$Entrant") ∈ lw_tbl := z_in1 (List.mem_of_getElem? (i := 59) rfl)
theorem w1_63 : (Jvm.Cond.instantiable "StandingsHall$Entrant" (11 : Nat)) ∈ lw_tbl := z_in1 (List.mem_of_getElem? (i := 63) rfl)
theorem w2_57 : (Jvm.Cond.methodLinkNest "StandingsHall" (77 : Nat) ({ cls := "StandingsHall$Entrant", name := "<init>", desc := "(II)V" } : Jvm.MethodName) "StandingsHall") ∈ lw_tbl := z_in2 (List.mem_of_getElem? (i := 57) rfl)
theorem w2_120 : (Jvm.Cond.fieldLink "StandingsHall" (79 : Nat) "StandingsHall" "trial" "LStandingsHall$Entrant;") ∈ lw_tbl := z_in2 (List.mem_of_getElem? (i := 120) rfl)
theorem w2_121 : (Jvm.Cond.fieldLink "StandingsHall" (83 : Nat) "StandingsHall" "latest" "[I") ∈ lw_tbl := z_in2 (List.mem_of_getElem? (i := 121) rfl)
theorem w2_122 : (Jvm.Cond.fieldLink "StandingsHall" (87 : Nat) "StandingsHall" "slots" "[I") ∈ lw_tbl := z_in2 (List.mem_of_getElem? (i := 122) rfl)
theorem w4_24 : (Jvm.Cond.code ({ cls := "StandingsHall", name := "append", desc := "(IIIII)I" } : Jvm.MethodName) prog_1_method_2_code (7 : Nat) (Option.some Jvm.ClassFile.FieldType.int)) ∈ lw_tbl := z_in4 (List.mem_of_getElem? (i := 24) rfl)
theorem w4_22 : (Jvm.Cond.instanceMethod ({ cls := "StandingsHall", name := "append", desc := "(IIIII)I" } : Jvm.MethodName)) ∈ lw_tbl := z_in4 (List.mem_of_getElem? (i := 22) rfl)
theorem w4_23 : (Jvm.Cond.selects "StandingsHall" ({ cls := "StandingsHall", name := "append", desc := "(IIIII)I" } : Jvm.MethodName) ({ cls := "StandingsHall", name := "append", desc := "(IIIII)I" } : Jvm.MethodName)) ∈ lw_tbl := z_in4 (List.mem_of_getElem? (i := 23) rfl)
theorem w4_25 : (Jvm.Cond.methodLinkNest "StandingsHall" (90 : Nat) ({ cls := "StandingsHall$Tape", name := "bytesIn", desc := "(I)I" } : Jvm.MethodName) "StandingsHall") ∈ lw_tbl := z_in4 (List.mem_of_getElem? (i := 25) rfl)
theorem w1_168 : (Jvm.Cond.fieldLinkNest "StandingsHall" (94 : Nat) "StandingsHall$Tape" "length" "I" "StandingsHall") ∈ lw_tbl := z_in1 (List.mem_of_getElem? (i := 168) rfl)
theorem w4_97 : (Jvm.Cond.methodLinkNest "StandingsHall" (104 : Nat) ({ cls := "StandingsHall$Tape", name := "addWord", desc := "(I)V" } : Jvm.MethodName) "StandingsHall") ∈ lw_tbl := z_in4 (List.mem_of_getElem? (i := 97) rfl)
theorem w4_71 : (Jvm.Cond.stringRef "StandingsHall" (99 : Nat) "the tape is full") ∈ lw_tbl := z_in4 (List.mem_of_getElem? (i := 71) rfl)
theorem w4_104 : (Jvm.Cond.code ({ cls := "StandingsHall", name := "setOrder", desc := "()I" } : Jvm.MethodName) prog_1_method_4_code (2 : Nat) (Option.some Jvm.ClassFile.FieldType.int)) ∈ lw_tbl := z_in4 (List.mem_of_getElem? (i := 104) rfl)
theorem w4_102 : (Jvm.Cond.instanceMethod ({ cls := "StandingsHall", name := "setOrder", desc := "()I" } : Jvm.MethodName)) ∈ lw_tbl := z_in4 (List.mem_of_getElem? (i := 102) rfl)
theorem w4_103 : (Jvm.Cond.selects "StandingsHall" ({ cls := "StandingsHall", name := "setOrder", desc := "()I" } : Jvm.MethodName) ({ cls := "StandingsHall", name := "setOrder", desc := "()I" } : Jvm.MethodName)) ∈ lw_tbl := z_in4 (List.mem_of_getElem? (i := 103) rfl)
theorem w4_105 : (Jvm.Cond.methodLinkNest "StandingsHall" (108 : Nat) ({ cls := "StandingsHall$OrderReader", name := "readOrder", desc := "(LStandingsHall$Order;)Z" } : Jvm.MethodName) "StandingsHall") ∈ lw_tbl := z_in4 (List.mem_of_getElem? (i := 105) rfl)
theorem w1_184 : (Jvm.Cond.fieldLinkNest "StandingsHall" (112 : Nat) "StandingsHall$OrderReader" "start" "I" "StandingsHall") ∈ lw_tbl := z_in1 (List.mem_of_getElem? (i := 184) rfl)
theorem w4_171 : (Jvm.Cond.code ({ cls := "StandingsHall", name := "makeStandingAnew", desc := "()V" } : Jvm.MethodName) prog_1_method_62_code (3 : Nat) (Option.none : Option Jvm.ClassFile.FieldType)) ∈ lw_tbl := z_in4 (List.mem_of_getElem? (i := 171) rfl)
theorem w4_170 : (Jvm.Cond.instanceMethod ({ cls := "StandingsHall", name := "makeStandingAnew", desc := "()V" } : Jvm.MethodName)) ∈ lw_tbl := z_in4 (List.mem_of_getElem? (i := 170) rfl)
theorem wS38 : (Cond.selects "StandingsHall" ⟨"StandingsHall", "makeStandingAnew", "()V"⟩ ⟨"StandingsHall", "makeStandingAnew", "()V"⟩ : Cond) ∈ lw_tbl := z_inS (List.mem_of_getElem? (i := 38) rfl)
theorem w4_168 : (Jvm.Cond.methodLink "StandingsHall" (120 : Nat) ({ cls := "StandingsHall", name := "makeStandingAnew", desc := "()V" } : Jvm.MethodName)) ∈ lw_tbl := z_in4 (List.mem_of_getElem? (i := 168) rfl)
theorem w1_210 : (Jvm.Cond.fieldLinkNest "StandingsHall" (123 : Nat) "StandingsHall$Order" "count" "I" "StandingsHall") ∈ lw_tbl := z_in1 (List.mem_of_getElem? (i := 210) rfl)
theorem w4_161 : (Jvm.Cond.stringRef "StandingsHall" (117 : Nat) "the text has an error") ∈ lw_tbl := z_in4 (List.mem_of_getElem? (i := 161) rfl)
theorem w5_22 : (Jvm.Cond.code ({ cls := "StandingsHall", name := "errorPosition", desc := "()I" } : Jvm.MethodName) prog_1_method_5_code (1 : Nat) (Option.some Jvm.ClassFile.FieldType.int)) ∈ lw_tbl := z_in5 (List.mem_of_getElem? (i := 22) rfl)
theorem w5_20 : (Jvm.Cond.instanceMethod ({ cls := "StandingsHall", name := "errorPosition", desc := "()I" } : Jvm.MethodName)) ∈ lw_tbl := z_in5 (List.mem_of_getElem? (i := 20) rfl)
theorem w5_21 : (Jvm.Cond.selects "StandingsHall" ({ cls := "StandingsHall", name := "errorPosition", desc := "()I" } : Jvm.MethodName) ({ cls := "StandingsHall", name := "errorPosition", desc := "()I" } : Jvm.MethodName)) ∈ lw_tbl := z_in5 (List.mem_of_getElem? (i := 21) rfl)
theorem w5_88 : (Jvm.Cond.code ({ cls := "StandingsHall", name := "criterion", desc := "(II)I" } : Jvm.MethodName) prog_1_method_6_code (4 : Nat) (Option.some Jvm.ClassFile.FieldType.int)) ∈ lw_tbl := z_in5 (List.mem_of_getElem? (i := 88) rfl)
theorem w5_86 : (Jvm.Cond.instanceMethod ({ cls := "StandingsHall", name := "criterion", desc := "(II)I" } : Jvm.MethodName)) ∈ lw_tbl := z_in5 (List.mem_of_getElem? (i := 86) rfl)
theorem w5_87 : (Jvm.Cond.selects "StandingsHall" ({ cls := "StandingsHall", name := "criterion", desc := "(II)I" } : Jvm.MethodName) ({ cls := "StandingsHall", name := "criterion", desc := "(II)I" } : Jvm.MethodName)) ∈ lw_tbl := z_in5 (List.mem_of_getElem? (i := 87) rfl)
theorem w5_78 : (Jvm.Cond.code ({ cls := "StandingsHall", name := "presentOne", desc := "(I)LStandingsHall$Entrant;" } : Jvm.MethodName) prog_1_method_52_code (2 : Nat) (Option.some (Jvm.ClassFile.FieldType.object "StandingsHall$Entrant"))) ∈ lw_tbl := z_in5 (List.mem_of_getElem? (i := 78) rfl)
theorem w5_77 : (Jvm.Cond.instanceMethod ({ cls := "StandingsHall", name := "presentOne", desc := "(I)LStandingsHall$Entrant;" } : Jvm.MethodName)) ∈ lw_tbl := z_in5 (List.mem_of_getElem? (i := 77) rfl)
theorem wS53 : (Cond.selects "StandingsHall" ⟨"StandingsHall", "presentOne", "(I)LStandingsHall$Entrant;"⟩ ⟨"StandingsHall", "presentOne", "(I)LStandingsHall$Entrant;"⟩ : Cond) ∈ lw_tbl := z_inS (List.mem_of_getElem? (i := 53) rfl)
theorem w5_75 : (Jvm.Cond.methodLink "StandingsHall" (126 : Nat) ({ cls := "StandingsHall", name := "presentOne", desc := "(I)LStandingsHall$Entrant;" } : Jvm.MethodName)) ∈ lw_tbl := z_in5 (List.mem_of_getElem? (i := 75) rfl)
theorem w5_90 : (Jvm.Cond.methodLinkNest "StandingsHall" (132 : Nat) ({ cls := "StandingsHall$Order", name := "valueFor", desc := "(LStandingsHall$Entrant;I)I" } : Jvm.MethodName) "StandingsHall") ∈ lw_tbl := z_in5 (List.mem_of_getElem? (i := 90) rfl)
theorem w5_89 : (Jvm.Cond.stringRef "StandingsHall" (130 : Nat) "there is no such criterion") ∈ lw_tbl := z_in5 (List.mem_of_getElem? (i := 89) rfl)
theorem w5_226 : (Jvm.Cond.code ({ cls := "StandingsHall", name := "come", desc := "(I)I" } : Jvm.MethodName) prog_1_method_7_code (4 : Nat) (Option.some Jvm.ClassFile.FieldType.int)) ∈ lw_tbl := z_in5 (List.mem_of_getElem? (i := 226) rfl)
theorem w5_224 : (Jvm.Cond.instanceMethod ({ cls := "StandingsHall", name := "come", desc := "(I)I" } : Jvm.MethodName)) ∈ lw_tbl := z_in5 (List.mem_of_getElem? (i := 224) rfl)
theorem w5_225 : (Jvm.Cond.selects "StandingsHall" ({ cls := "StandingsHall", name := "come", desc := "(I)I" } : Jvm.MethodName) ({ cls := "StandingsHall", name := "come", desc := "(I)I" } : Jvm.MethodName)) ∈ lw_tbl := z_in5 (List.mem_of_getElem? (i := 225) rfl)
theorem w5_230 : (Jvm.Cond.code ({ cls := "StandingsHall", name := "checkGroup", desc := "(I)V" } : Jvm.MethodName) prog_1_method_53_code (2 : Nat) (Option.none : Option Jvm.ClassFile.FieldType)) ∈ lw_tbl := z_in5 (List.mem_of_getElem? (i := 230) rfl)
theorem w5_229 : (Jvm.Cond.instanceMethod ({ cls := "StandingsHall", name := "checkGroup", desc := "(I)V" } : Jvm.MethodName)) ∈ lw_tbl := z_in5 (List.mem_of_getElem? (i := 229) rfl)
theorem wS74 : (Cond.selects "StandingsHall" ⟨"StandingsHall", "checkGroup", "(I)V"⟩ ⟨"StandingsHall", "checkGroup", "(I)V"⟩ : Cond) ∈ lw_tbl := z_inS (List.mem_of_getElem? (i := 74) rfl)
theorem w5_227 : (Jvm.Cond.methodLink "StandingsHall" (136 : Nat) ({ cls := "StandingsHall", name := "checkGroup", desc := "(I)V" } : Jvm.MethodName)) ∈ lw_tbl := z_in5 (List.mem_of_getElem? (i := 227) rfl)
theorem w1_41 : (Jvm.Cond.methodLink "StandingsHall" (139 : Nat) ({ cls := "java/util/ArrayList", name := "size", desc := "()I" } : Jvm.MethodName)) ∈ lw_tbl := z_in1 (List.mem_of_getElem? (i := 41) rfl)
theorem w5_233 : (Jvm.Cond.methodLink "StandingsHall" (145 : Nat) ({ cls := "java/util/ArrayList", name := "add", desc := "(Ljava/lang/Object;)Z" } : Jvm.MethodName)) ∈ lw_tbl := z_in5 (List.mem_of_getElem? (i := 233) rfl)
theorem w1_77 : (Jvm.Cond.methodLinkNest "StandingsHall" (149 : Nat) ({ cls := "StandingsHall$Order", name := "judge", desc := "(LStandingsHall$Entrant;)V" } : Jvm.MethodName) "StandingsHall") ∈ lw_tbl := z_in1 (List.mem_of_getElem? (i := 77) rfl)
theorem w4_176 : (Jvm.Cond.methodLinkNest "StandingsHall" (153 : Nat) ({ cls := "StandingsHall$Standing", name := "put", desc := "(LStandingsHall$Entrant;)V" } : Jvm.MethodName) "StandingsHall") ∈ lw_tbl := z_in4 (List.mem_of_getElem? (i := 176) rfl)
theorem w5_166 : (Jvm.Cond.methodLinkNest "StandingsHall" (156 : Nat) ({ cls := "StandingsHall$PointsRow", name := "put", desc := "(LStandingsHall$Entrant;)V" } : Jvm.MethodName) "StandingsHall") ∈ lw_tbl := z_in5 (List.mem_of_getElem? (i := 166) rfl)
theorem w5_232 : (Jvm.Cond.stringRef "StandingsHall" (143 : Nat) "no more can come") ∈ lw_tbl := z_in5 (List.mem_of_getElem? (i := 232) rfl)
theorem w5_207 : (Jvm.Cond.code ({ cls := "StandingsHall", name := "leave", desc := "(I)I" } : Jvm.MethodName) prog_1_method_8_code (4 : Nat) (Option.some Jvm.ClassFile.FieldType.int)) ∈ lw_tbl := z_in5 (List.mem_of_getElem? (i := 207) rfl)
theorem w5_205 : (Jvm.Cond.instanceMethod ({ cls := "StandingsHall", name := "leave", desc := "(I)I" } : Jvm.MethodName)) ∈ lw_tbl := z_in5 (List.mem_of_getElem? (i := 205) rfl)
theorem w5_206 : (Jvm.Cond.selects "StandingsHall" ({ cls := "StandingsHall", name := "leave", desc := "(I)I" } : Jvm.MethodName) ({ cls := "StandingsHall", name := "leave", desc := "(I)I" } : Jvm.MethodName)) ∈ lw_tbl := z_in5 (List.mem_of_getElem? (i := 206) rfl)
theorem w2_77 : (Jvm.Cond.fieldLinkNest "StandingsHall" (157 : Nat) "StandingsHall$Entrant" "place" "I" "StandingsHall") ∈ lw_tbl := z_in2 (List.mem_of_getElem? (i := 77) rfl)
theorem w5_149 : (Jvm.Cond.methodLinkNest "StandingsHall" (160 : Nat) ({ cls := "StandingsHall$Standing", name := "take", desc := "(LStandingsHall$Entrant;)V" } : Jvm.MethodName) "StandingsHall") ∈ lw_tbl := z_in5 (List.mem_of_getElem? (i := 149) rfl)
theorem w5_161 : (Jvm.Cond.methodLinkNest "StandingsHall" (163 : Nat) ({ cls := "StandingsHall$PointsRow", name := "take", desc := "(LStandingsHall$Entrant;)V" } : Jvm.MethodName) "StandingsHall") ∈ lw_tbl := z_in5 (List.mem_of_getElem? (i := 161) rfl)
theorem w5_208 : (Jvm.Cond.methodLinkNest "StandingsHall" (164 : Nat) ({ cls := "StandingsHall$Ladder", name := "take", desc := "(LStandingsHall$Entrant;)V" } : Jvm.MethodName) "StandingsHall") ∈ lw_tbl := z_in5 (List.mem_of_getElem? (i := 208) rfl)
theorem w2_71 : (Jvm.Cond.fieldLinkNest "StandingsHall" (165 : Nat) "StandingsHall$Entrant" "isThere" "Z" "StandingsHall") ∈ lw_tbl := z_in2 (List.mem_of_getElem? (i := 71) rfl)
theorem w5_144 : (Jvm.Cond.code ({ cls := "StandingsHall", name := "score", desc := "(III)I" } : Jvm.MethodName) prog_1_method_9_code (6 : Nat) (Option.some Jvm.ClassFile.FieldType.int)) ∈ lw_tbl := z_in5 (List.mem_of_getElem? (i := 144) rfl)
theorem w5_142 : (Jvm.Cond.instanceMethod ({ cls := "StandingsHall", name := "score", desc := "(III)I" } : Jvm.MethodName)) ∈ lw_tbl := z_in5 (List.mem_of_getElem? (i := 142) rfl)
theorem w5_143 : (Jvm.Cond.selects "StandingsHall" ({ cls := "StandingsHall", name := "score", desc := "(III)I" } : Jvm.MethodName) ({ cls := "StandingsHall", name := "score", desc := "(III)I" } : Jvm.MethodName)) ∈ lw_tbl := z_in5 (List.mem_of_getElem? (i := 143) rfl)
theorem w5_128 : (Jvm.Cond.code ({ cls := "StandingsHall", name := "raisedScore", desc := "(LStandingsHall$Entrant;II)I" } : Jvm.MethodName) prog_1_method_60_code (6 : Nat) (Option.some Jvm.ClassFile.FieldType.int)) ∈ lw_tbl := z_in5 (List.mem_of_getElem? (i := 128) rfl)
theorem w5_127 : (Jvm.Cond.instanceMethod ({ cls := "StandingsHall", name := "raisedScore", desc := "(LStandingsHall$Entrant;II)I" } : Jvm.MethodName)) ∈ lw_tbl := z_in5 (List.mem_of_getElem? (i := 127) rfl)
theorem wS59 : (Cond.selects "StandingsHall" ⟨"StandingsHall", "raisedScore", "(LStandingsHall$Entrant;II)I"⟩ ⟨"StandingsHall", "raisedScore", "(LStandingsHall$Entrant;II)I"⟩ : Cond) ∈ lw_tbl := z_inS (List.mem_of_getElem? (i := 59) rfl)
theorem w5_125 : (Jvm.Cond.methodLink "StandingsHall" (169 : Nat) ({ cls := "StandingsHall", name := "raisedScore", desc := "(LStandingsHall$Entrant;II)I" } : Jvm.MethodName)) ∈ lw_tbl := z_in5 (List.mem_of_getElem? (i := 125) rfl)
theorem w5_148 : (Jvm.Cond.code ({ cls := "StandingsHall", name := "changeScore", desc := "(LStandingsHall$Entrant;II)V" } : Jvm.MethodName) prog_1_method_61_code (4 : Nat) (Option.none : Option Jvm.ClassFile.FieldType)) ∈ lw_tbl := z_in5 (List.mem_of_getElem? (i := 148) rfl)
theorem w5_147 : (Jvm.Cond.instanceMethod ({ cls := "StandingsHall", name := "changeScore", desc := "(LStandingsHall$Entrant;II)V" } : Jvm.MethodName)) ∈ lw_tbl := z_in5 (List.mem_of_getElem? (i := 147) rfl)
theorem wS62 : (Cond.selects "StandingsHall" ⟨"StandingsHall", "changeScore", "(LStandingsHall$Entrant;II)V"⟩ ⟨"StandingsHall", "changeScore", "(LStandingsHall$Entrant;II)V"⟩ : Cond) ∈ lw_tbl := z_inS (List.mem_of_getElem? (i := 62) rfl)
theorem w5_145 : (Jvm.Cond.methodLink "StandingsHall" (173 : Nat) ({ cls := "StandingsHall", name := "changeScore", desc := "(LStandingsHall$Entrant;II)V" } : Jvm.MethodName)) ∈ lw_tbl := z_in5 (List.mem_of_getElem? (i := 145) rfl)
theorem w5_175 : (Jvm.Cond.code ({ cls := "StandingsHall", name := "setScore", desc := "(III)I" } : Jvm.MethodName) prog_1_method_10_code (6 : Nat) (Option.some Jvm.ClassFile.FieldType.int)) ∈ lw_tbl := z_in5 (List.mem_of_getElem? (i := 175) rfl)
theorem w5_173 : (Jvm.Cond.instanceMethod ({ cls := "StandingsHall", name := "setScore", desc := "(III)I" } : Jvm.MethodName)) ∈ lw_tbl := z_in5 (List.mem_of_getElem? (i := 173) rfl)
theorem w5_174 : (Jvm.Cond.selects "StandingsHall" ({ cls := "StandingsHall", name := "setScore", desc := "(III)I" } : Jvm.MethodName) ({ cls := "StandingsHall", name := "setScore", desc := "(III)I" } : Jvm.MethodName)) ∈ lw_tbl := z_in5 (List.mem_of_getElem? (i := 174) rfl)
theorem w5_132 : (Jvm.Cond.code ({ cls := "StandingsHall", name := "checkKind", desc := "(I)V" } : Jvm.MethodName) prog_1_method_54_code (2 : Nat) (Option.none : Option Jvm.ClassFile.FieldType)) ∈ lw_tbl := z_in5 (List.mem_of_getElem? (i := 132) rfl)
theorem w5_131 : (Jvm.Cond.instanceMethod ({ cls := "StandingsHall", name := "checkKind", desc := "(I)V" } : Jvm.MethodName)) ∈ lw_tbl := z_in5 (List.mem_of_getElem? (i := 131) rfl)
theorem wS60 : (Cond.selects "StandingsHall" ⟨"StandingsHall", "checkKind", "(I)V"⟩ ⟨"StandingsHall", "checkKind", "(I)V"⟩ : Cond) ∈ lw_tbl := z_inS (List.mem_of_getElem? (i := 60) rfl)
theorem w5_129 : (Jvm.Cond.methodLink "StandingsHall" (177 : Nat) ({ cls := "StandingsHall", name := "checkKind", desc := "(I)V" } : Jvm.MethodName)) ∈ lw_tbl := z_in5 (List.mem_of_getElem? (i := 129) rfl)
theorem w5_137 : (Jvm.Cond.code ({ cls := "StandingsHall", name := "checkScore", desc := "(J)V" } : Jvm.MethodName) prog_1_method_55_code (3 : Nat) (Option.none : Option Jvm.ClassFile.FieldType)) ∈ lw_tbl := z_in5 (List.mem_of_getElem? (i := 137) rfl)
theorem w5_136 : (Jvm.Cond.instanceMethod ({ cls := "StandingsHall", name := "checkScore", desc := "(J)V" } : Jvm.MethodName)) ∈ lw_tbl := z_in5 (List.mem_of_getElem? (i := 136) rfl)
theorem wS61 : (Cond.selects "StandingsHall" ⟨"StandingsHall", "checkScore", "(J)V"⟩ ⟨"StandingsHall", "checkScore", "(J)V"⟩ : Cond) ∈ lw_tbl := z_inS (List.mem_of_getElem? (i := 61) rfl)
theorem w5_134 : (Jvm.Cond.methodLink "StandingsHall" (180 : Nat) ({ cls := "StandingsHall", name := "checkScore", desc := "(J)V" } : Jvm.MethodName)) ∈ lw_tbl := z_in5 (List.mem_of_getElem? (i := 134) rfl)
theorem w1_69 : (Jvm.Cond.methodLinkNest "StandingsHall" (184 : Nat) ({ cls := "StandingsHall$Entrant", name := "scoreIn", desc := "(I)I" } : Jvm.MethodName) "StandingsHall") ∈ lw_tbl := z_in1 (List.mem_of_getElem? (i := 69) rfl)
theorem w5_179 : (Jvm.Cond.code ({ cls := "StandingsHall", name := "scoreOf", desc := "(II)I" } : Jvm.MethodName) prog_1_method_11_code (4 : Nat) (Option.some Jvm.ClassFile.FieldType.int)) ∈ lw_tbl := z_in5 (List.mem_of_getElem? (i := 179) rfl)
theorem w5_177 : (Jvm.Cond.instanceMethod ({ cls := "StandingsHall", name := "scoreOf", desc := "(II)I" } : Jvm.MethodName)) ∈ lw_tbl := z_in5 (List.mem_of_getElem? (i := 177) rfl)
theorem w5_178 : (Jvm.Cond.selects "StandingsHall" ({ cls := "StandingsHall", name := "scoreOf", desc := "(II)I" } : Jvm.MethodName) ({ cls := "StandingsHall", name := "scoreOf", desc := "(II)I" } : Jvm.MethodName)) ∈ lw_tbl := z_in5 (List.mem_of_getElem? (i := 178) rfl)
theorem w6_4 : (Jvm.Cond.code ({ cls := "StandingsHall", name := "groupOf", desc := "(I)I" } : Jvm.MethodName) prog_1_method_12_code (2 : Nat) (Option.some Jvm.ClassFile.FieldType.int)) ∈ lw_tbl := z_in6 (List.mem_of_getElem? (i := 4) rfl)
theorem w6_2 : (Jvm.Cond.instanceMethod ({ cls := "StandingsHall", name := "groupOf", desc := "(I)I" } : Jvm.MethodName)) ∈ lw_tbl := z_in6 (List.mem_of_getElem? (i := 2) rfl)
theorem w6_3 : (Jvm.Cond.selects "StandingsHall" ({ cls := "StandingsHall", name := "groupOf", desc := "(I)I" } : Jvm.MethodName) ({ cls := "StandingsHall", name := "groupOf", desc := "(I)I" } : Jvm.MethodName)) ∈ lw_tbl := z_in6 (List.mem_of_getElem? (i := 3) rfl)
theorem w2_68 : (Jvm.Cond.fieldLinkNest "StandingsHall" (187 : Nat) "StandingsHall$Entrant" "group" "I" "StandingsHall") ∈ lw_tbl := z_in2 (List.mem_of_getElem? (i := 68) rfl)
theorem w5_42 : (Jvm.Cond.code ({ cls := "StandingsHall", name := "entrants", desc := "()I" } : Jvm.MethodName) prog_1_method_13_code (1 : Nat) (Option.some Jvm.ClassFile.FieldType.int)) ∈ lw_tbl := z_in5 (List.mem_of_getElem? (i := 42) rfl)
theorem w5_40 : (Jvm.Cond.instanceMethod ({ cls := "StandingsHall", name := "entrants", desc := "()I" } : Jvm.MethodName)) ∈ lw_tbl := z_in5 (List.mem_of_getElem? (i := 40) rfl)
theorem w5_41 : (Jvm.Cond.selects "StandingsHall" ({ cls := "StandingsHall", name := "entrants", desc := "()I" } : Jvm.MethodName) ({ cls := "StandingsHall", name := "entrants", desc := "()I" } : Jvm.MethodName)) ∈ lw_tbl := z_in5 (List.mem_of_getElem? (i := 41) rfl)
theorem w2_20 : (Jvm.Cond.fieldLinkNest "StandingsHall" (190 : Nat) "StandingsHall$Standing" "row" "Ljava/util/ArrayList;" "StandingsHall") ∈ lw_tbl := z_in2 (List.mem_of_getElem? (i := 20) rfl)
theorem w5_67 : (Jvm.Cond.code ({ cls := "StandingsHall", name := "at", desc := "(I)I" } : Jvm.MethodName) prog_1_method_14_code (2 : Nat) (Option.some Jvm.ClassFile.FieldType.int)) ∈ lw_tbl := z_in5 (List.mem_of_getElem? (i := 67) rfl)
theorem w5_65 : (Jvm.Cond.instanceMethod ({ cls := "StandingsHall", name := "at", desc := "(I)I" } : Jvm.MethodName)) ∈ lw_tbl := z_in5 (List.mem_of_getElem? (i := 65) rfl)
theorem w5_66 : (Jvm.Cond.selects "StandingsHall" ({ cls := "StandingsHall", name := "at", desc := "(I)I" } : Jvm.MethodName) ({ cls := "StandingsHall", name := "at", desc := "(I)I" } : Jvm.MethodName)) ∈ lw_tbl := z_in5 (List.mem_of_getElem? (i := 66) rfl)
theorem w1_45 : (Jvm.Cond.methodLink "StandingsHall" (198 : Nat) ({ cls := "java/util/ArrayList", name := "get", desc := "(I)Ljava/lang/Object;" } : Jvm.MethodName)) ∈ lw_tbl := z_in1 (List.mem_of_getElem? (i := 45) rfl)
theorem w2_66 : (Jvm.Cond.fieldLinkNest "StandingsHall" (202 : Nat) "StandingsHall$Entrant" "number" "I" "StandingsHall") ∈ lw_tbl := z_in2 (List.mem_of_getElem? (i := 66) rfl)
theorem w5_69 : (Jvm.Cond.stringRef "StandingsHall" (195 : Nat) "there is no such place") ∈ lw_tbl := z_in5 (List.mem_of_getElem? (i := 69) rfl)
theorem w5_74 : (Jvm.Cond.code ({ cls := "StandingsHall", name := "place", desc := "(I)I" } : Jvm.MethodName) prog_1_method_15_code (2 : Nat) (Option.some Jvm.ClassFile.FieldType.int)) ∈ lw_tbl := z_in5 (List.mem_of_getElem? (i := 74) rfl)
theorem w5_72 : (Jvm.Cond.instanceMethod ({ cls := "StandingsHall", name := "place", desc := "(I)I" } : Jvm.MethodName)) ∈ lw_tbl := z_in5 (List.mem_of_getElem? (i := 72) rfl)
theorem w5_73 : (Jvm.Cond.selects "StandingsHall" ({ cls := "StandingsHall", name := "place", desc := "(I)I" } : Jvm.MethodName) ({ cls := "StandingsHall", name := "place", desc := "(I)I" } : Jvm.MethodName)) ∈ lw_tbl := z_in5 (List.mem_of_getElem? (i := 73) rfl)
theorem w5_94 : (Jvm.Cond.code ({ cls := "StandingsHall", name := "rank", desc := "(II)I" } : Jvm.MethodName) prog_1_method_16_code (4 : Nat) (Option.some Jvm.ClassFile.FieldType.int)) ∈ lw_tbl := z_in5 (List.mem_of_getElem? (i := 94) rfl)
theorem w5_92 : (Jvm.Cond.instanceMethod ({ cls := "StandingsHall", name := "rank", desc := "(II)I" } : Jvm.MethodName)) ∈ lw_tbl := z_in5 (List.mem_of_getElem? (i := 92) rfl)
theorem w5_93 : (Jvm.Cond.selects "StandingsHall" ({ cls := "StandingsHall", name := "rank", desc := "(II)I" } : Jvm.MethodName) ({ cls := "StandingsHall", name := "rank", desc := "(II)I" } : Jvm.MethodName)) ∈ lw_tbl := z_in5 (List.mem_of_getElem? (i := 93) rfl)
theorem w5_96 : (Jvm.Cond.methodLinkNest "StandingsHall" (207 : Nat) ({ cls := "StandingsHall$Standing", name := "sharedRank", desc := "(LStandingsHall$Entrant;)I" } : Jvm.MethodName) "StandingsHall") ∈ lw_tbl := z_in5 (List.mem_of_getElem? (i := 96) rfl)
theorem w5_97 : (Jvm.Cond.methodLinkNest "StandingsHall" (211 : Nat) ({ cls := "StandingsHall$Standing", name := "denseRank", desc := "(LStandingsHall$Entrant;)I" } : Jvm.MethodName) "StandingsHall") ∈ lw_tbl := z_in5 (List.mem_of_getElem? (i := 97) rfl)
theorem w5_47 : (Jvm.Cond.methodLinkNest "StandingsHall" (214 : Nat) ({ cls := "StandingsHall$Standing", name := "twiceMeanRank", desc := "(LStandingsHall$Entrant;)I" } : Jvm.MethodName) "StandingsHall") ∈ lw_tbl := z_in5 (List.mem_of_getElem? (i := 47) rfl)
theorem w5_95 : (Jvm.Cond.stringRef "StandingsHall" (205 : Nat) "there is no such sort of rank") ∈ lw_tbl := z_in5 (List.mem_of_getElem? (i := 95) rfl)
theorem w5_83 : (Jvm.Cond.code ({ cls := "StandingsHall", name := "alike", desc := "(I)I" } : Jvm.MethodName) prog_1_method_17_code (2 : Nat) (Option.some Jvm.ClassFile.FieldType.int)) ∈ lw_tbl := z_in5 (List.mem_of_getElem? (i := 83) rfl)
theorem w5_81 : (Jvm.Cond.instanceMethod ({ cls := "StandingsHall", name := "alike", desc := "(I)I" } : Jvm.MethodName)) ∈ lw_tbl := z_in5 (List.mem_of_getElem? (i := 81) rfl)
theorem w5_82 : (Jvm.Cond.selects "StandingsHall" ({ cls := "StandingsHall", name := "alike", desc := "(I)I" } : Jvm.MethodName) ({ cls := "StandingsHall", name := "alike", desc := "(I)I" } : Jvm.MethodName)) ∈ lw_tbl := z_in5 (List.mem_of_getElem? (i := 82) rfl)
theorem w5_84 : (Jvm.Cond.methodLinkNest "StandingsHall" (217 : Nat) ({ cls := "StandingsHall$Standing", name := "countAlike", desc := "(LStandingsHall$Entrant;)I" } : Jvm.MethodName) "StandingsHall") ∈ lw_tbl := z_in5 (List.mem_of_getElem? (i := 84) rfl)
theorem w5_108 : (Jvm.Cond.code ({ cls := "StandingsHall", name := "results", desc := "()I" } : Jvm.MethodName) prog_1_method_18_code (1 : Nat) (Option.some Jvm.ClassFile.FieldType.int)) ∈ lw_tbl := z_in5 (List.mem_of_getElem? (i := 108) rfl)
theorem w5_106 : (Jvm.Cond.instanceMethod ({ cls := "StandingsHall", name := "results", desc := "()I" } : Jvm.MethodName)) ∈ lw_tbl := z_in5 (List.mem_of_getElem? (i := 106) rfl)
theorem w5_107 : (Jvm.Cond.selects "StandingsHall" ({ cls := "StandingsHall", name := "results", desc := "()I" } : Jvm.MethodName) ({ cls := "StandingsHall", name := "results", desc := "()I" } : Jvm.MethodName)) ∈ lw_tbl := z_in5 (List.mem_of_getElem? (i := 107) rfl)
theorem w5_109 : (Jvm.Cond.methodLinkNest "StandingsHall" (220 : Nat) ({ cls := "StandingsHall$Standing", name := "countResults", desc := "()I" } : Jvm.MethodName) "StandingsHall") ∈ lw_tbl := z_in5 (List.mem_of_getElem? (i := 109) rfl)
theorem w5_46 : (Jvm.Cond.code ({ cls := "StandingsHall", name := "rankSum", desc := "()I" } : Jvm.MethodName) prog_1_method_19_code (3 : Nat) (Option.some Jvm.ClassFile.FieldType.int)) ∈ lw_tbl := z_in5 (List.mem_of_getElem? (i := 46) rfl)
theorem w5_44 : (Jvm.Cond.instanceMethod ({ cls := "StandingsHall", name := "rankSum", desc := "()I" } : Jvm.MethodName)) ∈ lw_tbl := z_in5 (List.mem_of_getElem? (i := 44) rfl)
theorem w5_45 : (Jvm.Cond.selects "StandingsHall" ({ cls := "StandingsHall", name := "rankSum", desc := "()I" } : Jvm.MethodName) ({ cls := "StandingsHall", name := "rankSum", desc := "()I" } : Jvm.MethodName)) ∈ lw_tbl := z_in5 (List.mem_of_getElem? (i := 45) rfl)
theorem w5_124 : (Jvm.Cond.code ({ cls := "StandingsHall", name := "wouldGain", desc := "(III)I" } : Jvm.MethodName) prog_1_method_20_code (6 : Nat) (Option.some Jvm.ClassFile.FieldType.int)) ∈ lw_tbl := z_in5 (List.mem_of_getElem? (i := 124) rfl)
theorem w5_122 : (Jvm.Cond.instanceMethod ({ cls := "StandingsHall", name := "wouldGain", desc := "(III)I" } : Jvm.MethodName)) ∈ lw_tbl := z_in5 (List.mem_of_getElem? (i := 122) rfl)
theorem w5_123 : (Jvm.Cond.selects "StandingsHall" ({ cls := "StandingsHall", name := "wouldGain", desc := "(III)I" } : Jvm.MethodName) ({ cls := "StandingsHall", name := "wouldGain", desc := "(III)I" } : Jvm.MethodName)) ∈ lw_tbl := z_in5 (List.mem_of_getElem? (i := 123) rfl)
theorem w1_68 : (Jvm.Cond.code ({ cls := "StandingsHall", name := "tryWith", desc := "(LStandingsHall$Entrant;II)V" } : Jvm.MethodName) prog_1_method_63_code (5 : Nat) (Option.none : Option Jvm.ClassFile.FieldType)) ∈ lw_tbl := z_in1 (List.mem_of_getElem? (i := 68) rfl)
theorem w1_67 : (Jvm.Cond.instanceMethod ({ cls := "StandingsHall", name := "tryWith", desc := "(LStandingsHall$Entrant;II)V" } : Jvm.MethodName)) ∈ lw_tbl := z_in1 (List.mem_of_getElem? (i := 67) rfl)
theorem wS2 : (Cond.selects "StandingsHall" ⟨"StandingsHall", "tryWith", "(LStandingsHall$Entrant;II)V"⟩ ⟨"StandingsHall", "tryWith", "(LStandingsHall$Entrant;II)V"⟩ : Cond) ∈ lw_tbl := z_inS (List.mem_of_getElem? (i := 2) rfl)
theorem w1_65 : (Jvm.Cond.methodLink "StandingsHall" (223 : Nat) ({ cls := "StandingsHall", name := "tryWith", desc := "(LStandingsHall$Entrant;II)V" } : Jvm.MethodName)) ∈ lw_tbl := z_in1 (List.mem_of_getElem? (i := 65) rfl)
theorem w1_91 : (Jvm.Cond.methodLinkNest "StandingsHall" (226 : Nat) ({ cls := "StandingsHall$Standing", name := "countAhead", desc := "(LStandingsHall$Entrant;)I" } : Jvm.MethodName) "StandingsHall") ∈ lw_tbl := z_in1 (List.mem_of_getElem? (i := 91) rfl)
theorem w5_187 : (Jvm.Cond.code ({ cls := "StandingsHall", name := "needed", desc := "(II)I" } : Jvm.MethodName) prog_1_method_21_code (5 : Nat) (Option.some Jvm.ClassFile.FieldType.int)) ∈ lw_tbl := z_in5 (List.mem_of_getElem? (i := 187) rfl)
theorem w5_185 : (Jvm.Cond.instanceMethod ({ cls := "StandingsHall", name := "needed", desc := "(II)I" } : Jvm.MethodName)) ∈ lw_tbl := z_in5 (List.mem_of_getElem? (i := 185) rfl)
theorem w5_186 : (Jvm.Cond.selects "StandingsHall" ({ cls := "StandingsHall", name := "needed", desc := "(II)I" } : Jvm.MethodName) ({ cls := "StandingsHall", name := "needed", desc := "(II)I" } : Jvm.MethodName)) ∈ lw_tbl := z_in5 (List.mem_of_getElem? (i := 186) rfl)
theorem w5_189 : (Jvm.Cond.constant "StandingsHall" (231 : Nat) (100000 : Int32)) ∈ lw_tbl := z_in5 (List.mem_of_getElem? (i := 189) rfl)
theorem w1_60 : (Jvm.Cond.methodLinkNest "StandingsHall" (232 : Nat) ({ cls := "StandingsHall$Entrant", name := "points", desc := "()I" } : Jvm.MethodName) "StandingsHall") ∈ lw_tbl := z_in1 (List.mem_of_getElem? (i := 60) rfl)
theorem w5_190 : (Jvm.Cond.methodLink "StandingsHall" (235 : Nat) ({ cls := "java/lang/Math", name := "min", desc := "(II)I" } : Jvm.MethodName)) ∈ lw_tbl := z_in5 (List.mem_of_getElem? (i := 190) rfl)
theorem w5_194 : (Jvm.Cond.code ({ cls := "StandingsHall", name := "rankWith", desc := "(LStandingsHall$Entrant;I)I" } : Jvm.MethodName) prog_1_method_64_code (3 : Nat) (Option.some Jvm.ClassFile.FieldType.int)) ∈ lw_tbl := z_in5 (List.mem_of_getElem? (i := 194) rfl)
theorem w5_193 : (Jvm.Cond.instanceMethod ({ cls := "StandingsHall", name := "rankWith", desc := "(LStandingsHall$Entrant;I)I" } : Jvm.MethodName)) ∈ lw_tbl := z_in5 (List.mem_of_getElem? (i := 193) rfl)
theorem wS68 : (Cond.selects "StandingsHall" ⟨"StandingsHall", "rankWith", "(LStandingsHall$Entrant;I)I"⟩ ⟨"StandingsHall", "rankWith", "(LStandingsHall$Entrant;I)I"⟩ : Cond) ∈ lw_tbl := z_inS (List.mem_of_getElem? (i := 68) rfl)
theorem w5_191 : (Jvm.Cond.methodLink "StandingsHall" (241 : Nat) ({ cls := "StandingsHall", name := "rankWith", desc := "(LStandingsHall$Entrant;I)I" } : Jvm.MethodName)) ∈ lw_tbl := z_in5 (List.mem_of_getElem? (i := 191) rfl)
theorem w5_198 : (Jvm.Cond.code ({ cls := "StandingsHall", name := "leastNeeded", desc := "(LStandingsHall$Entrant;II)I" } : Jvm.MethodName) prog_1_method_65_code (8 : Nat) (Option.some Jvm.ClassFile.FieldType.int)) ∈ lw_tbl := z_in5 (List.mem_of_getElem? (i := 198) rfl)
theorem w5_197 : (Jvm.Cond.instanceMethod ({ cls := "StandingsHall", name := "leastNeeded", desc := "(LStandingsHall$Entrant;II)I" } : Jvm.MethodName)) ∈ lw_tbl := z_in5 (List.mem_of_getElem? (i := 197) rfl)
theorem wS69 : (Cond.selects "StandingsHall" ⟨"StandingsHall", "leastNeeded", "(LStandingsHall$Entrant;II)I"⟩ ⟨"StandingsHall", "leastNeeded", "(LStandingsHall$Entrant;II)I"⟩ : Cond) ∈ lw_tbl := z_inS (List.mem_of_getElem? (i := 69) rfl)
theorem w5_195 : (Jvm.Cond.methodLink "StandingsHall" (244 : Nat) ({ cls := "StandingsHall", name := "leastNeeded", desc := "(LStandingsHall$Entrant;II)I" } : Jvm.MethodName)) ∈ lw_tbl := z_in5 (List.mem_of_getElem? (i := 195) rfl)
theorem w5_188 : (Jvm.Cond.stringRef "StandingsHall" (229 : Nat) "there is no such rank") ∈ lw_tbl := z_in5 (List.mem_of_getElem? (i := 188) rfl)
theorem w6_46 : (Jvm.Cond.code ({ cls := "StandingsHall", name := "above", desc := "(I)I" } : Jvm.MethodName) prog_1_method_22_code (2 : Nat) (Option.some Jvm.ClassFile.FieldType.int)) ∈ lw_tbl := z_in6 (List.mem_of_getElem? (i := 46) rfl)
theorem w6_44 : (Jvm.Cond.instanceMethod ({ cls := "StandingsHall", name := "above", desc := "(I)I" } : Jvm.MethodName)) ∈ lw_tbl := z_in6 (List.mem_of_getElem? (i := 44) rfl)
theorem w6_45 : (Jvm.Cond.selects "StandingsHall" ({ cls := "StandingsHall", name := "above", desc := "(I)I" } : Jvm.MethodName) ({ cls := "StandingsHall", name := "above", desc := "(I)I" } : Jvm.MethodName)) ∈ lw_tbl := z_in6 (List.mem_of_getElem? (i := 45) rfl)
theorem w2_32 : (Jvm.Cond.fieldLinkNest "StandingsHall" (247 : Nat) "StandingsHall$PointsRow" "row" "Ljava/util/ArrayList;" "StandingsHall") ∈ lw_tbl := z_in2 (List.mem_of_getElem? (i := 32) rfl)
theorem w1_119 : (Jvm.Cond.methodLinkNest "StandingsHall" (248 : Nat) ({ cls := "StandingsHall$PointsRow", name := "countUpTo", desc := "(I)I" } : Jvm.MethodName) "StandingsHall") ∈ lw_tbl := z_in1 (List.mem_of_getElem? (i := 119) rfl)
theorem w6_50 : (Jvm.Cond.code ({ cls := "StandingsHall", name := "with", desc := "(I)I" } : Jvm.MethodName) prog_1_method_23_code (2 : Nat) (Option.some Jvm.ClassFile.FieldType.int)) ∈ lw_tbl := z_in6 (List.mem_of_getElem? (i := 50) rfl)
theorem w6_48 : (Jvm.Cond.instanceMethod ({ cls := "StandingsHall", name := "with", desc := "(I)I" } : Jvm.MethodName)) ∈ lw_tbl := z_in6 (List.mem_of_getElem? (i := 48) rfl)
theorem w6_49 : (Jvm.Cond.selects "StandingsHall" ({ cls := "StandingsHall", name := "with", desc := "(I)I" } : Jvm.MethodName) ({ cls := "StandingsHall", name := "with", desc := "(I)I" } : Jvm.MethodName)) ∈ lw_tbl := z_in6 (List.mem_of_getElem? (i := 49) rfl)
theorem w1_128 : (Jvm.Cond.methodLinkNest "StandingsHall" (251 : Nat) ({ cls := "StandingsHall$PointsRow", name := "countBelow", desc := "(I)I" } : Jvm.MethodName) "StandingsHall") ∈ lw_tbl := z_in1 (List.mem_of_getElem? (i := 128) rfl)
theorem w6_54 : (Jvm.Cond.code ({ cls := "StandingsHall", name := "withAt", desc := "(II)I" } : Jvm.MethodName) prog_1_method_24_code (5 : Nat) (Option.some Jvm.ClassFile.FieldType.int)) ∈ lw_tbl := z_in6 (List.mem_of_getElem? (i := 54) rfl)
theorem w6_52 : (Jvm.Cond.instanceMethod ({ cls := "StandingsHall", name := "withAt", desc := "(II)I" } : Jvm.MethodName)) ∈ lw_tbl := z_in6 (List.mem_of_getElem? (i := 52) rfl)
theorem w6_53 : (Jvm.Cond.selects "StandingsHall" ({ cls := "StandingsHall", name := "withAt", desc := "(II)I" } : Jvm.MethodName) ({ cls := "StandingsHall", name := "withAt", desc := "(II)I" } : Jvm.MethodName)) ∈ lw_tbl := z_in6 (List.mem_of_getElem? (i := 53) rfl)
theorem w6_63 : (Jvm.Cond.code ({ cls := "StandingsHall", name := "next", desc := "(I)I" } : Jvm.MethodName) prog_1_method_25_code (3 : Nat) (Option.some Jvm.ClassFile.FieldType.int)) ∈ lw_tbl := z_in6 (List.mem_of_getElem? (i := 63) rfl)
theorem w6_61 : (Jvm.Cond.instanceMethod ({ cls := "StandingsHall", name := "next", desc := "(I)I" } : Jvm.MethodName)) ∈ lw_tbl := z_in6 (List.mem_of_getElem? (i := 61) rfl)
theorem w6_62 : (Jvm.Cond.selects "StandingsHall" ({ cls := "StandingsHall", name := "next", desc := "(I)I" } : Jvm.MethodName) ({ cls := "StandingsHall", name := "next", desc := "(I)I" } : Jvm.MethodName)) ∈ lw_tbl := z_in6 (List.mem_of_getElem? (i := 62) rfl)
theorem w6_64 : (Jvm.Cond.stringRef "StandingsHall" (256 : Nat) "nobody has more points") ∈ lw_tbl := z_in6 (List.mem_of_getElem? (i := 64) rfl)
theorem w6_58 : (Jvm.Cond.code ({ cls := "StandingsHall", name := "between", desc := "(II)I" } : Jvm.MethodName) prog_1_method_26_code (3 : Nat) (Option.some Jvm.ClassFile.FieldType.int)) ∈ lw_tbl := z_in6 (List.mem_of_getElem? (i := 58) rfl)
theorem w6_56 : (Jvm.Cond.instanceMethod ({ cls := "StandingsHall", name := "between", desc := "(II)I" } : Jvm.MethodName)) ∈ lw_tbl := z_in6 (List.mem_of_getElem? (i := 56) rfl)
theorem w6_57 : (Jvm.Cond.selects "StandingsHall" ({ cls := "StandingsHall", name := "between", desc := "(II)I" } : Jvm.MethodName) ({ cls := "StandingsHall", name := "between", desc := "(II)I" } : Jvm.MethodName)) ∈ lw_tbl := z_in6 (List.mem_of_getElem? (i := 57) rfl)
theorem w6_59 : (Jvm.Cond.stringRef "StandingsHall" (259 : Nat) "from is greater than to") ∈ lw_tbl := z_in6 (List.mem_of_getElem? (i := 59) rfl)
theorem w6_16 : (Jvm.Cond.code ({ cls := "StandingsHall", name := "median", desc := "(Z)I" } : Jvm.MethodName) prog_1_method_27_code (2 : Nat) (Option.some Jvm.ClassFile.FieldType.int)) ∈ lw_tbl := z_in6 (List.mem_of_getElem? (i := 16) rfl)
theorem w6_14 : (Jvm.Cond.instanceMethod ({ cls := "StandingsHall", name := "median", desc := "(Z)I" } : Jvm.MethodName)) ∈ lw_tbl := z_in6 (List.mem_of_getElem? (i := 14) rfl)
theorem w6_15 : (Jvm.Cond.selects "StandingsHall" ({ cls := "StandingsHall", name := "median", desc := "(Z)I" } : Jvm.MethodName) ({ cls := "StandingsHall", name := "median", desc := "(Z)I" } : Jvm.MethodName)) ∈ lw_tbl := z_in6 (List.mem_of_getElem? (i := 15) rfl)
theorem w6_20 : (Jvm.Cond.code ({ cls := "StandingsHall", name := "checkSomebodyIsThere", desc := "()V" } : Jvm.MethodName) prog_1_method_56_code (1 : Nat) (Option.none : Option Jvm.ClassFile.FieldType)) ∈ lw_tbl := z_in6 (List.mem_of_getElem? (i := 20) rfl)
theorem w6_19 : (Jvm.Cond.instanceMethod ({ cls := "StandingsHall", name := "checkSomebodyIsThere", desc := "()V" } : Jvm.MethodName)) ∈ lw_tbl := z_in6 (List.mem_of_getElem? (i := 19) rfl)
theorem wS77 : (Cond.selects "StandingsHall" ⟨"StandingsHall", "checkSomebodyIsThere", "()V"⟩ ⟨"StandingsHall", "checkSomebodyIsThere", "()V"⟩ : Cond) ∈ lw_tbl := z_inS (List.mem_of_getElem? (i := 77) rfl)
theorem w6_17 : (Jvm.Cond.methodLink "StandingsHall" (261 : Nat) ({ cls := "StandingsHall", name := "checkSomebodyIsThere", desc := "()V" } : Jvm.MethodName)) ∈ lw_tbl := z_in6 (List.mem_of_getElem? (i := 17) rfl)
theorem w1_143 : (Jvm.Cond.code ({ cls := "StandingsHall", name := "medianPlace", desc := "(Z)I" } : Jvm.MethodName) prog_1_method_66_code (3 : Nat) (Option.some Jvm.ClassFile.FieldType.int)) ∈ lw_tbl := z_in1 (List.mem_of_getElem? (i := 143) rfl)
theorem w1_142 : (Jvm.Cond.instanceMethod ({ cls := "StandingsHall", name := "medianPlace", desc := "(Z)I" } : Jvm.MethodName)) ∈ lw_tbl := z_in1 (List.mem_of_getElem? (i := 142) rfl)
theorem wS17 : (Cond.selects "StandingsHall" ⟨"StandingsHall", "medianPlace", "(Z)I"⟩ ⟨"StandingsHall", "medianPlace", "(Z)I"⟩ : Cond) ∈ lw_tbl := z_inS (List.mem_of_getElem? (i := 17) rfl)
theorem w1_140 : (Jvm.Cond.methodLink "StandingsHall" (264 : Nat) ({ cls := "StandingsHall", name := "medianPlace", desc := "(Z)I" } : Jvm.MethodName)) ∈ lw_tbl := z_in1 (List.mem_of_getElem? (i := 140) rfl)
theorem w1_144 : (Jvm.Cond.methodLinkNest "StandingsHall" (268 : Nat) ({ cls := "StandingsHall$PointsRow", name := "pointsAt", desc := "(I)I" } : Jvm.MethodName) "StandingsHall") ∈ lw_tbl := z_in1 (List.mem_of_getElem? (i := 144) rfl)
theorem w6_40 : (Jvm.Cond.code ({ cls := "StandingsHall", name := "quantile", desc := "(II)I" } : Jvm.MethodName) prog_1_method_28_code (4 : Nat) (Option.some Jvm.ClassFile.FieldType.int)) ∈ lw_tbl := z_in6 (List.mem_of_getElem? (i := 40) rfl)
theorem w6_38 : (Jvm.Cond.instanceMethod ({ cls := "StandingsHall", name := "quantile", desc := "(II)I" } : Jvm.MethodName)) ∈ lw_tbl := z_in6 (List.mem_of_getElem? (i := 38) rfl)
theorem w6_39 : (Jvm.Cond.selects "StandingsHall" ({ cls := "StandingsHall", name := "quantile", desc := "(II)I" } : Jvm.MethodName) ({ cls := "StandingsHall", name := "quantile", desc := "(II)I" } : Jvm.MethodName)) ∈ lw_tbl := z_in6 (List.mem_of_getElem? (i := 39) rfl)
theorem w6_42 : (Jvm.Cond.methodLink "StandingsHall" (273 : Nat) ({ cls := "java/lang/Math", name := "max", desc := "(II)I" } : Jvm.MethodName)) ∈ lw_tbl := z_in6 (List.mem_of_getElem? (i := 42) rfl)
theorem w6_41 : (Jvm.Cond.stringRef "StandingsHall" (271 : Nat) "p or q is out of range") ∈ lw_tbl := z_in6 (List.mem_of_getElem? (i := 41) rfl)
theorem w6_86 : (Jvm.Cond.code ({ cls := "StandingsHall", name := "enter", desc := "(I)I" } : Jvm.MethodName) prog_1_method_29_code (3 : Nat) (Option.some Jvm.ClassFile.FieldType.int)) ∈ lw_tbl := z_in6 (List.mem_of_getElem? (i := 86) rfl)
theorem w6_84 : (Jvm.Cond.instanceMethod ({ cls := "StandingsHall", name := "enter", desc := "(I)I" } : Jvm.MethodName)) ∈ lw_tbl := z_in6 (List.mem_of_getElem? (i := 84) rfl)
theorem w6_85 : (Jvm.Cond.selects "StandingsHall" ({ cls := "StandingsHall", name := "enter", desc := "(I)I" } : Jvm.MethodName) ({ cls := "StandingsHall", name := "enter", desc := "(I)I" } : Jvm.MethodName)) ∈ lw_tbl := z_in6 (List.mem_of_getElem? (i := 85) rfl)
theorem w6_87 : (Jvm.Cond.methodLinkNest "StandingsHall" (276 : Nat) ({ cls := "StandingsHall$Ladder", name := "placeIn", desc := "(LStandingsHall$Entrant;)I" } : Jvm.MethodName) "StandingsHall") ∈ lw_tbl := z_in6 (List.mem_of_getElem? (i := 87) rfl)
theorem w2_119 : (Jvm.Cond.fieldLink "StandingsHall" (281 : Nat) "StandingsHall" "over" "I") ∈ lw_tbl := z_in2 (List.mem_of_getElem? (i := 119) rfl)
theorem w6_89 : (Jvm.Cond.methodLinkNest "StandingsHall" (284 : Nat) ({ cls := "StandingsHall$Ladder", name := "put", desc := "(LStandingsHall$Entrant;I)V" } : Jvm.MethodName) "StandingsHall") ∈ lw_tbl := z_in6 (List.mem_of_getElem? (i := 89) rfl)
theorem w2_45 : (Jvm.Cond.fieldLinkNest "StandingsHall" (287 : Nat) "StandingsHall$Ladder" "row" "Ljava/util/ArrayList;" "StandingsHall") ∈ lw_tbl := z_in2 (List.mem_of_getElem? (i := 45) rfl)
theorem w6_88 : (Jvm.Cond.stringRef "StandingsHall" (279 : Nat) "it is in the ladder already") ∈ lw_tbl := z_in6 (List.mem_of_getElem? (i := 88) rfl)
theorem w6_106 : (Jvm.Cond.code ({ cls := "StandingsHall", name := "challenge", desc := "(IIZ)I" } : Jvm.MethodName) prog_1_method_30_code (8 : Nat) (Option.some Jvm.ClassFile.FieldType.int)) ∈ lw_tbl := z_in6 (List.mem_of_getElem? (i := 106) rfl)
theorem w6_104 : (Jvm.Cond.instanceMethod ({ cls := "StandingsHall", name := "challenge", desc := "(IIZ)I" } : Jvm.MethodName)) ∈ lw_tbl := z_in6 (List.mem_of_getElem? (i := 104) rfl)
theorem w6_105 : (Jvm.Cond.selects "StandingsHall" ({ cls := "StandingsHall", name := "challenge", desc := "(IIZ)I" } : Jvm.MethodName) ({ cls := "StandingsHall", name := "challenge", desc := "(IIZ)I" } : Jvm.MethodName)) ∈ lw_tbl := z_in6 (List.mem_of_getElem? (i := 105) rfl)
theorem w2_47 : (Jvm.Cond.fieldLinkNest "StandingsHall" (288 : Nat) "StandingsHall$Ladder" "reach" "I" "StandingsHall") ∈ lw_tbl := z_in2 (List.mem_of_getElem? (i := 47) rfl)
theorem w2_86 : (Jvm.Cond.fieldLinkNest "StandingsHall" (293 : Nat) "StandingsHall$Entrant" "played" "I" "StandingsHall") ∈ lw_tbl := z_in2 (List.mem_of_getElem? (i := 86) rfl)
theorem w6_108 : (Jvm.Cond.methodLinkNest "StandingsHall" (296 : Nat) ({ cls := "StandingsHall$Ladder", name := "raise", desc := "(II)V" } : Jvm.MethodName) "StandingsHall") ∈ lw_tbl := z_in6 (List.mem_of_getElem? (i := 108) rfl)
theorem w6_107 : (Jvm.Cond.stringRef "StandingsHall" (291 : Nat) "this challenge is not allowed") ∈ lw_tbl := z_in6 (List.mem_of_getElem? (i := 107) rfl)
theorem w6_98 : (Jvm.Cond.code ({ cls := "StandingsHall", name := "mayChallenge", desc := "(I)I" } : Jvm.MethodName) prog_1_method_31_code (3 : Nat) (Option.some Jvm.ClassFile.FieldType.int)) ∈ lw_tbl := z_in6 (List.mem_of_getElem? (i := 98) rfl)
theorem w6_96 : (Jvm.Cond.instanceMethod ({ cls := "StandingsHall", name := "mayChallenge", desc := "(I)I" } : Jvm.MethodName)) ∈ lw_tbl := z_in6 (List.mem_of_getElem? (i := 96) rfl)
theorem w6_97 : (Jvm.Cond.selects "StandingsHall" ({ cls := "StandingsHall", name := "mayChallenge", desc := "(I)I" } : Jvm.MethodName) ({ cls := "StandingsHall", name := "mayChallenge", desc := "(I)I" } : Jvm.MethodName)) ∈ lw_tbl := z_in6 (List.mem_of_getElem? (i := 97) rfl)
theorem w6_72 : (Jvm.Cond.code ({ cls := "StandingsHall", name := "setReach", desc := "(I)I" } : Jvm.MethodName) prog_1_method_32_code (3 : Nat) (Option.some Jvm.ClassFile.FieldType.int)) ∈ lw_tbl := z_in6 (List.mem_of_getElem? (i := 72) rfl)
theorem w6_70 : (Jvm.Cond.instanceMethod ({ cls := "StandingsHall", name := "setReach", desc := "(I)I" } : Jvm.MethodName)) ∈ lw_tbl := z_in6 (List.mem_of_getElem? (i := 70) rfl)
theorem w6_71 : (Jvm.Cond.selects "StandingsHall" ({ cls := "StandingsHall", name := "setReach", desc := "(I)I" } : Jvm.MethodName) ({ cls := "StandingsHall", name := "setReach", desc := "(I)I" } : Jvm.MethodName)) ∈ lw_tbl := z_in6 (List.mem_of_getElem? (i := 71) rfl)
theorem w6_73 : (Jvm.Cond.stringRef "StandingsHall" (299 : Nat) "the reach is out of range") ∈ lw_tbl := z_in6 (List.mem_of_getElem? (i := 73) rfl)
theorem w6_77 : (Jvm.Cond.code ({ cls := "StandingsHall", name := "setPatience", desc := "(I)I" } : Jvm.MethodName) prog_1_method_33_code (3 : Nat) (Option.some Jvm.ClassFile.FieldType.int)) ∈ lw_tbl := z_in6 (List.mem_of_getElem? (i := 77) rfl)
theorem w6_75 : (Jvm.Cond.instanceMethod ({ cls := "StandingsHall", name := "setPatience", desc := "(I)I" } : Jvm.MethodName)) ∈ lw_tbl := z_in6 (List.mem_of_getElem? (i := 75) rfl)
theorem w6_76 : (Jvm.Cond.selects "StandingsHall" ({ cls := "StandingsHall", name := "setPatience", desc := "(I)I" } : Jvm.MethodName) ({ cls := "StandingsHall", name := "setPatience", desc := "(I)I" } : Jvm.MethodName)) ∈ lw_tbl := z_in6 (List.mem_of_getElem? (i := 76) rfl)
theorem w2_49 : (Jvm.Cond.fieldLinkNest "StandingsHall" (303 : Nat) "StandingsHall$Ladder" "patience" "I" "StandingsHall") ∈ lw_tbl := z_in2 (List.mem_of_getElem? (i := 49) rfl)
theorem w6_78 : (Jvm.Cond.stringRef "StandingsHall" (301 : Nat) "the patience is out of range") ∈ lw_tbl := z_in6 (List.mem_of_getElem? (i := 78) rfl)
theorem w6_102 : (Jvm.Cond.code ({ cls := "StandingsHall", name := "ladderAt", desc := "(I)I" } : Jvm.MethodName) prog_1_method_34_code (2 : Nat) (Option.some Jvm.ClassFile.FieldType.int)) ∈ lw_tbl := z_in6 (List.mem_of_getElem? (i := 102) rfl)
theorem w6_100 : (Jvm.Cond.instanceMethod ({ cls := "StandingsHall", name := "ladderAt", desc := "(I)I" } : Jvm.MethodName)) ∈ lw_tbl := z_in6 (List.mem_of_getElem? (i := 100) rfl)
theorem w6_101 : (Jvm.Cond.selects "StandingsHall" ({ cls := "StandingsHall", name := "ladderAt", desc := "(I)I" } : Jvm.MethodName) ({ cls := "StandingsHall", name := "ladderAt", desc := "(I)I" } : Jvm.MethodName)) ∈ lw_tbl := z_in6 (List.mem_of_getElem? (i := 101) rfl)
theorem w6_121 : (Jvm.Cond.code ({ cls := "StandingsHall", name := "ladderPlace", desc := "(I)I" } : Jvm.MethodName) prog_1_method_35_code (2 : Nat) (Option.some Jvm.ClassFile.FieldType.int)) ∈ lw_tbl := z_in6 (List.mem_of_getElem? (i := 121) rfl)
theorem w6_119 : (Jvm.Cond.instanceMethod ({ cls := "StandingsHall", name := "ladderPlace", desc := "(I)I" } : Jvm.MethodName)) ∈ lw_tbl := z_in6 (List.mem_of_getElem? (i := 119) rfl)
theorem w6_120 : (Jvm.Cond.selects "StandingsHall" ({ cls := "StandingsHall", name := "ladderPlace", desc := "(I)I" } : Jvm.MethodName) ({ cls := "StandingsHall", name := "ladderPlace", desc := "(I)I" } : Jvm.MethodName)) ∈ lw_tbl := z_in6 (List.mem_of_getElem? (i := 120) rfl)
theorem w6_133 : (Jvm.Cond.code ({ cls := "StandingsHall", name := "endRound", desc := "()I" } : Jvm.MethodName) prog_1_method_36_code (2 : Nat) (Option.some Jvm.ClassFile.FieldType.int)) ∈ lw_tbl := z_in6 (List.mem_of_getElem? (i := 133) rfl)
theorem w6_131 : (Jvm.Cond.instanceMethod ({ cls := "StandingsHall", name := "endRound", desc := "()I" } : Jvm.MethodName)) ∈ lw_tbl := z_in6 (List.mem_of_getElem? (i := 131) rfl)
theorem w6_132 : (Jvm.Cond.selects "StandingsHall" ({ cls := "StandingsHall", name := "endRound", desc := "()I" } : Jvm.MethodName) ({ cls := "StandingsHall", name := "endRound", desc := "()I" } : Jvm.MethodName)) ∈ lw_tbl := z_in6 (List.mem_of_getElem? (i := 132) rfl)
theorem w6_135 : (Jvm.Cond.methodLinkNest "StandingsHall" (308 : Nat) ({ cls := "StandingsHall$Ladder", name := "letFall", desc := "(I)V" } : Jvm.MethodName) "StandingsHall") ∈ lw_tbl := z_in6 (List.mem_of_getElem? (i := 135) rfl)
theorem w6_143 : (Jvm.Cond.methodLinkNest "StandingsHall" (311 : Nat) ({ cls := "StandingsHall$Entrant", name := "keepRound", desc := "(I)V" } : Jvm.MethodName) "StandingsHall") ∈ lw_tbl := z_in6 (List.mem_of_getElem? (i := 143) rfl)
theorem w6_134 : (Jvm.Cond.stringRef "StandingsHall" (306 : Nat) "all rounds are over") ∈ lw_tbl := z_in6 (List.mem_of_getElem? (i := 134) rfl)
theorem w6_153 : (Jvm.Cond.code ({ cls := "StandingsHall", name := "round", desc := "()I" } : Jvm.MethodName) prog_1_method_37_code (1 : Nat) (Option.some Jvm.ClassFile.FieldType.int)) ∈ lw_tbl := z_in6 (List.mem_of_getElem? (i := 153) rfl)
theorem w6_151 : (Jvm.Cond.instanceMethod ({ cls := "StandingsHall", name := "round", desc := "()I" } : Jvm.MethodName)) ∈ lw_tbl := z_in6 (List.mem_of_getElem? (i := 151) rfl)
theorem w6_152 : (Jvm.Cond.selects "StandingsHall" ({ cls := "StandingsHall", name := "round", desc := "()I" } : Jvm.MethodName) ({ cls := "StandingsHall", name := "round", desc := "()I" } : Jvm.MethodName)) ∈ lw_tbl := z_in6 (List.mem_of_getElem? (i := 152) rfl)
theorem w6_129 : (Jvm.Cond.code ({ cls := "StandingsHall", name := "gain", desc := "(I)I" } : Jvm.MethodName) prog_1_method_38_code (2 : Nat) (Option.some Jvm.ClassFile.FieldType.int)) ∈ lw_tbl := z_in6 (List.mem_of_getElem? (i := 129) rfl)
theorem w6_127 : (Jvm.Cond.instanceMethod ({ cls := "StandingsHall", name := "gain", desc := "(I)I" } : Jvm.MethodName)) ∈ lw_tbl := z_in6 (List.mem_of_getElem? (i := 127) rfl)
theorem w6_128 : (Jvm.Cond.selects "StandingsHall" ({ cls := "StandingsHall", name := "gain", desc := "(I)I" } : Jvm.MethodName) ({ cls := "StandingsHall", name := "gain", desc := "(I)I" } : Jvm.MethodName)) ∈ lw_tbl := z_in6 (List.mem_of_getElem? (i := 128) rfl)
theorem w2_79 : (Jvm.Cond.fieldLinkNest "StandingsHall" (314 : Nat) "StandingsHall$Entrant" "gained" "I" "StandingsHall") ∈ lw_tbl := z_in2 (List.mem_of_getElem? (i := 79) rfl)
theorem w6_161 : (Jvm.Cond.code ({ cls := "StandingsHall", name := "form", desc := "(III)I" } : Jvm.MethodName) prog_1_method_39_code (5 : Nat) (Option.some Jvm.ClassFile.FieldType.int)) ∈ lw_tbl := z_in6 (List.mem_of_getElem? (i := 161) rfl)
theorem w6_159 : (Jvm.Cond.instanceMethod ({ cls := "StandingsHall", name := "form", desc := "(III)I" } : Jvm.MethodName)) ∈ lw_tbl := z_in6 (List.mem_of_getElem? (i := 159) rfl)
theorem w6_160 : (Jvm.Cond.selects "StandingsHall" ({ cls := "StandingsHall", name := "form", desc := "(III)I" } : Jvm.MethodName) ({ cls := "StandingsHall", name := "form", desc := "(III)I" } : Jvm.MethodName)) ∈ lw_tbl := z_in6 (List.mem_of_getElem? (i := 160) rfl)
theorem w6_165 : (Jvm.Cond.code ({ cls := "StandingsHall", name := "checkForm", desc := "(II)V" } : Jvm.MethodName) prog_1_method_57_code (3 : Nat) (Option.none : Option Jvm.ClassFile.FieldType)) ∈ lw_tbl := z_in6 (List.mem_of_getElem? (i := 165) rfl)
theorem w6_164 : (Jvm.Cond.instanceMethod ({ cls := "StandingsHall", name := "checkForm", desc := "(II)V" } : Jvm.MethodName)) ∈ lw_tbl := z_in6 (List.mem_of_getElem? (i := 164) rfl)
theorem wS87 : (Cond.selects "StandingsHall" ⟨"StandingsHall", "checkForm", "(II)V"⟩ ⟨"StandingsHall", "checkForm", "(II)V"⟩ : Cond) ∈ lw_tbl := z_inS (List.mem_of_getElem? (i := 87) rfl)
theorem w6_162 : (Jvm.Cond.methodLink "StandingsHall" (317 : Nat) ({ cls := "StandingsHall", name := "checkForm", desc := "(II)V" } : Jvm.MethodName)) ∈ lw_tbl := z_in6 (List.mem_of_getElem? (i := 162) rfl)
theorem w6_170 : (Jvm.Cond.code ({ cls := "StandingsHall", name := "formBy", desc := "(LStandingsHall$Entrant;II)I" } : Jvm.MethodName) prog_1_method_67_code (9 : Nat) (Option.some Jvm.ClassFile.FieldType.int)) ∈ lw_tbl := z_in6 (List.mem_of_getElem? (i := 170) rfl)
theorem w6_169 : (Jvm.Cond.instanceMethod ({ cls := "StandingsHall", name := "formBy", desc := "(LStandingsHall$Entrant;II)I" } : Jvm.MethodName)) ∈ lw_tbl := z_in6 (List.mem_of_getElem? (i := 169) rfl)
theorem wS88 : (Cond.selects "StandingsHall" ⟨"StandingsHall", "formBy", "(LStandingsHall$Entrant;II)I"⟩ ⟨"StandingsHall", "formBy", "(LStandingsHall$Entrant;II)I"⟩ : Cond) ∈ lw_tbl := z_inS (List.mem_of_getElem? (i := 88) rfl)
theorem w6_167 : (Jvm.Cond.methodLink "StandingsHall" (320 : Nat) ({ cls := "StandingsHall", name := "formBy", desc := "(LStandingsHall$Entrant;II)I" } : Jvm.MethodName)) ∈ lw_tbl := z_in6 (List.mem_of_getElem? (i := 167) rfl)
theorem w6_182 : (Jvm.Cond.code ({ cls := "StandingsHall", name := "inForm", desc := "(II)I" } : Jvm.MethodName) prog_1_method_40_code (8 : Nat) (Option.some Jvm.ClassFile.FieldType.int)) ∈ lw_tbl := z_in6 (List.mem_of_getElem? (i := 182) rfl)
theorem w6_180 : (Jvm.Cond.instanceMethod ({ cls := "StandingsHall", name := "inForm", desc := "(II)I" } : Jvm.MethodName)) ∈ lw_tbl := z_in6 (List.mem_of_getElem? (i := 180) rfl)
theorem w6_181 : (Jvm.Cond.selects "StandingsHall" ({ cls := "StandingsHall", name := "inForm", desc := "(II)I" } : Jvm.MethodName) ({ cls := "StandingsHall", name := "inForm", desc := "(II)I" } : Jvm.MethodName)) ∈ lw_tbl := z_in6 (List.mem_of_getElem? (i := 181) rfl)
theorem w6_216 : (Jvm.Cond.code ({ cls := "StandingsHall", name := "placeThen", desc := "(II)I" } : Jvm.MethodName) prog_1_method_41_code (3 : Nat) (Option.some Jvm.ClassFile.FieldType.int)) ∈ lw_tbl := z_in6 (List.mem_of_getElem? (i := 216) rfl)
theorem w6_214 : (Jvm.Cond.instanceMethod ({ cls := "StandingsHall", name := "placeThen", desc := "(II)I" } : Jvm.MethodName)) ∈ lw_tbl := z_in6 (List.mem_of_getElem? (i := 214) rfl)
theorem w6_215 : (Jvm.Cond.selects "StandingsHall" ({ cls := "StandingsHall", name := "placeThen", desc := "(II)I" } : Jvm.MethodName) ({ cls := "StandingsHall", name := "placeThen", desc := "(II)I" } : Jvm.MethodName)) ∈ lw_tbl := z_in6 (List.mem_of_getElem? (i := 215) rfl)
theorem w6_198 : (Jvm.Cond.code ({ cls := "StandingsHall", name := "checkKept", desc := "(I)V" } : Jvm.MethodName) prog_1_method_58_code (2 : Nat) (Option.none : Option Jvm.ClassFile.FieldType)) ∈ lw_tbl := z_in6 (List.mem_of_getElem? (i := 198) rfl)
theorem w6_197 : (Jvm.Cond.instanceMethod ({ cls := "StandingsHall", name := "checkKept", desc := "(I)V" } : Jvm.MethodName)) ∈ lw_tbl := z_in6 (List.mem_of_getElem? (i := 197) rfl)
theorem wS93 : (Cond.selects "StandingsHall" ⟨"StandingsHall", "checkKept", "(I)V"⟩ ⟨"StandingsHall", "checkKept", "(I)V"⟩ : Cond) ∈ lw_tbl := z_inS (List.mem_of_getElem? (i := 93) rfl)
theorem w6_195 : (Jvm.Cond.methodLink "StandingsHall" (323 : Nat) ({ cls := "StandingsHall", name := "checkKept", desc := "(I)V" } : Jvm.MethodName)) ∈ lw_tbl := z_in6 (List.mem_of_getElem? (i := 195) rfl)
theorem w6_209 : (Jvm.Cond.methodLinkNest "StandingsHall" (328 : Nat) ({ cls := "StandingsHall$Entrant", name := "placeIn", desc := "(I)I" } : Jvm.MethodName) "StandingsHall") ∈ lw_tbl := z_in6 (List.mem_of_getElem? (i := 209) rfl)
theorem w6_217 : (Jvm.Cond.stringRef "StandingsHall" (326 : Nat) "there is no such entrant") ∈ lw_tbl := z_in6 (List.mem_of_getElem? (i := 217) rfl)
theorem w6_233 : (Jvm.Cond.code ({ cls := "StandingsHall", name := "climb", desc := "(I)I" } : Jvm.MethodName) prog_1_method_42_code (7 : Nat) (Option.some Jvm.ClassFile.FieldType.int)) ∈ lw_tbl := z_in6 (List.mem_of_getElem? (i := 233) rfl)
theorem w6_231 : (Jvm.Cond.instanceMethod ({ cls := "StandingsHall", name := "climb", desc := "(I)I" } : Jvm.MethodName)) ∈ lw_tbl := z_in6 (List.mem_of_getElem? (i := 231) rfl)
theorem w6_232 : (Jvm.Cond.selects "StandingsHall" ({ cls := "StandingsHall", name := "climb", desc := "(I)I" } : Jvm.MethodName) ({ cls := "StandingsHall", name := "climb", desc := "(I)I" } : Jvm.MethodName)) ∈ lw_tbl := z_in6 (List.mem_of_getElem? (i := 232) rfl)
theorem w7_26 : (Jvm.Cond.code ({ cls := "StandingsHall", name := "best", desc := "(I)I" } : Jvm.MethodName) prog_1_method_43_code (3 : Nat) (Option.some Jvm.ClassFile.FieldType.int)) ∈ lw_tbl := z_in7 (List.mem_of_getElem? (i := 26) rfl)
theorem w7_24 : (Jvm.Cond.instanceMethod ({ cls := "StandingsHall", name := "best", desc := "(I)I" } : Jvm.MethodName)) ∈ lw_tbl := z_in7 (List.mem_of_getElem? (i := 24) rfl)
theorem w7_25 : (Jvm.Cond.selects "StandingsHall" ({ cls := "StandingsHall", name := "best", desc := "(I)I" } : Jvm.MethodName) ({ cls := "StandingsHall", name := "best", desc := "(I)I" } : Jvm.MethodName)) ∈ lw_tbl := z_in7 (List.mem_of_getElem? (i := 25) rfl)
theorem w7_15 : (Jvm.Cond.methodLinkNest "StandingsHall" (330 : Nat) ({ cls := "StandingsHall$Standing", name := "firstPlaceOf", desc := "(I)I" } : Jvm.MethodName) "StandingsHall") ∈ lw_tbl := z_in7 (List.mem_of_getElem? (i := 15) rfl)
theorem w7_30 : (Jvm.Cond.code ({ cls := "StandingsHall", name := "members", desc := "(I)I" } : Jvm.MethodName) prog_1_method_44_code (2 : Nat) (Option.some Jvm.ClassFile.FieldType.int)) ∈ lw_tbl := z_in7 (List.mem_of_getElem? (i := 30) rfl)
theorem w7_28 : (Jvm.Cond.instanceMethod ({ cls := "StandingsHall", name := "members", desc := "(I)I" } : Jvm.MethodName)) ∈ lw_tbl := z_in7 (List.mem_of_getElem? (i := 28) rfl)
theorem w7_29 : (Jvm.Cond.selects "StandingsHall" ({ cls := "StandingsHall", name := "members", desc := "(I)I" } : Jvm.MethodName) ({ cls := "StandingsHall", name := "members", desc := "(I)I" } : Jvm.MethodName)) ∈ lw_tbl := z_in7 (List.mem_of_getElem? (i := 29) rfl)
theorem w7_31 : (Jvm.Cond.methodLinkNest "StandingsHall" (333 : Nat) ({ cls := "StandingsHall$Standing", name := "countOf", desc := "(I)I" } : Jvm.MethodName) "StandingsHall") ∈ lw_tbl := z_in7 (List.mem_of_getElem? (i := 31) rfl)
theorem w7_22 : (Jvm.Cond.code ({ cls := "StandingsHall", name := "teamScore", desc := "(I)I" } : Jvm.MethodName) prog_1_method_45_code (2 : Nat) (Option.some Jvm.ClassFile.FieldType.int)) ∈ lw_tbl := z_in7 (List.mem_of_getElem? (i := 22) rfl)
theorem w7_20 : (Jvm.Cond.instanceMethod ({ cls := "StandingsHall", name := "teamScore", desc := "(I)I" } : Jvm.MethodName)) ∈ lw_tbl := z_in7 (List.mem_of_getElem? (i := 20) rfl)
theorem w7_21 : (Jvm.Cond.selects "StandingsHall" ({ cls := "StandingsHall", name := "teamScore", desc := "(I)I" } : Jvm.MethodName) ({ cls := "StandingsHall", name := "teamScore", desc := "(I)I" } : Jvm.MethodName)) ∈ lw_tbl := z_in7 (List.mem_of_getElem? (i := 21) rfl)
theorem w7_7 : (Jvm.Cond.methodLinkNest "StandingsHall" (336 : Nat) ({ cls := "StandingsHall$Standing", name := "teamSum", desc := "(I)I" } : Jvm.MethodName) "StandingsHall") ∈ lw_tbl := z_in7 (List.mem_of_getElem? (i := 7) rfl)
theorem w7_2 : (Jvm.Cond.code ({ cls := "StandingsHall", name := "groupAt", desc := "(I)I" } : Jvm.MethodName) prog_1_method_46_code (3 : Nat) (Option.some Jvm.ClassFile.FieldType.int)) ∈ lw_tbl := z_in7 (List.mem_of_getElem? (i := 2) rfl)
theorem w7_0 : (Jvm.Cond.instanceMethod ({ cls := "StandingsHall", name := "groupAt", desc := "(I)I" } : Jvm.MethodName)) ∈ lw_tbl := z_in7 (List.mem_of_getElem? (i := 0) rfl)
theorem w7_1 : (Jvm.Cond.selects "StandingsHall" ({ cls := "StandingsHall", name := "groupAt", desc := "(I)I" } : Jvm.MethodName) ({ cls := "StandingsHall", name := "groupAt", desc := "(I)I" } : Jvm.MethodName)) ∈ lw_tbl := z_in7 (List.mem_of_getElem? (i := 1) rfl)
theorem w7_6 : (Jvm.Cond.code ({ cls := "StandingsHall", name := "groupRankedAt", desc := "(I)I" } : Jvm.MethodName) prog_1_method_68_code (3 : Nat) (Option.some Jvm.ClassFile.FieldType.int)) ∈ lw_tbl := z_in7 (List.mem_of_getElem? (i := 6) rfl)
theorem w7_5 : (Jvm.Cond.instanceMethod ({ cls := "StandingsHall", name := "groupRankedAt", desc := "(I)I" } : Jvm.MethodName)) ∈ lw_tbl := z_in7 (List.mem_of_getElem? (i := 5) rfl)
theorem wS100 : (Cond.selects "StandingsHall" ⟨"StandingsHall", "groupRankedAt", "(I)I"⟩ ⟨"StandingsHall", "groupRankedAt", "(I)I"⟩ : Cond) ∈ lw_tbl := z_inS (List.mem_of_getElem? (i := 100) rfl)
theorem w7_3 : (Jvm.Cond.methodLink "StandingsHall" (339 : Nat) ({ cls := "StandingsHall", name := "groupRankedAt", desc := "(I)I" } : Jvm.MethodName)) ∈ lw_tbl := z_in7 (List.mem_of_getElem? (i := 3) rfl)
theorem w6_190 : (Jvm.Cond.code ({ cls := "StandingsHall", name := "inversions", desc := "(II)I" } : Jvm.MethodName) prog_1_method_47_code (7 : Nat) (Option.some Jvm.ClassFile.FieldType.int)) ∈ lw_tbl := z_in6 (List.mem_of_getElem? (i := 190) rfl)
theorem w6_188 : (Jvm.Cond.instanceMethod ({ cls := "StandingsHall", name := "inversions", desc := "(II)I" } : Jvm.MethodName)) ∈ lw_tbl := z_in6 (List.mem_of_getElem? (i := 188) rfl)
theorem w6_189 : (Jvm.Cond.selects "StandingsHall" ({ cls := "StandingsHall", name := "inversions", desc := "(II)I" } : Jvm.MethodName) ({ cls := "StandingsHall", name := "inversions", desc := "(II)I" } : Jvm.MethodName)) ∈ lw_tbl := z_in6 (List.mem_of_getElem? (i := 189) rfl)
theorem w6_194 : (Jvm.Cond.code ({ cls := "StandingsHall", name := "checkTold", desc := "(I)V" } : Jvm.MethodName) prog_1_method_59_code (2 : Nat) (Option.none : Option Jvm.ClassFile.FieldType)) ∈ lw_tbl := z_in6 (List.mem_of_getElem? (i := 194) rfl)
theorem w6_193 : (Jvm.Cond.instanceMethod ({ cls := "StandingsHall", name := "checkTold", desc := "(I)V" } : Jvm.MethodName)) ∈ lw_tbl := z_in6 (List.mem_of_getElem? (i := 193) rfl)
theorem wS92 : (Cond.selects "StandingsHall" ⟨"StandingsHall", "checkTold", "(I)V"⟩ ⟨"StandingsHall", "checkTold", "(I)V"⟩ : Cond) ∈ lw_tbl := z_inS (List.mem_of_getElem? (i := 92) rfl)
theorem w6_191 : (Jvm.Cond.methodLink "StandingsHall" (342 : Nat) ({ cls := "StandingsHall", name := "checkTold", desc := "(I)V" } : Jvm.MethodName)) ∈ lw_tbl := z_in6 (List.mem_of_getElem? (i := 191) rfl)
theorem w6_203 : (Jvm.Cond.code ({ cls := "StandingsHall", name := "lineUp", desc := "(II)I" } : Jvm.MethodName) prog_1_method_70_code (7 : Nat) (Option.some Jvm.ClassFile.FieldType.int)) ∈ lw_tbl := z_in6 (List.mem_of_getElem? (i := 203) rfl)
theorem w6_202 : (Jvm.Cond.instanceMethod ({ cls := "StandingsHall", name := "lineUp", desc := "(II)I" } : Jvm.MethodName)) ∈ lw_tbl := z_in6 (List.mem_of_getElem? (i := 202) rfl)
theorem wS94 : (Cond.selects "StandingsHall" ⟨"StandingsHall", "lineUp", "(II)I"⟩ ⟨"StandingsHall", "lineUp", "(II)I"⟩ : Cond) ∈ lw_tbl := z_inS (List.mem_of_getElem? (i := 94) rfl)
theorem w6_200 : (Jvm.Cond.methodLink "StandingsHall" (345 : Nat) ({ cls := "StandingsHall", name := "lineUp", desc := "(II)I" } : Jvm.MethodName)) ∈ lw_tbl := z_in6 (List.mem_of_getElem? (i := 200) rfl)
theorem w6_225 : (Jvm.Cond.code ({ cls := "StandingsHall", name := "swaps", desc := "(II)I" } : Jvm.MethodName) prog_1_method_48_code (6 : Nat) (Option.some Jvm.ClassFile.FieldType.int)) ∈ lw_tbl := z_in6 (List.mem_of_getElem? (i := 225) rfl)
theorem w6_223 : (Jvm.Cond.instanceMethod ({ cls := "StandingsHall", name := "swaps", desc := "(II)I" } : Jvm.MethodName)) ∈ lw_tbl := z_in6 (List.mem_of_getElem? (i := 223) rfl)
theorem w6_224 : (Jvm.Cond.selects "StandingsHall" ({ cls := "StandingsHall", name := "swaps", desc := "(II)I" } : Jvm.MethodName) ({ cls := "StandingsHall", name := "swaps", desc := "(II)I" } : Jvm.MethodName)) ∈ lw_tbl := z_in6 (List.mem_of_getElem? (i := 224) rfl)
theorem w6_229 : (Jvm.Cond.code ({ cls := "StandingsHall", name := "swapNeighbours", desc := "(I)I" } : Jvm.MethodName) prog_1_method_72_code (5 : Nat) (Option.some Jvm.ClassFile.FieldType.int)) ∈ lw_tbl := z_in6 (List.mem_of_getElem? (i := 229) rfl)
theorem w6_228 : (Jvm.Cond.instanceMethod ({ cls := "StandingsHall", name := "swapNeighbours", desc := "(I)I" } : Jvm.MethodName)) ∈ lw_tbl := z_in6 (List.mem_of_getElem? (i := 228) rfl)
theorem wS98 : (Cond.selects "StandingsHall" ⟨"StandingsHall", "swapNeighbours", "(I)I"⟩ ⟨"StandingsHall", "swapNeighbours", "(I)I"⟩ : Cond) ∈ lw_tbl := z_inS (List.mem_of_getElem? (i := 98) rfl)
theorem w6_226 : (Jvm.Cond.methodLink "StandingsHall" (348 : Nat) ({ cls := "StandingsHall", name := "swapNeighbours", desc := "(I)I" } : Jvm.MethodName)) ∈ lw_tbl := z_in6 (List.mem_of_getElem? (i := 226) rfl)
theorem w6_12 : (Jvm.Cond.code ({ cls := "StandingsHall", name := "meanPoints", desc := "()D" } : Jvm.MethodName) prog_1_method_49_code (4 : Nat) (Option.some Jvm.ClassFile.FieldType.double)) ∈ lw_tbl := z_in6 (List.mem_of_getElem? (i := 12) rfl)
theorem w6_10 : (Jvm.Cond.instanceMethod ({ cls := "StandingsHall", name := "meanPoints", desc := "()D" } : Jvm.MethodName)) ∈ lw_tbl := z_in6 (List.mem_of_getElem? (i := 10) rfl)
theorem w6_11 : (Jvm.Cond.selects "StandingsHall" ({ cls := "StandingsHall", name := "meanPoints", desc := "()D" } : Jvm.MethodName) ({ cls := "StandingsHall", name := "meanPoints", desc := "()D" } : Jvm.MethodName)) ∈ lw_tbl := z_in6 (List.mem_of_getElem? (i := 11) rfl)
theorem w1_35 : (Jvm.Cond.code ({ cls := "StandingsHall", name := "errors", desc := "()I" } : Jvm.MethodName) prog_1_method_51_code (1 : Nat) (Option.some Jvm.ClassFile.FieldType.int)) ∈ lw_tbl := z_in1 (List.mem_of_getElem? (i := 35) rfl)
theorem w1_33 : (Jvm.Cond.instanceMethod ({ cls := "StandingsHall", name := "errors", desc := "()I" } : Jvm.MethodName)) ∈ lw_tbl := z_in1 (List.mem_of_getElem? (i := 33) rfl)
theorem w1_34 : (Jvm.Cond.selects "StandingsHall" ({ cls := "StandingsHall", name := "errors", desc := "()I" } : Jvm.MethodName) ({ cls := "StandingsHall", name := "errors", desc := "()I" } : Jvm.MethodName)) ∈ lw_tbl := z_in1 (List.mem_of_getElem? (i := 34) rfl)
theorem w1_40 : (Jvm.Cond.code ({ cls := "StandingsHall", name := "wrongPlaces", desc := "()I" } : Jvm.MethodName) prog_1_method_73_code (4 : Nat) (Option.some Jvm.ClassFile.FieldType.int)) ∈ lw_tbl := z_in1 (List.mem_of_getElem? (i := 40) rfl)
theorem w1_38 : (Jvm.Cond.instanceMethod ({ cls := "StandingsHall", name := "wrongPlaces", desc := "()I" } : Jvm.MethodName)) ∈ lw_tbl := z_in1 (List.mem_of_getElem? (i := 38) rfl)
theorem wS0 : (Cond.selects "StandingsHall" ⟨"StandingsHall", "wrongPlaces", "()I"⟩ ⟨"StandingsHall", "wrongPlaces", "()I"⟩ : Cond) ∈ lw_tbl := z_inS (List.mem_of_getElem? (i := 0) rfl)
theorem w1_36 : (Jvm.Cond.methodLink "StandingsHall" (354 : Nat) ({ cls := "StandingsHall", name := "wrongPlaces", desc := "()I" } : Jvm.MethodName)) ∈ lw_tbl := z_in1 (List.mem_of_getElem? (i := 36) rfl)
theorem w1_110 : (Jvm.Cond.code ({ cls := "StandingsHall", name := "wrongPoints", desc := "()I" } : Jvm.MethodName) prog_1_method_74_code (4 : Nat) (Option.some Jvm.ClassFile.FieldType.int)) ∈ lw_tbl := z_in1 (List.mem_of_getElem? (i := 110) rfl)
theorem w1_109 : (Jvm.Cond.instanceMethod ({ cls := "StandingsHall", name := "wrongPoints", desc := "()I" } : Jvm.MethodName)) ∈ lw_tbl := z_in1 (List.mem_of_getElem? (i := 109) rfl)
theorem wS11 : (Cond.selects "StandingsHall" ⟨"StandingsHall", "wrongPoints", "()I"⟩ ⟨"StandingsHall", "wrongPoints", "()I"⟩ : Cond) ∈ lw_tbl := z_inS (List.mem_of_getElem? (i := 11) rfl)
theorem w1_107 : (Jvm.Cond.methodLink "StandingsHall" (357 : Nat) ({ cls := "StandingsHall", name := "wrongPoints", desc := "()I" } : Jvm.MethodName)) ∈ lw_tbl := z_in1 (List.mem_of_getElem? (i := 107) rfl)
theorem w1_135 : (Jvm.Cond.code ({ cls := "StandingsHall", name := "wrongMedian", desc := "(Z)I" } : Jvm.MethodName) prog_1_method_77_code (4 : Nat) (Option.some Jvm.ClassFile.FieldType.int)) ∈ lw_tbl := z_in1 (List.mem_of_getElem? (i := 135) rfl)
theorem w1_134 : (Jvm.Cond.instanceMethod ({ cls := "StandingsHall", name := "wrongMedian", desc := "(Z)I" } : Jvm.MethodName)) ∈ lw_tbl := z_in1 (List.mem_of_getElem? (i := 134) rfl)
theorem wS16 : (Cond.selects "StandingsHall" ⟨"StandingsHall", "wrongMedian", "(Z)I"⟩ ⟨"StandingsHall", "wrongMedian", "(Z)I"⟩ : Cond) ∈ lw_tbl := z_inS (List.mem_of_getElem? (i := 16) rfl)
theorem w1_132 : (Jvm.Cond.methodLink "StandingsHall" (360 : Nat) ({ cls := "StandingsHall", name := "wrongMedian", desc := "(Z)I" } : Jvm.MethodName)) ∈ lw_tbl := z_in1 (List.mem_of_getElem? (i := 132) rfl)
theorem w5_79 : (Jvm.Cond.stringRef "StandingsHall" (363 : Nat) "this entrant is not there") ∈ lw_tbl := z_in5 (List.mem_of_getElem? (i := 79) rfl)
theorem w5_231 : (Jvm.Cond.stringRef "StandingsHall" (365 : Nat) "there is no such group") ∈ lw_tbl := z_in5 (List.mem_of_getElem? (i := 231) rfl)
theorem w5_133 : (Jvm.Cond.stringRef "StandingsHall" (367 : Nat) "there is no such kind") ∈ lw_tbl := z_in5 (List.mem_of_getElem? (i := 133) rfl)
theorem w5_138 : (Jvm.Cond.constantLong "StandingsHall" (369 : Nat) (-100000 : Int64)) ∈ lw_tbl := z_in5 (List.mem_of_getElem? (i := 138) rfl)
theorem w5_139 : (Jvm.Cond.constantLong "StandingsHall" (371 : Nat) (100000 : Int64)) ∈ lw_tbl := z_in5 (List.mem_of_getElem? (i := 139) rfl)
theorem w5_140 : (Jvm.Cond.stringRef "StandingsHall" (373 : Nat) "the score is out of range") ∈ lw_tbl := z_in5 (List.mem_of_getElem? (i := 140) rfl)
theorem w1_136 : (Jvm.Cond.methodLink "StandingsHall" (375 : Nat) ({ cls := "java/util/ArrayList", name := "isEmpty", desc := "()Z" } : Jvm.MethodName)) ∈ lw_tbl := z_in1 (List.mem_of_getElem? (i := 136) rfl)
theorem w6_30 : (Jvm.Cond.stringRef "StandingsHall" (379 : Nat) "nobody is there") ∈ lw_tbl := z_in6 (List.mem_of_getElem? (i := 30) rfl)
theorem w6_166 : (Jvm.Cond.stringRef "StandingsHall" (381 : Nat) "k or n is out of range") ∈ lw_tbl := z_in6 (List.mem_of_getElem? (i := 166) rfl)
theorem w6_199 : (Jvm.Cond.stringRef "StandingsHall" (383 : Nat) "no standing of this round is kept") ∈ lw_tbl := z_in6 (List.mem_of_getElem? (i := 199) rfl)
theorem w1_73 : (Jvm.Cond.methodLinkNest "StandingsHall" (385 : Nat) ({ cls := "StandingsHall$Entrant", name := "putScore", desc := "(II)V" } : Jvm.MethodName) "StandingsHall") ∈ lw_tbl := z_in1 (List.mem_of_getElem? (i := 73) rfl)
theorem w4_172 : (Jvm.Cond.methodLink "StandingsHall" (388 : Nat) ({ cls := "java/util/ArrayList", name := "clear", desc := "()V" } : Jvm.MethodName)) ∈ lw_tbl := z_in4 (List.mem_of_getElem? (i := 172) rfl)
theorem w6_171 : (Jvm.Cond.methodLinkNest "StandingsHall" (391 : Nat) ({ cls := "StandingsHall$Entrant", name := "gainIn", desc := "(I)I" } : Jvm.MethodName) "StandingsHall") ∈ lw_tbl := z_in6 (List.mem_of_getElem? (i := 171) rfl)
theorem w7_14 : (Jvm.Cond.code ({ cls := "StandingsHall", name := "countGroupsAhead", desc := "(I)I" } : Jvm.MethodName) prog_1_method_69_code (7 : Nat) (Option.some Jvm.ClassFile.FieldType.int)) ∈ lw_tbl := z_in7 (List.mem_of_getElem? (i := 14) rfl)
theorem w7_13 : (Jvm.Cond.instanceMethod ({ cls := "StandingsHall", name := "countGroupsAhead", desc := "(I)I" } : Jvm.MethodName)) ∈ lw_tbl := z_in7 (List.mem_of_getElem? (i := 13) rfl)
theorem wS102 : (Cond.selects "StandingsHall" ⟨"StandingsHall", "countGroupsAhead", "(I)I"⟩ ⟨"StandingsHall", "countGroupsAhead", "(I)I"⟩ : Cond) ∈ lw_tbl := z_inS (List.mem_of_getElem? (i := 102) rfl)
theorem w7_11 : (Jvm.Cond.methodLink "StandingsHall" (394 : Nat) ({ cls := "StandingsHall", name := "countGroupsAhead", desc := "(I)I" } : Jvm.MethodName)) ∈ lw_tbl := z_in7 (List.mem_of_getElem? (i := 11) rfl)
theorem w6_204 : (Jvm.Cond.methodLink "StandingsHall" (397 : Nat) ({ cls := "java/util/Arrays", name := "fill", desc := "([II)V" } : Jvm.MethodName)) ∈ lw_tbl := z_in6 (List.mem_of_getElem? (i := 204) rfl)
theorem w6_208 : (Jvm.Cond.code ({ cls := "StandingsHall", name := "placeAt", desc := "(LStandingsHall$Entrant;I)I" } : Jvm.MethodName) prog_1_method_71_code (3 : Nat) (Option.some Jvm.ClassFile.FieldType.int)) ∈ lw_tbl := z_in6 (List.mem_of_getElem? (i := 208) rfl)
theorem w6_207 : (Jvm.Cond.instanceMethod ({ cls := "StandingsHall", name := "placeAt", desc := "(LStandingsHall$Entrant;I)I" } : Jvm.MethodName)) ∈ lw_tbl := z_in6 (List.mem_of_getElem? (i := 207) rfl)
theorem wS95 : (Cond.selects "StandingsHall" ⟨"StandingsHall", "placeAt", "(LStandingsHall$Entrant;I)I"⟩ ⟨"StandingsHall", "placeAt", "(LStandingsHall$Entrant;I)I"⟩ : Cond) ∈ lw_tbl := z_inS (List.mem_of_getElem? (i := 95) rfl)
theorem w6_205 : (Jvm.Cond.methodLink "StandingsHall" (403 : Nat) ({ cls := "StandingsHall", name := "placeAt", desc := "(LStandingsHall$Entrant;I)I" } : Jvm.MethodName)) ∈ lw_tbl := z_in6 (List.mem_of_getElem? (i := 205) rfl)
theorem w1_114 : (Jvm.Cond.code ({ cls := "StandingsHall", name := "isFirstWithItsPoints", desc := "(LStandingsHall$Entrant;)Z" } : Jvm.MethodName) prog_1_method_75_code (3 : Nat) (Option.some Jvm.ClassFile.FieldType.boolean)) ∈ lw_tbl := z_in1 (List.mem_of_getElem? (i := 114) rfl)
theorem w1_113 : (Jvm.Cond.instanceMethod ({ cls := "StandingsHall", name := "isFirstWithItsPoints", desc := "(LStandingsHall$Entrant;)Z" } : Jvm.MethodName)) ∈ lw_tbl := z_in1 (List.mem_of_getElem? (i := 113) rfl)
theorem wS12 : (Cond.selects "StandingsHall" ⟨"StandingsHall", "isFirstWithItsPoints", "(LStandingsHall$Entrant;)Z"⟩ ⟨"StandingsHall", "isFirstWithItsPoints", "(LStandingsHall$Entrant;)Z"⟩ : Cond) ∈ lw_tbl := z_inS (List.mem_of_getElem? (i := 12) rfl)
theorem w1_111 : (Jvm.Cond.methodLink "StandingsHall" (406 : Nat) ({ cls := "StandingsHall", name := "isFirstWithItsPoints", desc := "(LStandingsHall$Entrant;)Z" } : Jvm.MethodName)) ∈ lw_tbl := z_in1 (List.mem_of_getElem? (i := 111) rfl)
theorem w1_118 : (Jvm.Cond.code ({ cls := "StandingsHall", name := "countPresentUpTo", desc := "(I)I" } : Jvm.MethodName) prog_1_method_76_code (4 : Nat) (Option.some Jvm.ClassFile.FieldType.int)) ∈ lw_tbl := z_in1 (List.mem_of_getElem? (i := 118) rfl)
theorem w1_117 : (Jvm.Cond.instanceMethod ({ cls := "StandingsHall", name := "countPresentUpTo", desc := "(I)I" } : Jvm.MethodName)) ∈ lw_tbl := z_in1 (List.mem_of_getElem? (i := 117) rfl)
theorem wS13 : (Cond.selects "StandingsHall" ⟨"StandingsHall", "countPresentUpTo", "(I)I"⟩ ⟨"StandingsHall", "countPresentUpTo", "(I)I"⟩ : Cond) ∈ lw_tbl := z_inS (List.mem_of_getElem? (i := 13) rfl)
theorem w1_115 : (Jvm.Cond.methodLink "StandingsHall" (410 : Nat) ({ cls := "StandingsHall", name := "countPresentUpTo", desc := "(I)I" } : Jvm.MethodName)) ∈ lw_tbl := z_in1 (List.mem_of_getElem? (i := 115) rfl)
theorem w1_0 : (Jvm.Cond.initialized "StandingsHallLaw") ∈ lw_tbl := z_in1 (List.mem_of_getElem? (i := 0) rfl)
theorem w1_152 : (Jvm.Cond.code ({ cls := "StandingsHallLaw", name := "<init>", desc := "()V" } : Jvm.MethodName) method_1_code (1 : Nat) (Option.none : Option Jvm.ClassFile.FieldType)) ∈ lw_tbl := z_in1 (List.mem_of_getElem? (i := 152) rfl)
theorem w1_151 : (Jvm.Cond.instanceMethod ({ cls := "StandingsHallLaw", name := "<init>", desc := "()V" } : Jvm.MethodName)) ∈ lw_tbl := z_in1 (List.mem_of_getElem? (i := 151) rfl)
theorem w1_153 : (Jvm.Cond.methodLink "StandingsHallLaw" (3 : Nat) ({ cls := "java/lang/Object", name := "<init>", desc := "()V" } : Jvm.MethodName)) ∈ lw_tbl := z_in1 (List.mem_of_getElem? (i := 153) rfl)
theorem w1_156 : (Jvm.Cond.classLink "StandingsHallLaw" (1 : Nat) "StandingsHall") ∈ lw_tbl := z_in1 (List.mem_of_getElem? (i := 156) rfl)
theorem w1_39 : (Jvm.Cond.instantiable "StandingsHall" (13 : Nat)) ∈ lw_tbl := z_in1 (List.mem_of_getElem? (i := 39) rfl)
theorem w1_157 : (Jvm.Cond.methodLink "StandingsHallLaw" (9 : Nat) ({ cls := "StandingsHall", name := "<init>", desc := "()V" } : Jvm.MethodName)) ∈ lw_tbl := z_in1 (List.mem_of_getElem? (i := 157) rfl)
theorem w2_151 : (Jvm.Cond.fieldLink "StandingsHallLaw" (10 : Nat) "StandingsHallLaw" "o" "LStandingsHall;") ∈ lw_tbl := z_in2 (List.mem_of_getElem? (i := 151) rfl)
theorem w2_152 : (Jvm.Cond.fieldLink "StandingsHallLaw" (16 : Nat) "StandingsHallLaw" "score" "[I") ∈ lw_tbl := z_in2 (List.mem_of_getElem? (i := 152) rfl)
theorem w2_153 : (Jvm.Cond.fieldLink "StandingsHallLaw" (20 : Nat) "StandingsHallLaw" "group" "[I") ∈ lw_tbl := z_in2 (List.mem_of_getElem? (i := 153) rfl)
theorem w2_154 : (Jvm.Cond.fieldLink "StandingsHallLaw" (23 : Nat) "StandingsHallLaw" "factor" "[I") ∈ lw_tbl := z_in2 (List.mem_of_getElem? (i := 154) rfl)
theorem w2_155 : (Jvm.Cond.fieldLink "StandingsHallLaw" (26 : Nat) "StandingsHallLaw" "begun" "[I") ∈ lw_tbl := z_in2 (List.mem_of_getElem? (i := 155) rfl)
theorem w2_156 : (Jvm.Cond.fieldLink "StandingsHallLaw" (29 : Nat) "StandingsHallLaw" "row" "[I") ∈ lw_tbl := z_in2 (List.mem_of_getElem? (i := 156) rfl)
theorem w2_157 : (Jvm.Cond.fieldLink "StandingsHallLaw" (32 : Nat) "StandingsHallLaw" "isThere" "[Z") ∈ lw_tbl := z_in2 (List.mem_of_getElem? (i := 157) rfl)
theorem w2_158 : (Jvm.Cond.fieldLink "StandingsHallLaw" (36 : Nat) "StandingsHallLaw" "isGreater" "[Z") ∈ lw_tbl := z_in2 (List.mem_of_getElem? (i := 158) rfl)
theorem w2_159 : (Jvm.Cond.fieldLink "StandingsHallLaw" (39 : Nat) "StandingsHallLaw" "ladder" "[I") ∈ lw_tbl := z_in2 (List.mem_of_getElem? (i := 159) rfl)
theorem w2_160 : (Jvm.Cond.fieldLink "StandingsHallLaw" (42 : Nat) "StandingsHallLaw" "entered" "[I") ∈ lw_tbl := z_in2 (List.mem_of_getElem? (i := 160) rfl)
theorem w2_161 : (Jvm.Cond.fieldLink "StandingsHallLaw" (45 : Nat) "StandingsHallLaw" "played" "[I") ∈ lw_tbl := z_in2 (List.mem_of_getElem? (i := 161) rfl)
theorem w2_162 : (Jvm.Cond.fieldLink "StandingsHallLaw" (48 : Nat) "StandingsHallLaw" "gains" "[I") ∈ lw_tbl := z_in2 (List.mem_of_getElem? (i := 162) rfl)
theorem w2_163 : (Jvm.Cond.fieldLink "StandingsHallLaw" (51 : Nat) "StandingsHallLaw" "then" "[I") ∈ lw_tbl := z_in2 (List.mem_of_getElem? (i := 163) rfl)
theorem w2_167 : (Jvm.Cond.fieldLink "StandingsHallLaw" (54 : Nat) "StandingsHallLaw" "reach" "I") ∈ lw_tbl := z_in2 (List.mem_of_getElem? (i := 167) rfl)
theorem w2_168 : (Jvm.Cond.fieldLink "StandingsHallLaw" (58 : Nat) "StandingsHallLaw" "patience" "I") ∈ lw_tbl := z_in2 (List.mem_of_getElem? (i := 168) rfl)
theorem w2_170 : (Jvm.Cond.fieldLink "StandingsHallLaw" (61 : Nat) "StandingsHallLaw" "looked" "[I") ∈ lw_tbl := z_in2 (List.mem_of_getElem? (i := 170) rfl)
theorem w2_218 : (Jvm.Cond.code ({ cls := "StandingsHallLaw", name := "next", desc := "(I)I" } : Jvm.MethodName) method_2_code (2 : Nat) (Option.some Jvm.ClassFile.FieldType.int)) ∈ lw_tbl := z_in2 (List.mem_of_getElem? (i := 218) rfl)
theorem w2_217 : (Jvm.Cond.instanceMethod ({ cls := "StandingsHallLaw", name := "next", desc := "(I)I" } : Jvm.MethodName)) ∈ lw_tbl := z_in2 (List.mem_of_getElem? (i := 217) rfl)
theorem wS21 : (Cond.selects "StandingsHallLaw" ⟨"StandingsHallLaw", "next", "(I)I"⟩ ⟨"StandingsHallLaw", "next", "(I)I"⟩ : Cond) ∈ lw_tbl := z_inS (List.mem_of_getElem? (i := 21) rfl)
theorem w2_150 : (Jvm.Cond.fieldLink "StandingsHallLaw" (64 : Nat) "StandingsHallLaw" "x" "I") ∈ lw_tbl := z_in2 (List.mem_of_getElem? (i := 150) rfl)
theorem w2_219 : (Jvm.Cond.constant "StandingsHallLaw" (67 : Nat) (1103515245 : Int32)) ∈ lw_tbl := z_in2 (List.mem_of_getElem? (i := 219) rfl)
theorem w2_223 : (Jvm.Cond.code ({ cls := "StandingsHallLaw", name := "anyone", desc := "()I" } : Jvm.MethodName) method_3_code (3 : Nat) (Option.some Jvm.ClassFile.FieldType.int)) ∈ lw_tbl := z_in2 (List.mem_of_getElem? (i := 223) rfl)
theorem w2_222 : (Jvm.Cond.instanceMethod ({ cls := "StandingsHallLaw", name := "anyone", desc := "()I" } : Jvm.MethodName)) ∈ lw_tbl := z_in2 (List.mem_of_getElem? (i := 222) rfl)
theorem wS22 : (Cond.selects "StandingsHallLaw" ⟨"StandingsHallLaw", "anyone", "()I"⟩ ⟨"StandingsHallLaw", "anyone", "()I"⟩ : Cond) ∈ lw_tbl := z_inS (List.mem_of_getElem? (i := 22) rfl)
theorem w2_164 : (Jvm.Cond.fieldLink "StandingsHallLaw" (68 : Nat) "StandingsHallLaw" "came" "I") ∈ lw_tbl := z_in2 (List.mem_of_getElem? (i := 164) rfl)
theorem w2_215 : (Jvm.Cond.methodLink "StandingsHallLaw" (71 : Nat) ({ cls := "StandingsHallLaw", name := "next", desc := "(I)I" } : Jvm.MethodName)) ∈ lw_tbl := z_in2 (List.mem_of_getElem? (i := 215) rfl)
theorem w5_120 : (Jvm.Cond.code ({ cls := "StandingsHallLaw", name := "amount", desc := "()I" } : Jvm.MethodName) method_4_code (1 : Nat) (Option.some Jvm.ClassFile.FieldType.int)) ∈ lw_tbl := z_in5 (List.mem_of_getElem? (i := 120) rfl)
theorem w5_119 : (Jvm.Cond.instanceMethod ({ cls := "StandingsHallLaw", name := "amount", desc := "()I" } : Jvm.MethodName)) ∈ lw_tbl := z_in5 (List.mem_of_getElem? (i := 119) rfl)
theorem wS58 : (Cond.selects "StandingsHallLaw" ⟨"StandingsHallLaw", "amount", "()I"⟩ ⟨"StandingsHallLaw", "amount", "()I"⟩ : Cond) ∈ lw_tbl := z_inS (List.mem_of_getElem? (i := 58) rfl)
theorem w2_227 : (Jvm.Cond.code ({ cls := "StandingsHallLaw", name := "isOrdered", desc := "()Z" } : Jvm.MethodName) method_5_code (8 : Nat) (Option.some Jvm.ClassFile.FieldType.boolean)) ∈ lw_tbl := z_in2 (List.mem_of_getElem? (i := 227) rfl)
theorem w2_226 : (Jvm.Cond.instanceMethod ({ cls := "StandingsHallLaw", name := "isOrdered", desc := "()Z" } : Jvm.MethodName)) ∈ lw_tbl := z_in2 (List.mem_of_getElem? (i := 226) rfl)
theorem wS23 : (Cond.selects "StandingsHallLaw" ⟨"StandingsHallLaw", "isOrdered", "()Z"⟩ ⟨"StandingsHallLaw", "isOrdered", "()Z"⟩ : Cond) ∈ lw_tbl := z_inS (List.mem_of_getElem? (i := 23) rfl)
theorem w2_165 : (Jvm.Cond.fieldLink "StandingsHallLaw" (75 : Nat) "StandingsHallLaw" "criteria" "I") ∈ lw_tbl := z_in2 (List.mem_of_getElem? (i := 165) rfl)
theorem w2_228 : (Jvm.Cond.classLink "StandingsHallLaw" (78 : Nat) "java/lang/StringBuilder") ∈ lw_tbl := z_in2 (List.mem_of_getElem? (i := 228) rfl)
theorem w2_229 : (Jvm.Cond.instantiable "java/lang/StringBuilder" (4 : Nat)) ∈ lw_tbl := z_in2 (List.mem_of_getElem? (i := 229) rfl)
theorem w1_25 : (Jvm.Cond.initialized "java/lang/StringBuilder") ∈ lw_tbl := z_in1 (List.mem_of_getElem? (i := 25) rfl)
theorem w2_232 : (Jvm.Cond.code ({ cls := "java/lang/StringBuilder", name := "<init>", desc := "()V" } : Jvm.MethodName) prog_27_method_1_code (1 : Nat) (Option.none : Option Jvm.ClassFile.FieldType)) ∈ lw_tbl := z_in2 (List.mem_of_getElem? (i := 232) rfl)
theorem w2_231 : (Jvm.Cond.instanceMethod ({ cls := "java/lang/StringBuilder", name := "<init>", desc := "()V" } : Jvm.MethodName)) ∈ lw_tbl := z_in2 (List.mem_of_getElem? (i := 231) rfl)
theorem w2_230 : (Jvm.Cond.methodLink "StandingsHallLaw" (80 : Nat) ({ cls := "java/lang/StringBuilder", name := "<init>", desc := "()V" } : Jvm.MethodName)) ∈ lw_tbl := z_in2 (List.mem_of_getElem? (i := 230) rfl)
theorem w3_25 : (Jvm.Cond.code ({ cls := "java/lang/StringBuilder", name := "append", desc := "(Ljava/lang/String;)Ljava/lang/StringBuilder;" } : Jvm.MethodName) prog_27_method_7_code (2 : Nat) (Option.some (Jvm.ClassFile.FieldType.object "java/lang/StringBuilder"))) ∈ lw_tbl := z_in3 (List.mem_of_getElem? (i := 25) rfl)
theorem w3_23 : (Jvm.Cond.instanceMethod ({ cls := "java/lang/StringBuilder", name := "append", desc := "(Ljava/lang/String;)Ljava/lang/StringBuilder;" } : Jvm.MethodName)) ∈ lw_tbl := z_in3 (List.mem_of_getElem? (i := 23) rfl)
theorem w3_24 : (Jvm.Cond.selects "java/lang/StringBuilder" ({ cls := "java/lang/StringBuilder", name := "append", desc := "(Ljava/lang/String;)Ljava/lang/StringBuilder;" } : Jvm.MethodName) ({ cls := "java/lang/StringBuilder", name := "append", desc := "(Ljava/lang/String;)Ljava/lang/StringBuilder;" } : Jvm.MethodName)) ∈ lw_tbl := z_in3 (List.mem_of_getElem? (i := 24) rfl)
theorem w3_22 : (Jvm.Cond.methodLink "StandingsHallLaw" (85 : Nat) ({ cls := "java/lang/StringBuilder", name := "append", desc := "(Ljava/lang/String;)Ljava/lang/StringBuilder;" } : Jvm.MethodName)) ∈ lw_tbl := z_in3 (List.mem_of_getElem? (i := 22) rfl)
theorem w3_145 : (Jvm.Cond.code ({ cls := "java/lang/StringBuilder", name := "append", desc := "(C)Ljava/lang/StringBuilder;" } : Jvm.MethodName) prog_27_method_14_code (2 : Nat) (Option.some (Jvm.ClassFile.FieldType.object "java/lang/StringBuilder"))) ∈ lw_tbl := z_in3 (List.mem_of_getElem? (i := 145) rfl)
theorem w3_143 : (Jvm.Cond.instanceMethod ({ cls := "java/lang/StringBuilder", name := "append", desc := "(C)Ljava/lang/StringBuilder;" } : Jvm.MethodName)) ∈ lw_tbl := z_in3 (List.mem_of_getElem? (i := 143) rfl)
theorem w3_144 : (Jvm.Cond.selects "java/lang/StringBuilder" ({ cls := "java/lang/StringBuilder", name := "append", desc := "(C)Ljava/lang/StringBuilder;" } : Jvm.MethodName) ({ cls := "java/lang/StringBuilder", name := "append", desc := "(C)Ljava/lang/StringBuilder;" } : Jvm.MethodName)) ∈ lw_tbl := z_in3 (List.mem_of_getElem? (i := 144) rfl)
theorem w3_142 : (Jvm.Cond.methodLink "StandingsHallLaw" (89 : Nat) ({ cls := "java/lang/StringBuilder", name := "append", desc := "(C)Ljava/lang/StringBuilder;" } : Jvm.MethodName)) ∈ lw_tbl := z_in3 (List.mem_of_getElem? (i := 142) rfl)
theorem w3_167 : (Jvm.Cond.code ({ cls := "java/lang/StringBuilder", name := "append", desc := "(I)Ljava/lang/StringBuilder;" } : Jvm.MethodName) prog_27_method_15_code (2 : Nat) (Option.some (Jvm.ClassFile.FieldType.object "java/lang/StringBuilder"))) ∈ lw_tbl := z_in3 (List.mem_of_getElem? (i := 167) rfl)
theorem w3_165 : (Jvm.Cond.instanceMethod ({ cls := "java/lang/StringBuilder", name := "append", desc := "(I)Ljava/lang/StringBuilder;" } : Jvm.MethodName)) ∈ lw_tbl := z_in3 (List.mem_of_getElem? (i := 165) rfl)
theorem w3_166 : (Jvm.Cond.selects "java/lang/StringBuilder" ({ cls := "java/lang/StringBuilder", name := "append", desc := "(I)Ljava/lang/StringBuilder;" } : Jvm.MethodName) ({ cls := "java/lang/StringBuilder", name := "append", desc := "(I)Ljava/lang/StringBuilder;" } : Jvm.MethodName)) ∈ lw_tbl := z_in3 (List.mem_of_getElem? (i := 166) rfl)
theorem w3_164 : (Jvm.Cond.methodLink "StandingsHallLaw" (96 : Nat) ({ cls := "java/lang/StringBuilder", name := "append", desc := "(I)Ljava/lang/StringBuilder;" } : Jvm.MethodName)) ∈ lw_tbl := z_in3 (List.mem_of_getElem? (i := 164) rfl)
theorem w3_193 : (Jvm.Cond.code ({ cls := "java/lang/StringBuilder", name := "toString", desc := "()Ljava/lang/String;" } : Jvm.MethodName) prog_27_method_42_code (1 : Nat) (Option.some (Jvm.ClassFile.FieldType.object "java/lang/String"))) ∈ lw_tbl := z_in3 (List.mem_of_getElem? (i := 193) rfl)
theorem w3_191 : (Jvm.Cond.instanceMethod ({ cls := "java/lang/StringBuilder", name := "toString", desc := "()Ljava/lang/String;" } : Jvm.MethodName)) ∈ lw_tbl := z_in3 (List.mem_of_getElem? (i := 191) rfl)
theorem w3_192 : (Jvm.Cond.selects "java/lang/StringBuilder" ({ cls := "java/lang/StringBuilder", name := "toString", desc := "()Ljava/lang/String;" } : Jvm.MethodName) ({ cls := "java/lang/StringBuilder", name := "toString", desc := "()Ljava/lang/String;" } : Jvm.MethodName)) ∈ lw_tbl := z_in3 (List.mem_of_getElem? (i := 192) rfl)
theorem w3_190 : (Jvm.Cond.methodLink "StandingsHallLaw" (101 : Nat) ({ cls := "java/lang/StringBuilder", name := "toString", desc := "()Ljava/lang/String;" } : Jvm.MethodName)) ∈ lw_tbl := z_in3 (List.mem_of_getElem? (i := 190) rfl)
theorem w3_213 : (Jvm.Cond.code ({ cls := "java/lang/StringBuilder", name := "length", desc := "()I" } : Jvm.MethodName) prog_27_method_93_code (1 : Nat) (Option.some Jvm.ClassFile.FieldType.int)) ∈ lw_tbl := z_in3 (List.mem_of_getElem? (i := 213) rfl)
theorem w3_212 : (Jvm.Cond.instanceMethod ({ cls := "java/lang/StringBuilder", name := "length", desc := "()I" } : Jvm.MethodName)) ∈ lw_tbl := z_in3 (List.mem_of_getElem? (i := 212) rfl)
theorem w7_48 : (Jvm.Cond.selects "java/lang/StringBuilder" ({ cls := "java/lang/StringBuilder", name := "length", desc := "()I" } : Jvm.MethodName) ({ cls := "java/lang/StringBuilder", name := "length", desc := "()I" } : Jvm.MethodName)) ∈ lw_tbl := z_in7 (List.mem_of_getElem? (i := 48) rfl)
theorem w4_10 : (Jvm.Cond.methodLink "StandingsHallLaw" (105 : Nat) ({ cls := "java/lang/StringBuilder", name := "length", desc := "()I" } : Jvm.MethodName)) ∈ lw_tbl := z_in4 (List.mem_of_getElem? (i := 10) rfl)
theorem w4_14 : (Jvm.Cond.code ({ cls := "java/lang/StringBuilder", name := "charAt", desc := "(I)C" } : Jvm.MethodName) prog_27_method_88_code (2 : Nat) (Option.some Jvm.ClassFile.FieldType.char)) ∈ lw_tbl := z_in4 (List.mem_of_getElem? (i := 14) rfl)
theorem w4_12 : (Jvm.Cond.instanceMethod ({ cls := "java/lang/StringBuilder", name := "charAt", desc := "(I)C" } : Jvm.MethodName)) ∈ lw_tbl := z_in4 (List.mem_of_getElem? (i := 12) rfl)
theorem w4_13 : (Jvm.Cond.selects "java/lang/StringBuilder" ({ cls := "java/lang/StringBuilder", name := "charAt", desc := "(I)C" } : Jvm.MethodName) ({ cls := "java/lang/StringBuilder", name := "charAt", desc := "(I)C" } : Jvm.MethodName)) ∈ lw_tbl := z_in4 (List.mem_of_getElem? (i := 13) rfl)
theorem w4_11 : (Jvm.Cond.methodLink "StandingsHallLaw" (109 : Nat) ({ cls := "java/lang/StringBuilder", name := "charAt", desc := "(I)C" } : Jvm.MethodName)) ∈ lw_tbl := z_in4 (List.mem_of_getElem? (i := 11) rfl)
theorem w4_21 : (Jvm.Cond.methodLink "StandingsHallLaw" (113 : Nat) ({ cls := "StandingsHall", name := "append", desc := "(IIIII)I" } : Jvm.MethodName)) ∈ lw_tbl := z_in4 (List.mem_of_getElem? (i := 21) rfl)
theorem w4_101 : (Jvm.Cond.methodLink "StandingsHallLaw" (116 : Nat) ({ cls := "StandingsHall", name := "setOrder", desc := "()I" } : Jvm.MethodName)) ∈ lw_tbl := z_in4 (List.mem_of_getElem? (i := 101) rfl)
theorem w5_19 : (Jvm.Cond.methodLink "StandingsHallLaw" (119 : Nat) ({ cls := "StandingsHall", name := "errorPosition", desc := "()I" } : Jvm.MethodName)) ∈ lw_tbl := z_in5 (List.mem_of_getElem? (i := 19) rfl)
theorem w5_38 : (Jvm.Cond.code ({ cls := "StandingsHallLaw", name := "valueOf", desc := "(II)I" } : Jvm.MethodName) method_6_code (5 : Nat) (Option.some Jvm.ClassFile.FieldType.int)) ∈ lw_tbl := z_in5 (List.mem_of_getElem? (i := 38) rfl)
theorem w5_37 : (Jvm.Cond.instanceMethod ({ cls := "StandingsHallLaw", name := "valueOf", desc := "(II)I" } : Jvm.MethodName)) ∈ lw_tbl := z_in5 (List.mem_of_getElem? (i := 37) rfl)
theorem wS48 : (Cond.selects "StandingsHallLaw" ⟨"StandingsHallLaw", "valueOf", "(II)I"⟩ ⟨"StandingsHallLaw", "valueOf", "(II)I"⟩ : Cond) ∈ lw_tbl := z_inS (List.mem_of_getElem? (i := 48) rfl)
theorem w5_34 : (Jvm.Cond.code ({ cls := "StandingsHallLaw", name := "compares", desc := "(II)I" } : Jvm.MethodName) method_7_code (4 : Nat) (Option.some Jvm.ClassFile.FieldType.int)) ∈ lw_tbl := z_in5 (List.mem_of_getElem? (i := 34) rfl)
theorem w5_33 : (Jvm.Cond.instanceMethod ({ cls := "StandingsHallLaw", name := "compares", desc := "(II)I" } : Jvm.MethodName)) ∈ lw_tbl := z_in5 (List.mem_of_getElem? (i := 33) rfl)
theorem wS47 : (Cond.selects "StandingsHallLaw" ⟨"StandingsHallLaw", "compares", "(II)I"⟩ ⟨"StandingsHallLaw", "compares", "(II)I"⟩ : Cond) ∈ lw_tbl := z_inS (List.mem_of_getElem? (i := 47) rfl)
theorem w5_35 : (Jvm.Cond.methodLink "StandingsHallLaw" (122 : Nat) ({ cls := "StandingsHallLaw", name := "valueOf", desc := "(II)I" } : Jvm.MethodName)) ∈ lw_tbl := z_in5 (List.mem_of_getElem? (i := 35) rfl)
theorem w5_30 : (Jvm.Cond.code ({ cls := "StandingsHallLaw", name := "sorts", desc := "()I" } : Jvm.MethodName) method_8_code (4 : Nat) (Option.some Jvm.ClassFile.FieldType.int)) ∈ lw_tbl := z_in5 (List.mem_of_getElem? (i := 30) rfl)
theorem w5_29 : (Jvm.Cond.instanceMethod ({ cls := "StandingsHallLaw", name := "sorts", desc := "()I" } : Jvm.MethodName)) ∈ lw_tbl := z_in5 (List.mem_of_getElem? (i := 29) rfl)
theorem wS46 : (Cond.selects "StandingsHallLaw" ⟨"StandingsHallLaw", "sorts", "()I"⟩ ⟨"StandingsHallLaw", "sorts", "()I"⟩ : Cond) ∈ lw_tbl := z_inS (List.mem_of_getElem? (i := 46) rfl)
theorem w5_31 : (Jvm.Cond.methodLink "StandingsHallLaw" (126 : Nat) ({ cls := "StandingsHallLaw", name := "compares", desc := "(II)I" } : Jvm.MethodName)) ∈ lw_tbl := z_in5 (List.mem_of_getElem? (i := 31) rfl)
theorem w5_26 : (Jvm.Cond.code ({ cls := "StandingsHallLaw", name := "isStanding", desc := "()Z" } : Jvm.MethodName) method_9_code (8 : Nat) (Option.some Jvm.ClassFile.FieldType.boolean)) ∈ lw_tbl := z_in5 (List.mem_of_getElem? (i := 26) rfl)
theorem w5_25 : (Jvm.Cond.instanceMethod ({ cls := "StandingsHallLaw", name := "isStanding", desc := "()Z" } : Jvm.MethodName)) ∈ lw_tbl := z_in5 (List.mem_of_getElem? (i := 25) rfl)
theorem wS45 : (Cond.selects "StandingsHallLaw" ⟨"StandingsHallLaw", "isStanding", "()Z"⟩ ⟨"StandingsHallLaw", "isStanding", "()Z"⟩ : Cond) ∈ lw_tbl := z_inS (List.mem_of_getElem? (i := 45) rfl)
theorem w5_27 : (Jvm.Cond.methodLink "StandingsHallLaw" (129 : Nat) ({ cls := "StandingsHallLaw", name := "sorts", desc := "()I" } : Jvm.MethodName)) ∈ lw_tbl := z_in5 (List.mem_of_getElem? (i := 27) rfl)
theorem w5_39 : (Jvm.Cond.methodLink "StandingsHallLaw" (132 : Nat) ({ cls := "StandingsHall", name := "entrants", desc := "()I" } : Jvm.MethodName)) ∈ lw_tbl := z_in5 (List.mem_of_getElem? (i := 39) rfl)
theorem w5_43 : (Jvm.Cond.methodLink "StandingsHallLaw" (135 : Nat) ({ cls := "StandingsHall", name := "rankSum", desc := "()I" } : Jvm.MethodName)) ∈ lw_tbl := z_in5 (List.mem_of_getElem? (i := 43) rfl)
theorem w5_64 : (Jvm.Cond.methodLink "StandingsHallLaw" (138 : Nat) ({ cls := "StandingsHall", name := "at", desc := "(I)I" } : Jvm.MethodName)) ∈ lw_tbl := z_in5 (List.mem_of_getElem? (i := 64) rfl)
theorem w5_71 : (Jvm.Cond.methodLink "StandingsHallLaw" (141 : Nat) ({ cls := "StandingsHall", name := "place", desc := "(I)I" } : Jvm.MethodName)) ∈ lw_tbl := z_in5 (List.mem_of_getElem? (i := 71) rfl)
theorem w5_80 : (Jvm.Cond.methodLink "StandingsHallLaw" (144 : Nat) ({ cls := "StandingsHall", name := "alike", desc := "(I)I" } : Jvm.MethodName)) ∈ lw_tbl := z_in5 (List.mem_of_getElem? (i := 80) rfl)
theorem w5_85 : (Jvm.Cond.methodLink "StandingsHallLaw" (147 : Nat) ({ cls := "StandingsHall", name := "criterion", desc := "(II)I" } : Jvm.MethodName)) ∈ lw_tbl := z_in5 (List.mem_of_getElem? (i := 85) rfl)
theorem w5_91 : (Jvm.Cond.methodLink "StandingsHallLaw" (150 : Nat) ({ cls := "StandingsHall", name := "rank", desc := "(II)I" } : Jvm.MethodName)) ∈ lw_tbl := z_in5 (List.mem_of_getElem? (i := 91) rfl)
theorem w5_105 : (Jvm.Cond.methodLink "StandingsHallLaw" (153 : Nat) ({ cls := "StandingsHall", name := "results", desc := "()I" } : Jvm.MethodName)) ∈ lw_tbl := z_in5 (List.mem_of_getElem? (i := 105) rfl)
theorem w5_116 : (Jvm.Cond.code ({ cls := "StandingsHallLaw", name := "isScored", desc := "(I)Z" } : Jvm.MethodName) method_10_code (6 : Nat) (Option.some Jvm.ClassFile.FieldType.boolean)) ∈ lw_tbl := z_in5 (List.mem_of_getElem? (i := 116) rfl)
theorem w5_115 : (Jvm.Cond.instanceMethod ({ cls := "StandingsHallLaw", name := "isScored", desc := "(I)Z" } : Jvm.MethodName)) ∈ lw_tbl := z_in5 (List.mem_of_getElem? (i := 115) rfl)
theorem wS57 : (Cond.selects "StandingsHallLaw" ⟨"StandingsHallLaw", "isScored", "(I)Z"⟩ ⟨"StandingsHallLaw", "isScored", "(I)Z"⟩ : Cond) ∈ lw_tbl := z_inS (List.mem_of_getElem? (i := 57) rfl)
theorem w5_117 : (Jvm.Cond.methodLink "StandingsHallLaw" (156 : Nat) ({ cls := "StandingsHallLaw", name := "amount", desc := "()I" } : Jvm.MethodName)) ∈ lw_tbl := z_in5 (List.mem_of_getElem? (i := 117) rfl)
theorem w5_121 : (Jvm.Cond.methodLink "StandingsHallLaw" (159 : Nat) ({ cls := "StandingsHall", name := "wouldGain", desc := "(III)I" } : Jvm.MethodName)) ∈ lw_tbl := z_in5 (List.mem_of_getElem? (i := 121) rfl)
theorem w5_141 : (Jvm.Cond.methodLink "StandingsHallLaw" (163 : Nat) ({ cls := "StandingsHall", name := "score", desc := "(III)I" } : Jvm.MethodName)) ∈ lw_tbl := z_in5 (List.mem_of_getElem? (i := 141) rfl)
theorem w5_172 : (Jvm.Cond.methodLink "StandingsHallLaw" (165 : Nat) ({ cls := "StandingsHall", name := "setScore", desc := "(III)I" } : Jvm.MethodName)) ∈ lw_tbl := z_in5 (List.mem_of_getElem? (i := 172) rfl)
theorem w5_176 : (Jvm.Cond.methodLink "StandingsHallLaw" (168 : Nat) ({ cls := "StandingsHall", name := "scoreOf", desc := "(II)I" } : Jvm.MethodName)) ∈ lw_tbl := z_in5 (List.mem_of_getElem? (i := 176) rfl)
theorem w5_183 : (Jvm.Cond.code ({ cls := "StandingsHallLaw", name := "isNeeded", desc := "(I)Z" } : Jvm.MethodName) method_11_code (5 : Nat) (Option.some Jvm.ClassFile.FieldType.boolean)) ∈ lw_tbl := z_in5 (List.mem_of_getElem? (i := 183) rfl)
theorem w5_182 : (Jvm.Cond.instanceMethod ({ cls := "StandingsHallLaw", name := "isNeeded", desc := "(I)Z" } : Jvm.MethodName)) ∈ lw_tbl := z_in5 (List.mem_of_getElem? (i := 182) rfl)
theorem wS67 : (Cond.selects "StandingsHallLaw" ⟨"StandingsHallLaw", "isNeeded", "(I)Z"⟩ ⟨"StandingsHallLaw", "isNeeded", "(I)Z"⟩ : Cond) ∈ lw_tbl := z_inS (List.mem_of_getElem? (i := 67) rfl)
theorem w5_184 : (Jvm.Cond.methodLink "StandingsHallLaw" (171 : Nat) ({ cls := "StandingsHall", name := "needed", desc := "(II)I" } : Jvm.MethodName)) ∈ lw_tbl := z_in5 (List.mem_of_getElem? (i := 184) rfl)
theorem w5_199 : (Jvm.Cond.methodLink "StandingsHallLaw" (174 : Nat) ({ cls := "java/lang/Math", name := "max", desc := "(II)I" } : Jvm.MethodName)) ∈ lw_tbl := z_in5 (List.mem_of_getElem? (i := 199) rfl)
theorem w5_203 : (Jvm.Cond.code ({ cls := "StandingsHallLaw", name := "hasLeft", desc := "(I)Z" } : Jvm.MethodName) method_12_code (5 : Nat) (Option.some Jvm.ClassFile.FieldType.boolean)) ∈ lw_tbl := z_in5 (List.mem_of_getElem? (i := 203) rfl)
theorem w5_202 : (Jvm.Cond.instanceMethod ({ cls := "StandingsHallLaw", name := "hasLeft", desc := "(I)Z" } : Jvm.MethodName)) ∈ lw_tbl := z_in5 (List.mem_of_getElem? (i := 202) rfl)
theorem wS70 : (Cond.selects "StandingsHallLaw" ⟨"StandingsHallLaw", "hasLeft", "(I)Z"⟩ ⟨"StandingsHallLaw", "hasLeft", "(I)Z"⟩ : Cond) ∈ lw_tbl := z_inS (List.mem_of_getElem? (i := 70) rfl)
theorem w2_166 : (Jvm.Cond.fieldLink "StandingsHallLaw" (179 : Nat) "StandingsHallLaw" "ladderMany" "I") ∈ lw_tbl := z_in2 (List.mem_of_getElem? (i := 166) rfl)
theorem w5_204 : (Jvm.Cond.methodLink "StandingsHallLaw" (182 : Nat) ({ cls := "StandingsHall", name := "leave", desc := "(I)I" } : Jvm.MethodName)) ∈ lw_tbl := z_in5 (List.mem_of_getElem? (i := 204) rfl)
theorem w5_222 : (Jvm.Cond.code ({ cls := "StandingsHallLaw", name := "hasCome", desc := "()Z" } : Jvm.MethodName) method_13_code (2 : Nat) (Option.some Jvm.ClassFile.FieldType.boolean)) ∈ lw_tbl := z_in5 (List.mem_of_getElem? (i := 222) rfl)
theorem w5_221 : (Jvm.Cond.instanceMethod ({ cls := "StandingsHallLaw", name := "hasCome", desc := "()Z" } : Jvm.MethodName)) ∈ lw_tbl := z_in5 (List.mem_of_getElem? (i := 221) rfl)
theorem wS73 : (Cond.selects "StandingsHallLaw" ⟨"StandingsHallLaw", "hasCome", "()Z"⟩ ⟨"StandingsHallLaw", "hasCome", "()Z"⟩ : Cond) ∈ lw_tbl := z_inS (List.mem_of_getElem? (i := 73) rfl)
theorem w5_223 : (Jvm.Cond.methodLink "StandingsHallLaw" (185 : Nat) ({ cls := "StandingsHall", name := "come", desc := "(I)I" } : Jvm.MethodName)) ∈ lw_tbl := z_in5 (List.mem_of_getElem? (i := 223) rfl)
theorem w6_1 : (Jvm.Cond.methodLink "StandingsHallLaw" (188 : Nat) ({ cls := "StandingsHall", name := "groupOf", desc := "(I)I" } : Jvm.MethodName)) ∈ lw_tbl := z_in6 (List.mem_of_getElem? (i := 1) rfl)
theorem w6_8 : (Jvm.Cond.code ({ cls := "StandingsHallLaw", name := "arePoints", desc := "()Z" } : Jvm.MethodName) method_14_code (9 : Nat) (Option.some Jvm.ClassFile.FieldType.boolean)) ∈ lw_tbl := z_in6 (List.mem_of_getElem? (i := 8) rfl)
theorem w6_7 : (Jvm.Cond.instanceMethod ({ cls := "StandingsHallLaw", name := "arePoints", desc := "()Z" } : Jvm.MethodName)) ∈ lw_tbl := z_in6 (List.mem_of_getElem? (i := 7) rfl)
theorem wS76 : (Cond.selects "StandingsHallLaw" ⟨"StandingsHallLaw", "arePoints", "()Z"⟩ ⟨"StandingsHallLaw", "arePoints", "()Z"⟩ : Cond) ∈ lw_tbl := z_inS (List.mem_of_getElem? (i := 76) rfl)
theorem w6_9 : (Jvm.Cond.methodLink "StandingsHallLaw" (191 : Nat) ({ cls := "StandingsHall", name := "meanPoints", desc := "()D" } : Jvm.MethodName)) ∈ lw_tbl := z_in6 (List.mem_of_getElem? (i := 9) rfl)
theorem w6_13 : (Jvm.Cond.methodLink "StandingsHallLaw" (195 : Nat) ({ cls := "StandingsHall", name := "median", desc := "(Z)I" } : Jvm.MethodName)) ∈ lw_tbl := z_in6 (List.mem_of_getElem? (i := 13) rfl)
theorem w6_37 : (Jvm.Cond.methodLink "StandingsHallLaw" (199 : Nat) ({ cls := "StandingsHall", name := "quantile", desc := "(II)I" } : Jvm.MethodName)) ∈ lw_tbl := z_in6 (List.mem_of_getElem? (i := 37) rfl)
theorem w6_43 : (Jvm.Cond.methodLink "StandingsHallLaw" (202 : Nat) ({ cls := "StandingsHall", name := "above", desc := "(I)I" } : Jvm.MethodName)) ∈ lw_tbl := z_in6 (List.mem_of_getElem? (i := 43) rfl)
theorem w6_47 : (Jvm.Cond.methodLink "StandingsHallLaw" (205 : Nat) ({ cls := "StandingsHall", name := "with", desc := "(I)I" } : Jvm.MethodName)) ∈ lw_tbl := z_in6 (List.mem_of_getElem? (i := 47) rfl)
theorem w6_51 : (Jvm.Cond.methodLink "StandingsHallLaw" (208 : Nat) ({ cls := "StandingsHall", name := "withAt", desc := "(II)I" } : Jvm.MethodName)) ∈ lw_tbl := z_in6 (List.mem_of_getElem? (i := 51) rfl)
theorem w6_55 : (Jvm.Cond.methodLink "StandingsHallLaw" (211 : Nat) ({ cls := "StandingsHall", name := "between", desc := "(II)I" } : Jvm.MethodName)) ∈ lw_tbl := z_in6 (List.mem_of_getElem? (i := 55) rfl)
theorem w6_60 : (Jvm.Cond.methodLink "StandingsHallLaw" (214 : Nat) ({ cls := "StandingsHall", name := "next", desc := "(I)I" } : Jvm.MethodName)) ∈ lw_tbl := z_in6 (List.mem_of_getElem? (i := 60) rfl)
theorem w6_82 : (Jvm.Cond.code ({ cls := "StandingsHallLaw", name := "placeIn", desc := "(I)I" } : Jvm.MethodName) method_15_code (3 : Nat) (Option.some Jvm.ClassFile.FieldType.int)) ∈ lw_tbl := z_in6 (List.mem_of_getElem? (i := 82) rfl)
theorem w6_81 : (Jvm.Cond.instanceMethod ({ cls := "StandingsHallLaw", name := "placeIn", desc := "(I)I" } : Jvm.MethodName)) ∈ lw_tbl := z_in6 (List.mem_of_getElem? (i := 81) rfl)
theorem wS79 : (Cond.selects "StandingsHallLaw" ⟨"StandingsHallLaw", "placeIn", "(I)I"⟩ ⟨"StandingsHallLaw", "placeIn", "(I)I"⟩ : Cond) ∈ lw_tbl := z_inS (List.mem_of_getElem? (i := 79) rfl)
theorem w6_68 : (Jvm.Cond.code ({ cls := "StandingsHallLaw", name := "isPlayed", desc := "()Z" } : Jvm.MethodName) method_16_code (8 : Nat) (Option.some Jvm.ClassFile.FieldType.boolean)) ∈ lw_tbl := z_in6 (List.mem_of_getElem? (i := 68) rfl)
theorem w6_67 : (Jvm.Cond.instanceMethod ({ cls := "StandingsHallLaw", name := "isPlayed", desc := "()Z" } : Jvm.MethodName)) ∈ lw_tbl := z_in6 (List.mem_of_getElem? (i := 67) rfl)
theorem wS78 : (Cond.selects "StandingsHallLaw" ⟨"StandingsHallLaw", "isPlayed", "()Z"⟩ ⟨"StandingsHallLaw", "isPlayed", "()Z"⟩ : Cond) ∈ lw_tbl := z_inS (List.mem_of_getElem? (i := 78) rfl)
theorem w6_69 : (Jvm.Cond.methodLink "StandingsHallLaw" (215 : Nat) ({ cls := "StandingsHall", name := "setReach", desc := "(I)I" } : Jvm.MethodName)) ∈ lw_tbl := z_in6 (List.mem_of_getElem? (i := 69) rfl)
theorem w6_74 : (Jvm.Cond.methodLink "StandingsHallLaw" (218 : Nat) ({ cls := "StandingsHall", name := "setPatience", desc := "(I)I" } : Jvm.MethodName)) ∈ lw_tbl := z_in6 (List.mem_of_getElem? (i := 74) rfl)
theorem w2_220 : (Jvm.Cond.methodLink "StandingsHallLaw" (221 : Nat) ({ cls := "StandingsHallLaw", name := "anyone", desc := "()I" } : Jvm.MethodName)) ∈ lw_tbl := z_in2 (List.mem_of_getElem? (i := 220) rfl)
theorem w6_79 : (Jvm.Cond.methodLink "StandingsHallLaw" (224 : Nat) ({ cls := "StandingsHallLaw", name := "placeIn", desc := "(I)I" } : Jvm.MethodName)) ∈ lw_tbl := z_in6 (List.mem_of_getElem? (i := 79) rfl)
theorem w2_169 : (Jvm.Cond.fieldLink "StandingsHallLaw" (227 : Nat) "StandingsHallLaw" "rounds" "I") ∈ lw_tbl := z_in2 (List.mem_of_getElem? (i := 169) rfl)
theorem w6_83 : (Jvm.Cond.methodLink "StandingsHallLaw" (230 : Nat) ({ cls := "StandingsHall", name := "enter", desc := "(I)I" } : Jvm.MethodName)) ∈ lw_tbl := z_in6 (List.mem_of_getElem? (i := 83) rfl)
theorem w6_94 : (Jvm.Cond.methodLink "StandingsHallLaw" (233 : Nat) ({ cls := "java/lang/Math", name := "min", desc := "(II)I" } : Jvm.MethodName)) ∈ lw_tbl := z_in6 (List.mem_of_getElem? (i := 94) rfl)
theorem w6_95 : (Jvm.Cond.methodLink "StandingsHallLaw" (236 : Nat) ({ cls := "StandingsHall", name := "mayChallenge", desc := "(I)I" } : Jvm.MethodName)) ∈ lw_tbl := z_in6 (List.mem_of_getElem? (i := 95) rfl)
theorem w6_99 : (Jvm.Cond.methodLink "StandingsHallLaw" (239 : Nat) ({ cls := "StandingsHall", name := "ladderAt", desc := "(I)I" } : Jvm.MethodName)) ∈ lw_tbl := z_in6 (List.mem_of_getElem? (i := 99) rfl)
theorem w6_103 : (Jvm.Cond.methodLink "StandingsHallLaw" (242 : Nat) ({ cls := "StandingsHall", name := "challenge", desc := "(IIZ)I" } : Jvm.MethodName)) ∈ lw_tbl := z_in6 (List.mem_of_getElem? (i := 103) rfl)
theorem w6_117 : (Jvm.Cond.code ({ cls := "StandingsHallLaw", name := "isLadder", desc := "()Z" } : Jvm.MethodName) method_17_code (2 : Nat) (Option.some Jvm.ClassFile.FieldType.boolean)) ∈ lw_tbl := z_in6 (List.mem_of_getElem? (i := 117) rfl)
theorem w6_116 : (Jvm.Cond.instanceMethod ({ cls := "StandingsHallLaw", name := "isLadder", desc := "()Z" } : Jvm.MethodName)) ∈ lw_tbl := z_in6 (List.mem_of_getElem? (i := 116) rfl)
theorem wS82 : (Cond.selects "StandingsHallLaw" ⟨"StandingsHallLaw", "isLadder", "()Z"⟩ ⟨"StandingsHallLaw", "isLadder", "()Z"⟩ : Cond) ∈ lw_tbl := z_inS (List.mem_of_getElem? (i := 82) rfl)
theorem w6_118 : (Jvm.Cond.methodLink "StandingsHallLaw" (246 : Nat) ({ cls := "StandingsHall", name := "ladderPlace", desc := "(I)I" } : Jvm.MethodName)) ∈ lw_tbl := z_in6 (List.mem_of_getElem? (i := 118) rfl)
theorem w6_125 : (Jvm.Cond.code ({ cls := "StandingsHallLaw", name := "isEnded", desc := "()Z" } : Jvm.MethodName) method_18_code (6 : Nat) (Option.some Jvm.ClassFile.FieldType.boolean)) ∈ lw_tbl := z_in6 (List.mem_of_getElem? (i := 125) rfl)
theorem w6_124 : (Jvm.Cond.instanceMethod ({ cls := "StandingsHallLaw", name := "isEnded", desc := "()Z" } : Jvm.MethodName)) ∈ lw_tbl := z_in6 (List.mem_of_getElem? (i := 124) rfl)
theorem wS83 : (Cond.selects "StandingsHallLaw" ⟨"StandingsHallLaw", "isEnded", "()Z"⟩ ⟨"StandingsHallLaw", "isEnded", "()Z"⟩ : Cond) ∈ lw_tbl := z_inS (List.mem_of_getElem? (i := 83) rfl)
theorem w6_126 : (Jvm.Cond.methodLink "StandingsHallLaw" (249 : Nat) ({ cls := "StandingsHall", name := "gain", desc := "(I)I" } : Jvm.MethodName)) ∈ lw_tbl := z_in6 (List.mem_of_getElem? (i := 126) rfl)
theorem w6_130 : (Jvm.Cond.methodLink "StandingsHallLaw" (252 : Nat) ({ cls := "StandingsHall", name := "endRound", desc := "()I" } : Jvm.MethodName)) ∈ lw_tbl := z_in6 (List.mem_of_getElem? (i := 130) rfl)
theorem w6_150 : (Jvm.Cond.methodLink "StandingsHallLaw" (255 : Nat) ({ cls := "StandingsHall", name := "round", desc := "()I" } : Jvm.MethodName)) ∈ lw_tbl := z_in6 (List.mem_of_getElem? (i := 150) rfl)
theorem w6_178 : (Jvm.Cond.code ({ cls := "StandingsHallLaw", name := "form", desc := "(III)I" } : Jvm.MethodName) method_19_code (11 : Nat) (Option.some Jvm.ClassFile.FieldType.int)) ∈ lw_tbl := z_in6 (List.mem_of_getElem? (i := 178) rfl)
theorem w6_177 : (Jvm.Cond.instanceMethod ({ cls := "StandingsHallLaw", name := "form", desc := "(III)I" } : Jvm.MethodName)) ∈ lw_tbl := z_in6 (List.mem_of_getElem? (i := 177) rfl)
theorem wS90 : (Cond.selects "StandingsHallLaw" ⟨"StandingsHallLaw", "form", "(III)I"⟩ ⟨"StandingsHallLaw", "form", "(III)I"⟩ : Cond) ∈ lw_tbl := z_inS (List.mem_of_getElem? (i := 90) rfl)
theorem w6_157 : (Jvm.Cond.code ({ cls := "StandingsHallLaw", name := "areForms", desc := "()Z" } : Jvm.MethodName) method_20_code (7 : Nat) (Option.some Jvm.ClassFile.FieldType.boolean)) ∈ lw_tbl := z_in6 (List.mem_of_getElem? (i := 157) rfl)
theorem w6_156 : (Jvm.Cond.instanceMethod ({ cls := "StandingsHallLaw", name := "areForms", desc := "()Z" } : Jvm.MethodName)) ∈ lw_tbl := z_in6 (List.mem_of_getElem? (i := 156) rfl)
theorem wS86 : (Cond.selects "StandingsHallLaw" ⟨"StandingsHallLaw", "areForms", "()Z"⟩ ⟨"StandingsHallLaw", "areForms", "()Z"⟩ : Cond) ∈ lw_tbl := z_inS (List.mem_of_getElem? (i := 86) rfl)
theorem w6_158 : (Jvm.Cond.methodLink "StandingsHallLaw" (258 : Nat) ({ cls := "StandingsHall", name := "form", desc := "(III)I" } : Jvm.MethodName)) ∈ lw_tbl := z_in6 (List.mem_of_getElem? (i := 158) rfl)
theorem w6_175 : (Jvm.Cond.methodLink "StandingsHallLaw" (261 : Nat) ({ cls := "StandingsHallLaw", name := "form", desc := "(III)I" } : Jvm.MethodName)) ∈ lw_tbl := z_in6 (List.mem_of_getElem? (i := 175) rfl)
theorem w6_179 : (Jvm.Cond.methodLink "StandingsHallLaw" (262 : Nat) ({ cls := "StandingsHall", name := "inForm", desc := "(II)I" } : Jvm.MethodName)) ∈ lw_tbl := z_in6 (List.mem_of_getElem? (i := 179) rfl)
theorem w6_221 : (Jvm.Cond.code ({ cls := "StandingsHallLaw", name := "placeThen", desc := "(II)I" } : Jvm.MethodName) method_21_code (4 : Nat) (Option.some Jvm.ClassFile.FieldType.int)) ∈ lw_tbl := z_in6 (List.mem_of_getElem? (i := 221) rfl)
theorem w6_220 : (Jvm.Cond.instanceMethod ({ cls := "StandingsHallLaw", name := "placeThen", desc := "(II)I" } : Jvm.MethodName)) ∈ lw_tbl := z_in6 (List.mem_of_getElem? (i := 220) rfl)
theorem wS97 : (Cond.selects "StandingsHallLaw" ⟨"StandingsHallLaw", "placeThen", "(II)I"⟩ ⟨"StandingsHallLaw", "placeThen", "(II)I"⟩ : Cond) ∈ lw_tbl := z_inS (List.mem_of_getElem? (i := 97) rfl)
theorem w6_186 : (Jvm.Cond.code ({ cls := "StandingsHallLaw", name := "areApart", desc := "()Z" } : Jvm.MethodName) method_22_code (13 : Nat) (Option.some Jvm.ClassFile.FieldType.boolean)) ∈ lw_tbl := z_in6 (List.mem_of_getElem? (i := 186) rfl)
theorem w6_185 : (Jvm.Cond.instanceMethod ({ cls := "StandingsHallLaw", name := "areApart", desc := "()Z" } : Jvm.MethodName)) ∈ lw_tbl := z_in6 (List.mem_of_getElem? (i := 185) rfl)
theorem wS91 : (Cond.selects "StandingsHallLaw" ⟨"StandingsHallLaw", "areApart", "()Z"⟩ ⟨"StandingsHallLaw", "areApart", "()Z"⟩ : Cond) ∈ lw_tbl := z_inS (List.mem_of_getElem? (i := 91) rfl)
theorem w6_187 : (Jvm.Cond.methodLink "StandingsHallLaw" (265 : Nat) ({ cls := "StandingsHall", name := "inversions", desc := "(II)I" } : Jvm.MethodName)) ∈ lw_tbl := z_in6 (List.mem_of_getElem? (i := 187) rfl)
theorem w6_213 : (Jvm.Cond.methodLink "StandingsHallLaw" (268 : Nat) ({ cls := "StandingsHall", name := "placeThen", desc := "(II)I" } : Jvm.MethodName)) ∈ lw_tbl := z_in6 (List.mem_of_getElem? (i := 213) rfl)
theorem w6_218 : (Jvm.Cond.methodLink "StandingsHallLaw" (271 : Nat) ({ cls := "StandingsHallLaw", name := "placeThen", desc := "(II)I" } : Jvm.MethodName)) ∈ lw_tbl := z_in6 (List.mem_of_getElem? (i := 218) rfl)
theorem w6_222 : (Jvm.Cond.methodLink "StandingsHallLaw" (272 : Nat) ({ cls := "StandingsHall", name := "swaps", desc := "(II)I" } : Jvm.MethodName)) ∈ lw_tbl := z_in6 (List.mem_of_getElem? (i := 222) rfl)
theorem w6_230 : (Jvm.Cond.methodLink "StandingsHallLaw" (275 : Nat) ({ cls := "StandingsHall", name := "climb", desc := "(I)I" } : Jvm.MethodName)) ∈ lw_tbl := z_in6 (List.mem_of_getElem? (i := 230) rfl)
theorem w6_237 : (Jvm.Cond.codeWith ({ cls := "StandingsHallLaw", name := "areGroups", desc := "()Z" } : Jvm.MethodName) method_23_code (9 : Nat) (Option.some Jvm.ClassFile.FieldType.boolean) [((18 : Nat), (29 : Nat), (32 : Nat), (281 : Nat))]) ∈ lw_tbl := z_in6 (List.mem_of_getElem? (i := 237) rfl)
theorem w6_236 : (Jvm.Cond.instanceMethod ({ cls := "StandingsHallLaw", name := "areGroups", desc := "()Z" } : Jvm.MethodName)) ∈ lw_tbl := z_in6 (List.mem_of_getElem? (i := 236) rfl)
theorem wS99 : (Cond.selects "StandingsHallLaw" ⟨"StandingsHallLaw", "areGroups", "()Z"⟩ ⟨"StandingsHallLaw", "areGroups", "()Z"⟩ : Cond) ∈ lw_tbl := z_inS (List.mem_of_getElem? (i := 99) rfl)
theorem w6_239 : (Jvm.Cond.methodLink "StandingsHallLaw" (278 : Nat) ({ cls := "StandingsHall", name := "groupAt", desc := "(I)I" } : Jvm.MethodName)) ∈ lw_tbl := z_in6 (List.mem_of_getElem? (i := 239) rfl)
theorem w7_19 : (Jvm.Cond.methodLink "StandingsHallLaw" (283 : Nat) ({ cls := "StandingsHall", name := "teamScore", desc := "(I)I" } : Jvm.MethodName)) ∈ lw_tbl := z_in7 (List.mem_of_getElem? (i := 19) rfl)
theorem w7_23 : (Jvm.Cond.methodLink "StandingsHallLaw" (286 : Nat) ({ cls := "StandingsHall", name := "best", desc := "(I)I" } : Jvm.MethodName)) ∈ lw_tbl := z_in7 (List.mem_of_getElem? (i := 23) rfl)
theorem w7_27 : (Jvm.Cond.methodLink "StandingsHallLaw" (289 : Nat) ({ cls := "StandingsHall", name := "members", desc := "(I)I" } : Jvm.MethodName)) ∈ lw_tbl := z_in7 (List.mem_of_getElem? (i := 27) rfl)
theorem w7_37 : (Jvm.Cond.code ({ cls := "StandingsHallLaw", name := "stirred", desc := "([I)I" } : Jvm.MethodName) method_24_code (6 : Nat) (Option.some Jvm.ClassFile.FieldType.int)) ∈ lw_tbl := z_in7 (List.mem_of_getElem? (i := 37) rfl)
theorem w7_36 : (Jvm.Cond.static ({ cls := "StandingsHallLaw", name := "stirred", desc := "([I)I" } : Jvm.MethodName)) ∈ lw_tbl := z_in7 (List.mem_of_getElem? (i := 36) rfl)
theorem w1_148 : (Jvm.Cond.classLink "StandingsHallLaw" (11 : Nat) "StandingsHallLaw") ∈ lw_tbl := z_in1 (List.mem_of_getElem? (i := 148) rfl)
theorem w1_149 : (Jvm.Cond.instantiable "StandingsHallLaw" (21 : Nat)) ∈ lw_tbl := z_in1 (List.mem_of_getElem? (i := 149) rfl)
theorem w1_150 : (Jvm.Cond.methodLink "StandingsHallLaw" (293 : Nat) ({ cls := "StandingsHallLaw", name := "<init>", desc := "()V" } : Jvm.MethodName)) ∈ lw_tbl := z_in1 (List.mem_of_getElem? (i := 150) rfl)
theorem w7_35 : (Jvm.Cond.methodLink "StandingsHallLaw" (294 : Nat) ({ cls := "StandingsHallLaw", name := "stirred", desc := "([I)I" } : Jvm.MethodName)) ∈ lw_tbl := z_in7 (List.mem_of_getElem? (i := 35) rfl)
theorem w5_219 : (Jvm.Cond.methodLink "StandingsHallLaw" (298 : Nat) ({ cls := "StandingsHallLaw", name := "hasCome", desc := "()Z" } : Jvm.MethodName)) ∈ lw_tbl := z_in5 (List.mem_of_getElem? (i := 219) rfl)
theorem w2_224 : (Jvm.Cond.methodLink "StandingsHallLaw" (302 : Nat) ({ cls := "StandingsHallLaw", name := "isOrdered", desc := "()Z" } : Jvm.MethodName)) ∈ lw_tbl := z_in2 (List.mem_of_getElem? (i := 224) rfl)
theorem w5_200 : (Jvm.Cond.methodLink "StandingsHallLaw" (305 : Nat) ({ cls := "StandingsHallLaw", name := "hasLeft", desc := "(I)Z" } : Jvm.MethodName)) ∈ lw_tbl := z_in5 (List.mem_of_getElem? (i := 200) rfl)
theorem w5_113 : (Jvm.Cond.methodLink "StandingsHallLaw" (309 : Nat) ({ cls := "StandingsHallLaw", name := "isScored", desc := "(I)Z" } : Jvm.MethodName)) ∈ lw_tbl := z_in5 (List.mem_of_getElem? (i := 113) rfl)
theorem w6_65 : (Jvm.Cond.methodLink "StandingsHallLaw" (312 : Nat) ({ cls := "StandingsHallLaw", name := "isPlayed", desc := "()Z" } : Jvm.MethodName)) ∈ lw_tbl := z_in6 (List.mem_of_getElem? (i := 65) rfl)
theorem w6_114 : (Jvm.Cond.methodLink "StandingsHallLaw" (315 : Nat) ({ cls := "StandingsHallLaw", name := "isLadder", desc := "()Z" } : Jvm.MethodName)) ∈ lw_tbl := z_in6 (List.mem_of_getElem? (i := 114) rfl)
theorem w6_122 : (Jvm.Cond.methodLink "StandingsHallLaw" (318 : Nat) ({ cls := "StandingsHallLaw", name := "isEnded", desc := "()Z" } : Jvm.MethodName)) ∈ lw_tbl := z_in6 (List.mem_of_getElem? (i := 122) rfl)
theorem w5_180 : (Jvm.Cond.methodLink "StandingsHallLaw" (321 : Nat) ({ cls := "StandingsHallLaw", name := "isNeeded", desc := "(I)Z" } : Jvm.MethodName)) ∈ lw_tbl := z_in5 (List.mem_of_getElem? (i := 180) rfl)
theorem w6_154 : (Jvm.Cond.methodLink "StandingsHallLaw" (324 : Nat) ({ cls := "StandingsHallLaw", name := "areForms", desc := "()Z" } : Jvm.MethodName)) ∈ lw_tbl := z_in6 (List.mem_of_getElem? (i := 154) rfl)
theorem w6_183 : (Jvm.Cond.methodLink "StandingsHallLaw" (327 : Nat) ({ cls := "StandingsHallLaw", name := "areApart", desc := "()Z" } : Jvm.MethodName)) ∈ lw_tbl := z_in6 (List.mem_of_getElem? (i := 183) rfl)
theorem w6_234 : (Jvm.Cond.methodLink "StandingsHallLaw" (330 : Nat) ({ cls := "StandingsHallLaw", name := "areGroups", desc := "()Z" } : Jvm.MethodName)) ∈ lw_tbl := z_in6 (List.mem_of_getElem? (i := 234) rfl)
theorem w5_23 : (Jvm.Cond.methodLink "StandingsHallLaw" (333 : Nat) ({ cls := "StandingsHallLaw", name := "isStanding", desc := "()Z" } : Jvm.MethodName)) ∈ lw_tbl := z_in5 (List.mem_of_getElem? (i := 23) rfl)
theorem w6_5 : (Jvm.Cond.methodLink "StandingsHallLaw" (336 : Nat) ({ cls := "StandingsHallLaw", name := "arePoints", desc := "()Z" } : Jvm.MethodName)) ∈ lw_tbl := z_in6 (List.mem_of_getElem? (i := 5) rfl)
theorem w1_32 : (Jvm.Cond.methodLink "StandingsHallLaw" (339 : Nat) ({ cls := "StandingsHall", name := "errors", desc := "()I" } : Jvm.MethodName)) ∈ lw_tbl := z_in1 (List.mem_of_getElem? (i := 32) rfl)
theorem w1_175 : (Jvm.Cond.arrayClass Jvm.ClassFile.FieldType.int) ∈ lw_tbl := z_in1 (List.mem_of_getElem? (i := 175) rfl)
theorem w2_214 : (Jvm.Cond.arrayClass Jvm.ClassFile.FieldType.boolean) ∈ lw_tbl := z_in2 (List.mem_of_getElem? (i := 214) rfl)
theorem w1_154 : (Jvm.Cond.instanceMethod ({ cls := "java/lang/Object", name := "<init>", desc := "()V" } : Jvm.MethodName)) ∈ lw_tbl := z_in1 (List.mem_of_getElem? (i := 154) rfl)
theorem w1_155 : (Jvm.Cond.code ({ cls := "java/lang/Object", name := "<init>", desc := "()V" } : Jvm.MethodName) object_method_1_code (1 : Nat) (Option.none : Option Jvm.ClassFile.FieldType)) ∈ lw_tbl := z_in1 (List.mem_of_getElem? (i := 155) rfl)
theorem w3_19 : (Jvm.Cond.arrayClass Jvm.ClassFile.FieldType.byte) ∈ lw_tbl := z_in3 (List.mem_of_getElem? (i := 19) rfl)
theorem w3_66 : (Jvm.Cond.static ({ cls := "java/lang/System", name := "arraycopy", desc := "(Ljava/lang/Object;ILjava/lang/Object;II)V" } : Jvm.MethodName)) ∈ lw_tbl := z_in3 (List.mem_of_getElem? (i := 66) rfl)
theorem w3_67 : (Jvm.Cond.native ({ cls := "java/lang/System", name := "arraycopy", desc := "(Ljava/lang/Object;ILjava/lang/Object;II)V" } : Jvm.MethodName)) ∈ lw_tbl := z_in3 (List.mem_of_getElem? (i := 67) rfl)
theorem w1_20 : (Jvm.Cond.initialized "java/lang/System") ∈ lw_tbl := z_in1 (List.mem_of_getElem? (i := 20) rfl)
theorem w2_87 : (Jvm.Cond.lays "StandingsHall$Entrant" "StandingsHall$Entrant" "number" "I") ∈ lw_tbl := z_in2 (List.mem_of_getElem? (i := 87) rfl)
theorem w2_89 : (Jvm.Cond.laysFinal "StandingsHall$Entrant" "StandingsHall$Entrant" "group" "I") ∈ lw_tbl := z_in2 (List.mem_of_getElem? (i := 89) rfl)
theorem w2_91 : (Jvm.Cond.lays "StandingsHall$Entrant" "StandingsHall$Entrant" "isThere" "Z") ∈ lw_tbl := z_in2 (List.mem_of_getElem? (i := 91) rfl)
theorem w2_93 : (Jvm.Cond.laysFinal "StandingsHall$Entrant" "StandingsHall$Entrant" "scores" "[I") ∈ lw_tbl := z_in2 (List.mem_of_getElem? (i := 93) rfl)
theorem w2_95 : (Jvm.Cond.laysFinal "StandingsHall$Entrant" "StandingsHall$Entrant" "merits" "[I") ∈ lw_tbl := z_in2 (List.mem_of_getElem? (i := 95) rfl)
theorem w2_97 : (Jvm.Cond.lays "StandingsHall$Entrant" "StandingsHall$Entrant" "place" "I") ∈ lw_tbl := z_in2 (List.mem_of_getElem? (i := 97) rfl)
theorem w2_99 : (Jvm.Cond.lays "StandingsHall$Entrant" "StandingsHall$Entrant" "gained" "I") ∈ lw_tbl := z_in2 (List.mem_of_getElem? (i := 99) rfl)
theorem w2_101 : (Jvm.Cond.laysFinal "StandingsHall$Entrant" "StandingsHall$Entrant" "gains" "[I") ∈ lw_tbl := z_in2 (List.mem_of_getElem? (i := 101) rfl)
theorem w2_103 : (Jvm.Cond.laysFinal "StandingsHall$Entrant" "StandingsHall$Entrant" "places" "[I") ∈ lw_tbl := z_in2 (List.mem_of_getElem? (i := 103) rfl)
theorem w2_105 : (Jvm.Cond.lays "StandingsHall$Entrant" "StandingsHall$Entrant" "entered" "I") ∈ lw_tbl := z_in2 (List.mem_of_getElem? (i := 105) rfl)
theorem w2_107 : (Jvm.Cond.lays "StandingsHall$Entrant" "StandingsHall$Entrant" "played" "I") ∈ lw_tbl := z_in2 (List.mem_of_getElem? (i := 107) rfl)
theorem w2_50 : (Jvm.Cond.laysFinal "StandingsHall$Ladder" "StandingsHall$Ladder" "row" "Ljava/util/ArrayList;") ∈ lw_tbl := z_in2 (List.mem_of_getElem? (i := 50) rfl)
theorem w2_52 : (Jvm.Cond.lays "StandingsHall$Ladder" "StandingsHall$Ladder" "reach" "I") ∈ lw_tbl := z_in2 (List.mem_of_getElem? (i := 52) rfl)
theorem w2_54 : (Jvm.Cond.lays "StandingsHall$Ladder" "StandingsHall$Ladder" "patience" "I") ∈ lw_tbl := z_in2 (List.mem_of_getElem? (i := 54) rfl)
theorem w1_211 : (Jvm.Cond.laysFinal "StandingsHall$Order" "StandingsHall$Order" "factors" "[I") ∈ lw_tbl := z_in1 (List.mem_of_getElem? (i := 211) rfl)
theorem w1_213 : (Jvm.Cond.laysFinal "StandingsHall$Order" "StandingsHall$Order" "signs" "[I") ∈ lw_tbl := z_in1 (List.mem_of_getElem? (i := 213) rfl)
theorem w1_215 : (Jvm.Cond.lays "StandingsHall$Order" "StandingsHall$Order" "count" "I") ∈ lw_tbl := z_in1 (List.mem_of_getElem? (i := 215) rfl)
theorem w1_189 : (Jvm.Cond.laysFinal "StandingsHall$OrderReader" "StandingsHall$OrderReader" "tape" "LStandingsHall$Tape;") ∈ lw_tbl := z_in1 (List.mem_of_getElem? (i := 189) rfl)
theorem w1_191 : (Jvm.Cond.lays "StandingsHall$OrderReader" "StandingsHall$OrderReader" "token" "I") ∈ lw_tbl := z_in1 (List.mem_of_getElem? (i := 191) rfl)
theorem w1_193 : (Jvm.Cond.lays "StandingsHall$OrderReader" "StandingsHall$OrderReader" "start" "I") ∈ lw_tbl := z_in1 (List.mem_of_getElem? (i := 193) rfl)
theorem w1_195 : (Jvm.Cond.lays "StandingsHall$OrderReader" "StandingsHall$OrderReader" "after" "I") ∈ lw_tbl := z_in1 (List.mem_of_getElem? (i := 195) rfl)
theorem w1_197 : (Jvm.Cond.lays "StandingsHall$OrderReader" "StandingsHall$OrderReader" "number" "I") ∈ lw_tbl := z_in1 (List.mem_of_getElem? (i := 197) rfl)
theorem w1_199 : (Jvm.Cond.lays "StandingsHall$OrderReader" "StandingsHall$OrderReader" "kind" "I") ∈ lw_tbl := z_in1 (List.mem_of_getElem? (i := 199) rfl)
theorem w2_33 : (Jvm.Cond.laysFinal "StandingsHall$PointsRow" "StandingsHall$PointsRow" "row" "Ljava/util/ArrayList;") ∈ lw_tbl := z_in2 (List.mem_of_getElem? (i := 33) rfl)
theorem w2_21 : (Jvm.Cond.laysFinal "StandingsHall$Standing" "StandingsHall$Standing" "row" "Ljava/util/ArrayList;") ∈ lw_tbl := z_in2 (List.mem_of_getElem? (i := 21) rfl)
theorem w1_170 : (Jvm.Cond.laysFinal "StandingsHall$Tape" "StandingsHall$Tape" "bytes" "[I") ∈ lw_tbl := z_in1 (List.mem_of_getElem? (i := 170) rfl)
theorem w1_172 : (Jvm.Cond.lays "StandingsHall$Tape" "StandingsHall$Tape" "length" "I") ∈ lw_tbl := z_in1 (List.mem_of_getElem? (i := 172) rfl)
theorem w2_123 : (Jvm.Cond.laysFinal "StandingsHall" "StandingsHall" "tape" "LStandingsHall$Tape;") ∈ lw_tbl := z_in2 (List.mem_of_getElem? (i := 123) rfl)
theorem w2_125 : (Jvm.Cond.laysFinal "StandingsHall" "StandingsHall" "reader" "LStandingsHall$OrderReader;") ∈ lw_tbl := z_in2 (List.mem_of_getElem? (i := 125) rfl)
theorem w2_127 : (Jvm.Cond.lays "StandingsHall" "StandingsHall" "order" "LStandingsHall$Order;") ∈ lw_tbl := z_in2 (List.mem_of_getElem? (i := 127) rfl)
theorem w2_129 : (Jvm.Cond.lays "StandingsHall" "StandingsHall" "draft" "LStandingsHall$Order;") ∈ lw_tbl := z_in2 (List.mem_of_getElem? (i := 129) rfl)
theorem w2_131 : (Jvm.Cond.lays "StandingsHall" "StandingsHall" "errorPosition" "I") ∈ lw_tbl := z_in2 (List.mem_of_getElem? (i := 131) rfl)
theorem w2_133 : (Jvm.Cond.laysFinal "StandingsHall" "StandingsHall" "come" "Ljava/util/ArrayList;") ∈ lw_tbl := z_in2 (List.mem_of_getElem? (i := 133) rfl)
theorem w2_135 : (Jvm.Cond.laysFinal "StandingsHall" "StandingsHall" "standing" "LStandingsHall$Standing;") ∈ lw_tbl := z_in2 (List.mem_of_getElem? (i := 135) rfl)
theorem w2_137 : (Jvm.Cond.laysFinal "StandingsHall" "StandingsHall" "pointsRow" "LStandingsHall$PointsRow;") ∈ lw_tbl := z_in2 (List.mem_of_getElem? (i := 137) rfl)
theorem w2_139 : (Jvm.Cond.laysFinal "StandingsHall" "StandingsHall" "ladder" "LStandingsHall$Ladder;") ∈ lw_tbl := z_in2 (List.mem_of_getElem? (i := 139) rfl)
theorem w2_141 : (Jvm.Cond.lays "StandingsHall" "StandingsHall" "over" "I") ∈ lw_tbl := z_in2 (List.mem_of_getElem? (i := 141) rfl)
theorem w2_143 : (Jvm.Cond.laysFinal "StandingsHall" "StandingsHall" "trial" "LStandingsHall$Entrant;") ∈ lw_tbl := z_in2 (List.mem_of_getElem? (i := 143) rfl)
theorem w2_145 : (Jvm.Cond.laysFinal "StandingsHall" "StandingsHall" "latest" "[I") ∈ lw_tbl := z_in2 (List.mem_of_getElem? (i := 145) rfl)
theorem w2_147 : (Jvm.Cond.laysFinal "StandingsHall" "StandingsHall" "slots" "[I") ∈ lw_tbl := z_in2 (List.mem_of_getElem? (i := 147) rfl)
theorem w2_171 : (Jvm.Cond.lays "StandingsHallLaw" "StandingsHallLaw" "x" "I") ∈ lw_tbl := z_in2 (List.mem_of_getElem? (i := 171) rfl)
theorem w2_173 : (Jvm.Cond.laysFinal "StandingsHallLaw" "StandingsHallLaw" "o" "LStandingsHall;") ∈ lw_tbl := z_in2 (List.mem_of_getElem? (i := 173) rfl)
theorem w2_175 : (Jvm.Cond.laysFinal "StandingsHallLaw" "StandingsHallLaw" "score" "[I") ∈ lw_tbl := z_in2 (List.mem_of_getElem? (i := 175) rfl)
theorem w2_177 : (Jvm.Cond.laysFinal "StandingsHallLaw" "StandingsHallLaw" "group" "[I") ∈ lw_tbl := z_in2 (List.mem_of_getElem? (i := 177) rfl)
theorem w2_179 : (Jvm.Cond.laysFinal "StandingsHallLaw" "StandingsHallLaw" "factor" "[I") ∈ lw_tbl := z_in2 (List.mem_of_getElem? (i := 179) rfl)
theorem w2_181 : (Jvm.Cond.laysFinal "StandingsHallLaw" "StandingsHallLaw" "begun" "[I") ∈ lw_tbl := z_in2 (List.mem_of_getElem? (i := 181) rfl)
theorem w2_183 : (Jvm.Cond.laysFinal "StandingsHallLaw" "StandingsHallLaw" "row" "[I") ∈ lw_tbl := z_in2 (List.mem_of_getElem? (i := 183) rfl)
theorem w2_185 : (Jvm.Cond.laysFinal "StandingsHallLaw" "StandingsHallLaw" "isThere" "[Z") ∈ lw_tbl := z_in2 (List.mem_of_getElem? (i := 185) rfl)
theorem w2_187 : (Jvm.Cond.laysFinal "StandingsHallLaw" "StandingsHallLaw" "isGreater" "[Z") ∈ lw_tbl := z_in2 (List.mem_of_getElem? (i := 187) rfl)
theorem w2_189 : (Jvm.Cond.laysFinal "StandingsHallLaw" "StandingsHallLaw" "ladder" "[I") ∈ lw_tbl := z_in2 (List.mem_of_getElem? (i := 189) rfl)
theorem w2_191 : (Jvm.Cond.laysFinal "StandingsHallLaw" "StandingsHallLaw" "entered" "[I") ∈ lw_tbl := z_in2 (List.mem_of_getElem? (i := 191) rfl)
theorem w2_193 : (Jvm.Cond.laysFinal "StandingsHallLaw" "StandingsHallLaw" "played" "[I") ∈ lw_tbl := z_in2 (List.mem_of_getElem? (i := 193) rfl)
theorem w2_195 : (Jvm.Cond.laysFinal "StandingsHallLaw" "StandingsHallLaw" "gains" "[I") ∈ lw_tbl := z_in2 (List.mem_of_getElem? (i := 195) rfl)
theorem w2_197 : (Jvm.Cond.laysFinal "StandingsHallLaw" "StandingsHallLaw" "then" "[I") ∈ lw_tbl := z_in2 (List.mem_of_getElem? (i := 197) rfl)
theorem w2_199 : (Jvm.Cond.lays "StandingsHallLaw" "StandingsHallLaw" "came" "I") ∈ lw_tbl := z_in2 (List.mem_of_getElem? (i := 199) rfl)
theorem w2_201 : (Jvm.Cond.lays "StandingsHallLaw" "StandingsHallLaw" "criteria" "I") ∈ lw_tbl := z_in2 (List.mem_of_getElem? (i := 201) rfl)
theorem w2_203 : (Jvm.Cond.lays "StandingsHallLaw" "StandingsHallLaw" "ladderMany" "I") ∈ lw_tbl := z_in2 (List.mem_of_getElem? (i := 203) rfl)
theorem w2_205 : (Jvm.Cond.lays "StandingsHallLaw" "StandingsHallLaw" "reach" "I") ∈ lw_tbl := z_in2 (List.mem_of_getElem? (i := 205) rfl)
theorem w2_207 : (Jvm.Cond.lays "StandingsHallLaw" "StandingsHallLaw" "patience" "I") ∈ lw_tbl := z_in2 (List.mem_of_getElem? (i := 207) rfl)
theorem w2_209 : (Jvm.Cond.lays "StandingsHallLaw" "StandingsHallLaw" "rounds" "I") ∈ lw_tbl := z_in2 (List.mem_of_getElem? (i := 209) rfl)
theorem w2_211 : (Jvm.Cond.laysFinal "StandingsHallLaw" "StandingsHallLaw" "looked" "[I") ∈ lw_tbl := z_in2 (List.mem_of_getElem? (i := 211) rfl)
theorem w2_9 : (Jvm.Cond.lays "java/util/ArrayList" "java/util/AbstractList" "modCount" "I") ∈ lw_tbl := z_in2 (List.mem_of_getElem? (i := 9) rfl)
theorem w2_5 : (Jvm.Cond.lays "java/util/ArrayList" "java/util/ArrayList" "elementData" "[Ljava/lang/Object;") ∈ lw_tbl := z_in2 (List.mem_of_getElem? (i := 5) rfl)
theorem w2_7 : (Jvm.Cond.lays "java/util/ArrayList" "java/util/ArrayList" "size" "I") ∈ lw_tbl := z_in2 (List.mem_of_getElem? (i := 7) rfl)
theorem w3_10 : (Jvm.Cond.lays "java/lang/StringBuilder" "java/lang/AbstractStringBuilder" "value" "[B") ∈ lw_tbl := z_in3 (List.mem_of_getElem? (i := 10) rfl)
theorem w3_12 : (Jvm.Cond.lays "java/lang/StringBuilder" "java/lang/AbstractStringBuilder" "coder" "B") ∈ lw_tbl := z_in3 (List.mem_of_getElem? (i := 12) rfl)
theorem w3_14 : (Jvm.Cond.lays "java/lang/StringBuilder" "java/lang/AbstractStringBuilder" "maybeLatin1" "Z") ∈ lw_tbl := z_in3 (List.mem_of_getElem? (i := 14) rfl)
theorem w3_16 : (Jvm.Cond.lays "java/lang/StringBuilder" "java/lang/AbstractStringBuilder" "count" "I") ∈ lw_tbl := z_in3 (List.mem_of_getElem? (i := 16) rfl)
theorem w4_1 : (Jvm.Cond.laysFinal "java/lang/String" "java/lang/String" "value" "[B") ∈ lw_tbl := z_in4 (List.mem_of_getElem? (i := 1) rfl)
theorem w4_3 : (Jvm.Cond.laysFinal "java/lang/String" "java/lang/String" "coder" "B") ∈ lw_tbl := z_in4 (List.mem_of_getElem? (i := 3) rfl)
theorem w4_5 : (Jvm.Cond.lays "java/lang/String" "java/lang/String" "hash" "I") ∈ lw_tbl := z_in4 (List.mem_of_getElem? (i := 5) rfl)
theorem w4_7 : (Jvm.Cond.lays "java/lang/String" "java/lang/String" "hashIsZero" "Z") ∈ lw_tbl := z_in4 (List.mem_of_getElem? (i := 7) rfl)
theorem cX0 : z_cls 0 RX0 TX0 11 tyX0 := ⟨rfl, z_lays [⟨_, w2_87⟩, ⟨_, w2_89⟩, ⟨_, w2_91⟩, ⟨_, w2_93⟩, ⟨_, w2_95⟩, ⟨_, w2_97⟩, ⟨_, w2_99⟩, ⟨_, w2_101⟩, ⟨_, w2_103⟩, ⟨_, w2_105⟩, ⟨_, w2_107⟩] rfl, tyX0_ok, nmX0⟩
theorem cX1 : z_cls 1 RX1 TX1 3 tyX1 := ⟨rfl, z_lays [⟨_, w2_50⟩, ⟨_, w2_52⟩, ⟨_, w2_54⟩] rfl, tyX1_ok, nmX1⟩
theorem cX2 : z_cls 2 RX2 TX2 3 tyX2 := ⟨rfl, z_lays [⟨_, w1_211⟩, ⟨_, w1_213⟩, ⟨_, w1_215⟩] rfl, tyX2_ok, nmX2⟩
theorem cX3 : z_cls 3 RX3 TX3 6 tyX3 := ⟨rfl, z_lays [⟨_, w1_189⟩, ⟨_, w1_191⟩, ⟨_, w1_193⟩, ⟨_, w1_195⟩, ⟨_, w1_197⟩, ⟨_, w1_199⟩] rfl, tyX3_ok, nmX3⟩
theorem cX4 : z_cls 4 RX4 TX4 1 tyX4 := ⟨rfl, z_lays [⟨_, w2_33⟩] rfl, tyX4_ok, nmX4⟩
theorem cX5 : z_cls 5 RX5 TX5 1 tyX5 := ⟨rfl, z_lays [⟨_, w2_21⟩] rfl, tyX5_ok, nmX5⟩
theorem cX6 : z_cls 6 RX6 TX6 2 tyX6 := ⟨rfl, z_lays [⟨_, w1_170⟩, ⟨_, w1_172⟩] rfl, tyX6_ok, nmX6⟩
theorem cX7 : z_cls 7 RX7 TX7 13 tyX7 := ⟨rfl, z_lays [⟨_, w2_123⟩, ⟨_, w2_125⟩, ⟨_, w2_127⟩, ⟨_, w2_129⟩, ⟨_, w2_131⟩, ⟨_, w2_133⟩, ⟨_, w2_135⟩, ⟨_, w2_137⟩, ⟨_, w2_139⟩, ⟨_, w2_141⟩, ⟨_, w2_143⟩, ⟨_, w2_145⟩, ⟨_, w2_147⟩] rfl, tyX7_ok, nmX7⟩
theorem cLx : z_cls 8 RL TL 21 tyL := ⟨rfl, z_lays [⟨_, w2_171⟩, ⟨_, w2_173⟩, ⟨_, w2_175⟩, ⟨_, w2_177⟩, ⟨_, w2_179⟩, ⟨_, w2_181⟩, ⟨_, w2_183⟩, ⟨_, w2_185⟩, ⟨_, w2_187⟩, ⟨_, w2_189⟩, ⟨_, w2_191⟩, ⟨_, w2_193⟩, ⟨_, w2_195⟩, ⟨_, w2_197⟩, ⟨_, w2_199⟩, ⟨_, w2_201⟩, ⟨_, w2_203⟩, ⟨_, w2_205⟩, ⟨_, w2_207⟩, ⟨_, w2_209⟩, ⟨_, w2_211⟩] rfl, tyL_ok, nmL⟩
theorem cJx4a65c : z_cls 9 RJx4a65c TJx4a65c 3 tyJx4a65c := ⟨rfl, z_lays [⟨_, w2_9⟩, ⟨_, w2_5⟩, ⟨_, w2_7⟩] rfl, tyJx4a65c_ok, nmJx4a65c⟩
theorem cJ4 : z_cls 10 RJ4 TJ4 4 tyJ4 := ⟨rfl, z_lays [⟨_, w3_10⟩, ⟨_, w3_12⟩, ⟨_, w3_14⟩, ⟨_, w3_16⟩] rfl, tyJ4_ok, nmJ4⟩
theorem cJ0 : z_cls 11 RJ0 TJ0 4 tyJ0 := ⟨rfl, z_lays [⟨_, w4_1⟩, ⟨_, w4_3⟩, ⟨_, w4_5⟩, ⟨_, w4_7⟩] rfl, tyJ0_ok, nmJ0⟩
theorem fJx4a65c_9 : z_fd "java/util/ArrayList" 9 9 1 (.array (.object "java/lang/Object")) false := ⟨_, _, _, _, _, cJx4a65c, by decide, rfl, rfl, (fun h => by cases h), Or.inl w2_0, Or.inl rfl⟩
theorem fJx4a65c_63 : z_fd "java/util/ArrayList" 63 9 0 .int false := ⟨_, _, _, _, _, cJx4a65c, by decide, rfl, rfl, (fun h => by cases h), Or.inl w2_3, Or.inr w2_4⟩
theorem fJx4a65c_48 : z_fd "java/util/ArrayList" 48 9 2 .int false := ⟨_, _, _, _, _, cJx4a65c, by decide, rfl, rfl, (fun h => by cases h), Or.inl w2_1, Or.inl rfl⟩
theorem fJxc12de_7 : z_fd "java/util/AbstractList" 7 9 0 .int false := ⟨_, _, _, _, _, cJx4a65c, by decide, rfl, rfl, (fun h => by cases h), Or.inl w2_2, Or.inl rfl⟩
theorem fX0_9 : z_fd "StandingsHall$Entrant" 9 0 3 (.array .int) true := ⟨_, _, _, _, _, cX0, by decide, rfl, rfl, (fun _ => rfl), Or.inl w2_72, Or.inl rfl⟩
theorem fX0_15 : z_fd "StandingsHall$Entrant" 15 0 4 (.array .int) true := ⟨_, _, _, _, _, cX0, by decide, rfl, rfl, (fun _ => rfl), Or.inl w2_73, Or.inl rfl⟩
theorem fX0_18 : z_fd "StandingsHall$Entrant" 18 0 7 (.array .int) true := ⟨_, _, _, _, _, cX0, by decide, rfl, rfl, (fun _ => rfl), Or.inl w2_80, Or.inl rfl⟩
theorem fX0_21 : z_fd "StandingsHall$Entrant" 21 0 8 (.array .int) true := ⟨_, _, _, _, _, cX0, by decide, rfl, rfl, (fun _ => rfl), Or.inl w2_81, Or.inl rfl⟩
theorem fX0_24 : z_fd "StandingsHall$Entrant" 24 0 0 .int false := ⟨_, _, _, _, _, cX0, by decide, rfl, rfl, (fun h => by cases h), Or.inl w2_64, Or.inl rfl⟩
theorem fX0_28 : z_fd "StandingsHall$Entrant" 28 0 1 .int true := ⟨_, _, _, _, _, cX0, by decide, rfl, rfl, (fun _ => rfl), Or.inl w2_67, Or.inl rfl⟩
theorem fX0_31 : z_fd "StandingsHall$Entrant" 31 0 2 .boolean false := ⟨_, _, _, _, _, cX0, by decide, rfl, rfl, (fun h => by cases h), Or.inl w2_70, Or.inl rfl⟩
theorem fX0_35 : z_fd "StandingsHall$Entrant" 35 0 5 .int false := ⟨_, _, _, _, _, cX0, by decide, rfl, rfl, (fun h => by cases h), Or.inl w2_75, Or.inl rfl⟩
theorem fX0_44 : z_fd "StandingsHall$Entrant" 44 0 9 .int false := ⟨_, _, _, _, _, cX0, by decide, rfl, rfl, (fun h => by cases h), Or.inl w2_82, Or.inl rfl⟩
theorem fX0_47 : z_fd "StandingsHall$Entrant" 47 0 10 .int false := ⟨_, _, _, _, _, cX0, by decide, rfl, rfl, (fun h => by cases h), Or.inl w2_84, Or.inl rfl⟩
theorem fX0_60 : z_fd "StandingsHall$Entrant" 60 0 6 .int false := ⟨_, _, _, _, _, cX0, by decide, rfl, rfl, (fun h => by cases h), Or.inl w2_78, Or.inl rfl⟩
theorem fX1_12 : z_fd "StandingsHall$Ladder" 12 1 0 (.object "java/util/ArrayList") true := ⟨_, _, _, _, _, cX1, by decide, rfl, rfl, (fun _ => rfl), Or.inl w2_44, Or.inl rfl⟩
theorem fX1_18 : z_fd "StandingsHall$Ladder" 18 1 1 .int false := ⟨_, _, _, _, _, cX1, by decide, rfl, rfl, (fun h => by cases h), Or.inl w2_46, Or.inl rfl⟩
theorem fX1_22 : z_fd "StandingsHall$Ladder" 22 1 2 .int false := ⟨_, _, _, _, _, cX1, by decide, rfl, rfl, (fun h => by cases h), Or.inl w2_48, Or.inl rfl⟩
theorem fX1_25 : z_fd "StandingsHall$Ladder" 25 0 9 .int false := ⟨_, _, _, _, _, cX0, by decide, rfl, rfl, (fun h => by cases h), Or.inr ⟨rfl, _, w2_83⟩, Or.inl rfl⟩
theorem fX1_52 : z_fd "StandingsHall$Ladder" 52 0 10 .int false := ⟨_, _, _, _, _, cX0, by decide, rfl, rfl, (fun h => by cases h), Or.inr ⟨rfl, _, w2_85⟩, Or.inl rfl⟩
theorem fX2_9 : z_fd "StandingsHall$Order" 9 2 0 (.array .int) true := ⟨_, _, _, _, _, cX2, by decide, rfl, rfl, (fun _ => rfl), Or.inl w1_207, Or.inl rfl⟩
theorem fX2_15 : z_fd "StandingsHall$Order" 15 2 1 (.array .int) true := ⟨_, _, _, _, _, cX2, by decide, rfl, rfl, (fun _ => rfl), Or.inl w1_208, Or.inl rfl⟩
theorem fX2_24 : z_fd "StandingsHall$Order" 24 2 2 .int false := ⟨_, _, _, _, _, cX2, by decide, rfl, rfl, (fun h => by cases h), Or.inl w1_209, Or.inl rfl⟩
theorem fX2_38 : z_fdN "StandingsHall$Order" 38 0 4 := ⟨_, _, _, _, _, cX0, by decide, _, w2_74, Or.inl rfl⟩
theorem fX3_9 : z_fd "StandingsHall$OrderReader" 9 3 0 (.object "StandingsHall$Tape") true := ⟨_, _, _, _, _, cX3, by decide, rfl, rfl, (fun _ => rfl), Or.inl w1_182, Or.inl rfl⟩
theorem fX3_20 : z_fd "StandingsHall$OrderReader" 20 3 3 .int false := ⟨_, _, _, _, _, cX3, by decide, rfl, rfl, (fun h => by cases h), Or.inl w1_186, Or.inl rfl⟩
theorem fX3_31 : z_fd "StandingsHall$OrderReader" 31 3 1 .int false := ⟨_, _, _, _, _, cX3, by decide, rfl, rfl, (fun h => by cases h), Or.inl w1_183, Or.inl rfl⟩
theorem fX3_42 : z_fd "StandingsHall$OrderReader" 42 3 4 .int false := ⟨_, _, _, _, _, cX3, by decide, rfl, rfl, (fun h => by cases h), Or.inl w1_187, Or.inl rfl⟩
theorem fX3_45 : z_fd "StandingsHall$OrderReader" 45 3 5 .int false := ⟨_, _, _, _, _, cX3, by decide, rfl, rfl, (fun h => by cases h), Or.inl w1_188, Or.inl rfl⟩
theorem fX3_52 : z_fd "StandingsHall$OrderReader" 52 3 2 .int false := ⟨_, _, _, _, _, cX3, by decide, rfl, rfl, (fun h => by cases h), Or.inl w1_185, Or.inl rfl⟩
theorem fX4_10 : z_fd "StandingsHall$PointsRow" 10 4 0 (.object "java/util/ArrayList") true := ⟨_, _, _, _, _, cX4, by decide, rfl, rfl, (fun _ => rfl), Or.inl w2_31, Or.inl rfl⟩
theorem fX5_12 : z_fd "StandingsHall$Standing" 12 5 0 (.object "java/util/ArrayList") true := ⟨_, _, _, _, _, cX5, by decide, rfl, rfl, (fun _ => rfl), Or.inl w2_19, Or.inl rfl⟩
theorem fX5_39 : z_fd "StandingsHall$Standing" 39 0 5 .int false := ⟨_, _, _, _, _, cX0, by decide, rfl, rfl, (fun h => by cases h), Or.inr ⟨rfl, _, w2_76⟩, Or.inl rfl⟩
theorem fX5_46 : z_fd "StandingsHall$Standing" 46 0 0 .int false := ⟨_, _, _, _, _, cX0, by decide, rfl, rfl, (fun h => by cases h), Or.inr ⟨rfl, _, w2_65⟩, Or.inl rfl⟩
theorem fX5_66 : z_fdN "StandingsHall$Standing" 66 0 1 := ⟨_, _, _, _, _, cX0, by decide, _, w2_69, Or.inl rfl⟩
theorem fX6_9 : z_fd "StandingsHall$Tape" 9 6 0 (.array .int) true := ⟨_, _, _, _, _, cX6, by decide, rfl, rfl, (fun _ => rfl), Or.inl w1_167, Or.inl rfl⟩
theorem fX6_15 : z_fd "StandingsHall$Tape" 15 6 1 .int false := ⟨_, _, _, _, _, cX6, by decide, rfl, rfl, (fun h => by cases h), Or.inl w1_169, Or.inl rfl⟩
theorem fX7_10 : z_fd "StandingsHall" 10 7 0 (.object "StandingsHall$Tape") true := ⟨_, _, _, _, _, cX7, by decide, rfl, rfl, (fun _ => rfl), Or.inl w2_110, Or.inl rfl⟩
theorem fX7_21 : z_fd "StandingsHall" 21 7 1 (.object "StandingsHall$OrderReader") true := ⟨_, _, _, _, _, cX7, by decide, rfl, rfl, (fun _ => rfl), Or.inl w2_111, Or.inl rfl⟩
theorem fX7_28 : z_fd "StandingsHall" 28 7 2 (.object "StandingsHall$Order") false := ⟨_, _, _, _, _, cX7, by decide, rfl, rfl, (fun h => by cases h), Or.inl w2_112, Or.inl rfl⟩
theorem fX7_32 : z_fd "StandingsHall" 32 7 3 (.object "StandingsHall$Order") false := ⟨_, _, _, _, _, cX7, by decide, rfl, rfl, (fun h => by cases h), Or.inl w2_113, Or.inl rfl⟩
theorem fX7_43 : z_fd "StandingsHall" 43 7 4 .int false := ⟨_, _, _, _, _, cX7, by decide, rfl, rfl, (fun h => by cases h), Or.inl w2_114, Or.inl rfl⟩
theorem fX7_50 : z_fd "StandingsHall" 50 7 5 (.object "java/util/ArrayList") true := ⟨_, _, _, _, _, cX7, by decide, rfl, rfl, (fun _ => rfl), Or.inl w2_115, Or.inl rfl⟩
theorem fX7_57 : z_fd "StandingsHall" 57 7 6 (.object "StandingsHall$Standing") true := ⟨_, _, _, _, _, cX7, by decide, rfl, rfl, (fun _ => rfl), Or.inl w2_116, Or.inl rfl⟩
theorem fX7_64 : z_fd "StandingsHall" 64 7 7 (.object "StandingsHall$PointsRow") true := ⟨_, _, _, _, _, cX7, by decide, rfl, rfl, (fun _ => rfl), Or.inl w2_117, Or.inl rfl⟩
theorem fX7_71 : z_fd "StandingsHall" 71 7 8 (.object "StandingsHall$Ladder") true := ⟨_, _, _, _, _, cX7, by decide, rfl, rfl, (fun _ => rfl), Or.inl w2_118, Or.inl rfl⟩
theorem fX7_79 : z_fd "StandingsHall" 79 7 10 (.object "StandingsHall$Entrant") true := ⟨_, _, _, _, _, cX7, by decide, rfl, rfl, (fun _ => rfl), Or.inl w2_120, Or.inl rfl⟩
theorem fX7_83 : z_fd "StandingsHall" 83 7 11 (.array .int) true := ⟨_, _, _, _, _, cX7, by decide, rfl, rfl, (fun _ => rfl), Or.inl w2_121, Or.inl rfl⟩
theorem fX7_87 : z_fd "StandingsHall" 87 7 12 (.array .int) true := ⟨_, _, _, _, _, cX7, by decide, rfl, rfl, (fun _ => rfl), Or.inl w2_122, Or.inl rfl⟩
theorem fX7_94 : z_fd "StandingsHall" 94 6 1 .int false := ⟨_, _, _, _, _, cX6, by decide, rfl, rfl, (fun h => by cases h), Or.inr ⟨rfl, _, w1_168⟩, Or.inl rfl⟩
theorem fX7_112 : z_fd "StandingsHall" 112 3 2 .int false := ⟨_, _, _, _, _, cX3, by decide, rfl, rfl, (fun h => by cases h), Or.inr ⟨rfl, _, w1_184⟩, Or.inl rfl⟩
theorem fX7_123 : z_fd "StandingsHall" 123 2 2 .int false := ⟨_, _, _, _, _, cX2, by decide, rfl, rfl, (fun h => by cases h), Or.inr ⟨rfl, _, w1_210⟩, Or.inl rfl⟩
theorem fX7_157 : z_fd "StandingsHall" 157 0 5 .int false := ⟨_, _, _, _, _, cX0, by decide, rfl, rfl, (fun h => by cases h), Or.inr ⟨rfl, _, w2_77⟩, Or.inl rfl⟩
theorem fX7_165 : z_fd "StandingsHall" 165 0 2 .boolean false := ⟨_, _, _, _, _, cX0, by decide, rfl, rfl, (fun h => by cases h), Or.inr ⟨rfl, _, w2_71⟩, Or.inl rfl⟩
theorem fX7_187 : z_fdN "StandingsHall" 187 0 1 := ⟨_, _, _, _, _, cX0, by decide, _, w2_68, Or.inl rfl⟩
theorem fX7_190 : z_fdN "StandingsHall" 190 5 0 := ⟨_, _, _, _, _, cX5, by decide, _, w2_20, Or.inl rfl⟩
theorem fX7_202 : z_fd "StandingsHall" 202 0 0 .int false := ⟨_, _, _, _, _, cX0, by decide, rfl, rfl, (fun h => by cases h), Or.inr ⟨rfl, _, w2_66⟩, Or.inl rfl⟩
theorem fX7_247 : z_fdN "StandingsHall" 247 4 0 := ⟨_, _, _, _, _, cX4, by decide, _, w2_32, Or.inl rfl⟩
theorem fX7_281 : z_fd "StandingsHall" 281 7 9 .int false := ⟨_, _, _, _, _, cX7, by decide, rfl, rfl, (fun h => by cases h), Or.inl w2_119, Or.inl rfl⟩
theorem fX7_287 : z_fdN "StandingsHall" 287 1 0 := ⟨_, _, _, _, _, cX1, by decide, _, w2_45, Or.inl rfl⟩
theorem fX7_288 : z_fd "StandingsHall" 288 1 1 .int false := ⟨_, _, _, _, _, cX1, by decide, rfl, rfl, (fun h => by cases h), Or.inr ⟨rfl, _, w2_47⟩, Or.inl rfl⟩
theorem fX7_293 : z_fd "StandingsHall" 293 0 10 .int false := ⟨_, _, _, _, _, cX0, by decide, rfl, rfl, (fun h => by cases h), Or.inr ⟨rfl, _, w2_86⟩, Or.inl rfl⟩
theorem fX7_303 : z_fd "StandingsHall" 303 1 2 .int false := ⟨_, _, _, _, _, cX1, by decide, rfl, rfl, (fun h => by cases h), Or.inr ⟨rfl, _, w2_49⟩, Or.inl rfl⟩
theorem fX7_314 : z_fd "StandingsHall" 314 0 6 .int false := ⟨_, _, _, _, _, cX0, by decide, rfl, rfl, (fun h => by cases h), Or.inr ⟨rfl, _, w2_79⟩, Or.inl rfl⟩
theorem fL_10 : z_fd "StandingsHallLaw" 10 8 1 (.object "StandingsHall") true := ⟨_, _, _, _, _, cLx, by decide, rfl, rfl, (fun _ => rfl), Or.inl w2_151, Or.inl rfl⟩
theorem fL_16 : z_fd "StandingsHallLaw" 16 8 2 (.array .int) true := ⟨_, _, _, _, _, cLx, by decide, rfl, rfl, (fun _ => rfl), Or.inl w2_152, Or.inl rfl⟩
theorem fL_20 : z_fd "StandingsHallLaw" 20 8 3 (.array .int) true := ⟨_, _, _, _, _, cLx, by decide, rfl, rfl, (fun _ => rfl), Or.inl w2_153, Or.inl rfl⟩
theorem fL_23 : z_fd "StandingsHallLaw" 23 8 4 (.array .int) true := ⟨_, _, _, _, _, cLx, by decide, rfl, rfl, (fun _ => rfl), Or.inl w2_154, Or.inl rfl⟩
theorem fL_26 : z_fd "StandingsHallLaw" 26 8 5 (.array .int) true := ⟨_, _, _, _, _, cLx, by decide, rfl, rfl, (fun _ => rfl), Or.inl w2_155, Or.inl rfl⟩
theorem fL_29 : z_fd "StandingsHallLaw" 29 8 6 (.array .int) true := ⟨_, _, _, _, _, cLx, by decide, rfl, rfl, (fun _ => rfl), Or.inl w2_156, Or.inl rfl⟩
theorem fL_32 : z_fd "StandingsHallLaw" 32 8 7 (.array .boolean) true := ⟨_, _, _, _, _, cLx, by decide, rfl, rfl, (fun _ => rfl), Or.inl w2_157, Or.inl rfl⟩
theorem fL_36 : z_fd "StandingsHallLaw" 36 8 8 (.array .boolean) true := ⟨_, _, _, _, _, cLx, by decide, rfl, rfl, (fun _ => rfl), Or.inl w2_158, Or.inl rfl⟩
theorem fL_39 : z_fd "StandingsHallLaw" 39 8 9 (.array .int) true := ⟨_, _, _, _, _, cLx, by decide, rfl, rfl, (fun _ => rfl), Or.inl w2_159, Or.inl rfl⟩
theorem fL_42 : z_fd "StandingsHallLaw" 42 8 10 (.array .int) true := ⟨_, _, _, _, _, cLx, by decide, rfl, rfl, (fun _ => rfl), Or.inl w2_160, Or.inl rfl⟩
theorem fL_45 : z_fd "StandingsHallLaw" 45 8 11 (.array .int) true := ⟨_, _, _, _, _, cLx, by decide, rfl, rfl, (fun _ => rfl), Or.inl w2_161, Or.inl rfl⟩
theorem fL_48 : z_fd "StandingsHallLaw" 48 8 12 (.array .int) true := ⟨_, _, _, _, _, cLx, by decide, rfl, rfl, (fun _ => rfl), Or.inl w2_162, Or.inl rfl⟩
theorem fL_51 : z_fd "StandingsHallLaw" 51 8 13 (.array .int) true := ⟨_, _, _, _, _, cLx, by decide, rfl, rfl, (fun _ => rfl), Or.inl w2_163, Or.inl rfl⟩
theorem fL_54 : z_fd "StandingsHallLaw" 54 8 17 .int false := ⟨_, _, _, _, _, cLx, by decide, rfl, rfl, (fun h => by cases h), Or.inl w2_167, Or.inl rfl⟩
theorem fL_58 : z_fd "StandingsHallLaw" 58 8 18 .int false := ⟨_, _, _, _, _, cLx, by decide, rfl, rfl, (fun h => by cases h), Or.inl w2_168, Or.inl rfl⟩
theorem fL_61 : z_fd "StandingsHallLaw" 61 8 20 (.array .int) true := ⟨_, _, _, _, _, cLx, by decide, rfl, rfl, (fun _ => rfl), Or.inl w2_170, Or.inl rfl⟩
theorem fL_64 : z_fd "StandingsHallLaw" 64 8 0 .int false := ⟨_, _, _, _, _, cLx, by decide, rfl, rfl, (fun h => by cases h), Or.inl w2_150, Or.inl rfl⟩
theorem fL_68 : z_fd "StandingsHallLaw" 68 8 14 .int false := ⟨_, _, _, _, _, cLx, by decide, rfl, rfl, (fun h => by cases h), Or.inl w2_164, Or.inl rfl⟩
theorem fL_75 : z_fd "StandingsHallLaw" 75 8 15 .int false := ⟨_, _, _, _, _, cLx, by decide, rfl, rfl, (fun h => by cases h), Or.inl w2_165, Or.inl rfl⟩
theorem fL_179 : z_fd "StandingsHallLaw" 179 8 16 .int false := ⟨_, _, _, _, _, cLx, by decide, rfl, rfl, (fun h => by cases h), Or.inl w2_166, Or.inl rfl⟩
theorem fL_227 : z_fd "StandingsHallLaw" 227 8 19 .int false := ⟨_, _, _, _, _, cLx, by decide, rfl, rfl, (fun h => by cases h), Or.inl w2_169, Or.inl rfl⟩
def mL_law : z_M := (yL_law, code, 6, some .boolean)
def mJx4a65c_init_da8c8 : z_M := (yJx4a65c_init_da8c8, cJx4a65c_init_da8c8, 1, none)
theorem tJx4a65c_init_da8c8 : z_mt mJx4a65c_init_da8c8 0 := ⟨w1_230, w1_7, ⟨by decide, by decide⟩, by decide +kernel, by decide⟩
theorem pJx4a65c_init_da8c8 : plainFor mJx4a65c_init_da8c8.1 = true := by decide +kernel
theorem iJx4a65c_init_da8c8 : (mJx4a65c_init_da8c8.1.name = "<init>" ∧ mJx4a65c_init_da8c8.2.2.2 = none) ∧ Cond.instanceMethod mJx4a65c_init_da8c8.1 ∈ lw_tbl := ⟨⟨rfl, rfl⟩, w1_229⟩
def mJxc12de_init_da8c8 : z_M := (yJxc12de_init_da8c8, cJxc12de_init_da8c8, 1, none)
theorem tJxc12de_init_da8c8 : z_mt mJxc12de_init_da8c8 0 := ⟨w1_233, w1_6, ⟨by decide, by decide⟩, by decide +kernel, by decide⟩
theorem pJxc12de_init_da8c8 : plainFor mJxc12de_init_da8c8.1 = true := by decide +kernel
theorem iJxc12de_init_da8c8 : (mJxc12de_init_da8c8.1.name = "<init>" ∧ mJxc12de_init_da8c8.2.2.2 = none) ∧ Cond.instanceMethod mJxc12de_init_da8c8.1 ∈ lw_tbl := ⟨⟨rfl, rfl⟩, w1_232⟩
def mJx4a65c_add_7a177 : z_M := (yJx4a65c_add_7a177, cJx4a65c_add_7a177, 5, none)
theorem tJx4a65c_add_7a177 : z_mt mJx4a65c_add_7a177 2 := ⟨w4_183, w1_7, ⟨by decide, by decide⟩, by decide +kernel, by decide⟩
theorem pJx4a65c_add_7a177 : plainFor mJx4a65c_add_7a177.1 = true := by decide +kernel
theorem vJx4a65c_add_7a177 : z_mv mJx4a65c_add_7a177 9 := ⟨w4_181, w4_182, ⟨(TJx4a65c, 3), rfl⟩⟩
def mJx4a65c_rangeCheckForAdd_d00df : z_M := (yJx4a65c_rangeCheckForAdd_d00df, cJx4a65c_rangeCheckForAdd_d00df, 2, none)
theorem tJx4a65c_rangeCheckForAdd_d00df : z_mt mJx4a65c_rangeCheckForAdd_d00df 1 := ⟨w4_187, w1_7, ⟨by decide, by decide⟩, by decide +kernel, by decide⟩
theorem pJx4a65c_rangeCheckForAdd_d00df : plainFor mJx4a65c_rangeCheckForAdd_d00df.1 = true := by decide +kernel
theorem vJx4a65c_rangeCheckForAdd_d00df : z_mv mJx4a65c_rangeCheckForAdd_d00df 9 := ⟨w4_186, wS40, ⟨(TJx4a65c, 3), rfl⟩⟩
def mJx4a65c_grow_d5877 : z_M := (yJx4a65c_grow_d5877, cJx4a65c_grow_d5877, 1, some (.array (.object "java/lang/Object")))
theorem tJx4a65c_grow_d5877 : z_mt mJx4a65c_grow_d5877 0 := ⟨w4_217, w1_7, ⟨by decide, by decide⟩, by decide +kernel, by decide⟩
theorem pJx4a65c_grow_d5877 : plainFor mJx4a65c_grow_d5877.1 = true := by decide +kernel
theorem vJx4a65c_grow_d5877 : z_mv mJx4a65c_grow_d5877 9 := ⟨w4_216, wS42, ⟨(TJx4a65c, 3), rfl⟩⟩
def mJx4a65c_add_9ea2d : z_M := (yJx4a65c_add_9ea2d, cJx4a65c_add_9ea2d, 2, some .boolean)
theorem tJx4a65c_add_9ea2d : z_mt mJx4a65c_add_9ea2d 1 := ⟨w5_236, w1_7, ⟨by decide, by decide⟩, by decide +kernel, by decide⟩
theorem pJx4a65c_add_9ea2d : plainFor mJx4a65c_add_9ea2d.1 = true := by decide +kernel
theorem vJx4a65c_add_9ea2d : z_mv mJx4a65c_add_9ea2d 9 := ⟨w5_234, w5_235, ⟨(TJx4a65c, 3), rfl⟩⟩
def mJx4a65c_add_72be8 : z_M := (yJx4a65c_add_72be8, cJx4a65c_add_72be8, 4, none)
theorem tJx4a65c_add_72be8 : z_mt mJx4a65c_add_72be8 3 := ⟨w6_0, w1_7, ⟨by decide, by decide⟩, by decide +kernel, by decide⟩
theorem pJx4a65c_add_72be8 : plainFor mJx4a65c_add_72be8.1 = true := by decide +kernel
theorem vJx4a65c_add_72be8 : z_mv mJx4a65c_add_72be8 9 := ⟨w5_239, wS75, ⟨(TJx4a65c, 3), rfl⟩⟩
def mJx4a65c_clear_da8c8 : z_M := (yJx4a65c_clear_da8c8, cJx4a65c_clear_da8c8, 4, none)
theorem tJx4a65c_clear_da8c8 : z_mt mJx4a65c_clear_da8c8 0 := ⟨w4_175, w1_7, ⟨by decide, by decide⟩, by decide +kernel, by decide⟩
theorem pJx4a65c_clear_da8c8 : plainFor mJx4a65c_clear_da8c8.1 = true := by decide +kernel
theorem vJx4a65c_clear_da8c8 : z_mv mJx4a65c_clear_da8c8 9 := ⟨w4_173, w4_174, ⟨(TJx4a65c, 3), rfl⟩⟩
def mJx4a65c_elementData_915e3 : z_M := (yJx4a65c_elementData_915e3, cJx4a65c_elementData_915e3, 2, some (.object "java/lang/Object"))
theorem tJx4a65c_elementData_915e3 : z_mt mJx4a65c_elementData_915e3 1 := ⟨w1_58, w1_7, ⟨by decide, by decide⟩, by decide +kernel, by decide⟩
theorem pJx4a65c_elementData_915e3 : plainFor mJx4a65c_elementData_915e3.1 = true := by decide +kernel
theorem vJx4a65c_elementData_915e3 : z_mv mJx4a65c_elementData_915e3 9 := ⟨w1_56, w1_57, ⟨(TJx4a65c, 3), rfl⟩⟩
def mJx4a65c_fastRemove_b59b0 : z_M := (yJx4a65c_fastRemove_b59b0, cJx4a65c_fastRemove_b59b0, 4, none)
theorem tJx4a65c_fastRemove_b59b0 : z_mt mJx4a65c_fastRemove_b59b0 2 := ⟨w5_160, w1_7, ⟨by decide, by decide⟩, by decide +kernel, by decide⟩
theorem pJx4a65c_fastRemove_b59b0 : plainFor mJx4a65c_fastRemove_b59b0.1 = true := by decide +kernel
theorem vJx4a65c_fastRemove_b59b0 : z_mv mJx4a65c_fastRemove_b59b0 9 := ⟨w5_159, wS64, ⟨(TJx4a65c, 3), rfl⟩⟩
def mJx4a65c_get_915e3 : z_M := (yJx4a65c_get_915e3, cJx4a65c_get_915e3, 2, some (.object "java/lang/Object"))
theorem tJx4a65c_get_915e3 : z_mt mJx4a65c_get_915e3 1 := ⟨w1_48, w1_7, ⟨by decide, by decide⟩, by decide +kernel, by decide⟩
theorem pJx4a65c_get_915e3 : plainFor mJx4a65c_get_915e3.1 = true := by decide +kernel
theorem vJx4a65c_get_915e3 : z_mv mJx4a65c_get_915e3 9 := ⟨w1_46, w1_47, ⟨(TJx4a65c, 3), rfl⟩⟩
def mJ15_checkIndex_7cf53 : z_M := (yJ15_checkIndex_7cf53, cJ15_checkIndex_7cf53, 2, some .int)
theorem tJ15_checkIndex_7cf53 : z_mt mJ15_checkIndex_7cf53 2 := ⟨w1_51, w1_21, ⟨by decide, by decide⟩, by decide +kernel, by decide⟩
theorem pJ15_checkIndex_7cf53 : plainFor mJ15_checkIndex_7cf53.1 = true := by decide +kernel
theorem sJ15_checkIndex_7cf53 : Cond.static mJ15_checkIndex_7cf53.1 ∈ lw_tbl := w1_50
def mJx4a65c_grow_92f84 : z_M := (yJx4a65c_grow_92f84, cJx4a65c_grow_92f84, 4, some (.array (.object "java/lang/Object")))
theorem tJx4a65c_grow_92f84 : z_mt mJx4a65c_grow_92f84 1 := ⟨w4_221, w1_7, ⟨by decide, by decide⟩, by decide +kernel, by decide⟩
theorem pJx4a65c_grow_92f84 : plainFor mJx4a65c_grow_92f84.1 = true := by decide +kernel
theorem vJx4a65c_grow_92f84 : z_mv mJx4a65c_grow_92f84 9 := ⟨w4_220, wS43, ⟨(TJx4a65c, 3), rfl⟩⟩
def mJ8_newLength_cabcc : z_M := (yJ8_newLength_cabcc, cJ8_newLength_cabcc, 4, some .int)
theorem tJ8_newLength_cabcc : z_mt mJ8_newLength_cabcc 3 := ⟨w3_43, w1_18, ⟨by decide, by decide⟩, by decide +kernel, by decide⟩
theorem pJ8_newLength_cabcc : plainFor mJ8_newLength_cabcc.1 = true := by decide +kernel
theorem sJ8_newLength_cabcc : Cond.static mJ8_newLength_cabcc.1 ∈ lw_tbl := w3_42
def mJ7_copyOf_1904c : z_M := (yJ7_copyOf_1904c, cJ7_copyOf_1904c, 2, some (.array (.object "java/lang/Object")))
theorem tJ7_copyOf_1904c : z_mt mJ7_copyOf_1904c 2 := ⟨w4_225, w1_12, ⟨by decide, by decide⟩, by decide +kernel, by decide⟩
theorem pJ7_copyOf_1904c : plainFor mJ7_copyOf_1904c.1 = true := by decide +kernel
theorem sJ7_copyOf_1904c : Cond.static mJ7_copyOf_1904c.1 ∈ lw_tbl := w4_224
def mJ9_max_7cf53 : z_M := (yJ9_max_7cf53, cJ9_max_7cf53, 2, some .int)
theorem tJ9_max_7cf53 : z_mt mJ9_max_7cf53 2 := ⟨w3_46, w1_19, ⟨by decide, by decide⟩, by decide +kernel, by decide⟩
theorem pJ9_max_7cf53 : plainFor mJ9_max_7cf53.1 = true := by decide +kernel
theorem sJ9_max_7cf53 : Cond.static mJ9_max_7cf53.1 ∈ lw_tbl := w3_45
def mJx4a65c_isEmpty_aae02 : z_M := (yJx4a65c_isEmpty_aae02, cJx4a65c_isEmpty_aae02, 1, some .boolean)
theorem tJx4a65c_isEmpty_aae02 : z_mt mJx4a65c_isEmpty_aae02 0 := ⟨w1_139, w1_7, ⟨by decide, by decide⟩, by decide +kernel, by decide⟩
theorem pJx4a65c_isEmpty_aae02 : plainFor mJx4a65c_isEmpty_aae02.1 = true := by decide +kernel
theorem vJx4a65c_isEmpty_aae02 : z_mv mJx4a65c_isEmpty_aae02 9 := ⟨w1_137, w1_138, ⟨(TJx4a65c, 3), rfl⟩⟩
def mJx4a65c_outOfBoundsMsg_b52d3 : z_M := (yJx4a65c_outOfBoundsMsg_b52d3, cJx4a65c_outOfBoundsMsg_b52d3, 2, some (.object "java/lang/String"))
theorem tJx4a65c_outOfBoundsMsg_b52d3 : z_mt mJx4a65c_outOfBoundsMsg_b52d3 1 := ⟨w4_200, w1_7, ⟨by decide, by decide⟩, by decide +kernel, by decide⟩
theorem pJx4a65c_outOfBoundsMsg_b52d3 : plainFor mJx4a65c_outOfBoundsMsg_b52d3.1 = true := by decide +kernel
theorem vJx4a65c_outOfBoundsMsg_b52d3 : z_mv mJx4a65c_outOfBoundsMsg_b52d3 9 := ⟨w4_199, wS41, ⟨(TJx4a65c, 3), rfl⟩⟩
def mJx4a65c_remove_915e3 : z_M := (yJx4a65c_remove_915e3, cJx4a65c_remove_915e3, 4, some (.object "java/lang/Object"))
theorem tJx4a65c_remove_915e3 : z_mt mJx4a65c_remove_915e3 1 := ⟨w5_156, w1_7, ⟨by decide, by decide⟩, by decide +kernel, by decide⟩
theorem pJx4a65c_remove_915e3 : plainFor mJx4a65c_remove_915e3.1 = true := by decide +kernel
theorem vJx4a65c_remove_915e3 : z_mv mJx4a65c_remove_915e3 9 := ⟨w5_154, w5_155, ⟨(TJx4a65c, 3), rfl⟩⟩
def mJx4a65c_set_bcc79 : z_M := (yJx4a65c_set_bcc79, cJx4a65c_set_bcc79, 4, some (.object "java/lang/Object"))
theorem tJx4a65c_set_bcc79 : z_mt mJx4a65c_set_bcc79 2 := ⟨w6_142, w1_7, ⟨by decide, by decide⟩, by decide +kernel, by decide⟩
theorem pJx4a65c_set_bcc79 : plainFor mJx4a65c_set_bcc79.1 = true := by decide +kernel
theorem vJx4a65c_set_bcc79 : z_mv mJx4a65c_set_bcc79 9 := ⟨w6_140, w6_141, ⟨(TJx4a65c, 3), rfl⟩⟩
def mJx4a65c_size_8abf5 : z_M := (yJx4a65c_size_8abf5, cJx4a65c_size_8abf5, 1, some .int)
theorem tJx4a65c_size_8abf5 : z_mt mJx4a65c_size_8abf5 0 := ⟨w1_44, w1_7, ⟨by decide, by decide⟩, by decide +kernel, by decide⟩
theorem pJx4a65c_size_8abf5 : plainFor mJx4a65c_size_8abf5.1 = true := by decide +kernel
theorem vJx4a65c_size_8abf5 : z_mv mJx4a65c_size_8abf5 9 := ⟨w1_42, w1_43, ⟨(TJx4a65c, 3), rfl⟩⟩
def mJxa1e45_init_da8c8 : z_M := (yJxa1e45_init_da8c8, cJxa1e45_init_da8c8, 1, none)
theorem tJxa1e45_init_da8c8 : z_mt mJxa1e45_init_da8c8 0 := ⟨w1_236, w1_5, ⟨by decide, by decide⟩, by decide +kernel, by decide⟩
theorem pJxa1e45_init_da8c8 : plainFor mJxa1e45_init_da8c8.1 = true := by decide +kernel
theorem iJxa1e45_init_da8c8 : (mJxa1e45_init_da8c8.1.name = "<init>" ∧ mJxa1e45_init_da8c8.2.2.2 = none) ∧ Cond.instanceMethod mJxa1e45_init_da8c8.1 ∈ lw_tbl := ⟨⟨rfl, rfl⟩, w1_235⟩
def mJ7_fill_53178 : z_M := (yJ7_fill_53178, cJ7_fill_53178, 4, none)
theorem tJ7_fill_53178 : z_mt mJ7_fill_53178 2 := ⟨w2_63, w1_12, ⟨by decide, by decide⟩, by decide +kernel, by decide⟩
theorem pJ7_fill_53178 : plainFor mJ7_fill_53178.1 = true := by decide +kernel
theorem sJ7_fill_53178 : Cond.static mJ7_fill_53178.1 ∈ lw_tbl := w2_62
def mJ7_copyOf_6403c : z_M := (yJ7_copyOf_6403c, cJ7_copyOf_6403c, 4, some (.array (.object "java/lang/Object")))
theorem tJ7_copyOf_6403c : z_mt mJ7_copyOf_6403c 3 := ⟨w5_8, w1_12, ⟨by decide, by decide⟩, by decide +kernel, by decide⟩
theorem pJ7_copyOf_6403c : plainFor mJ7_copyOf_6403c.1 = true := by decide +kernel
theorem sJ7_copyOf_6403c : Cond.static mJ7_copyOf_6403c.1 ∈ lw_tbl := w5_7
def mJ9_min_7cf53 : z_M := (yJ9_min_7cf53, cJ9_min_7cf53, 2, some .int)
theorem tJ9_min_7cf53 : z_mt mJ9_min_7cf53 2 := ⟨w3_64, w1_19, ⟨by decide, by decide⟩, by decide +kernel, by decide⟩
theorem pJ9_min_7cf53 : plainFor mJ9_min_7cf53.1 = true := by decide +kernel
theorem sJ9_min_7cf53 : Cond.static mJ9_min_7cf53.1 ∈ lw_tbl := w3_63
def mJ9_floorMod_7cf53 : z_M := (yJ9_floorMod_7cf53, cJ9_floorMod_7cf53, 3, some .int)
theorem tJ9_floorMod_7cf53 : z_mt mJ9_floorMod_7cf53 2 := ⟨w6_149, w1_19, ⟨by decide, by decide⟩, by decide +kernel, by decide⟩
theorem pJ9_floorMod_7cf53 : plainFor mJ9_floorMod_7cf53.1 = true := by decide +kernel
theorem sJ9_floorMod_7cf53 : Cond.static mJ9_floorMod_7cf53.1 ∈ lw_tbl := w6_148
def mJ3_checkIndex_8e157 : z_M := (yJ3_checkIndex_8e157, cJ3_checkIndex_8e157, 3, some .int)
theorem tJ3_checkIndex_8e157 : z_mt mJ3_checkIndex_8e157 3 := ⟨w1_54, w1_22, ⟨by decide, by decide⟩, by decide +kernel, by decide⟩
theorem pJ3_checkIndex_8e157 : plainFor mJ3_checkIndex_8e157.1 = true := by decide +kernel
theorem sJ3_checkIndex_8e157 : Cond.static mJ3_checkIndex_8e157.1 ∈ lw_tbl := w1_53
def mJ8_hugeLength_7cf53 : z_M := (yJ8_hugeLength_7cf53, cJ8_hugeLength_7cf53, 3, some .int)
theorem tJ8_hugeLength_7cf53 : z_mt mJ8_hugeLength_7cf53 2 := ⟨w3_50, w1_18, ⟨by decide, by decide⟩, by decide +kernel, by decide⟩
theorem pJ8_hugeLength_7cf53 : plainFor mJ8_hugeLength_7cf53.1 = true := by decide +kernel
theorem sJ8_hugeLength_7cf53 : Cond.static mJ8_hugeLength_7cf53.1 ∈ lw_tbl := w3_49
def mX0_init : z_M := (yX0_init, cX0_init, 3, none)
theorem tX0_init : z_mt mX0_init 2 := ⟨w2_59, w1_11, ⟨by decide, by decide⟩, by decide +kernel, by decide⟩
theorem pX0_init : plainFor mX0_init.1 = true := by decide +kernel
theorem iX0_init : (mX0_init.1.name = "<init>" ∧ mX0_init.2.2.2 = none) ∧ Cond.instanceMethod mX0_init.1 ∈ lw_tbl := ⟨⟨rfl, rfl⟩, w2_58⟩
def mX0_points : z_M := (yX0_points, cX0_points, 1, some .int)
theorem tX0_points : z_mt mX0_points 0 := ⟨w1_64, w1_11, ⟨by decide, by decide⟩, by decide +kernel, by decide⟩
theorem pX0_points : plainFor mX0_points.1 = true := by decide +kernel
theorem vX0_points : z_mv mX0_points 0 := ⟨w1_62, wS1, ⟨(TX0, 11), rfl⟩⟩
def mX0_scoreIn : z_M := (yX0_scoreIn, cX0_scoreIn, 2, some .int)
theorem tX0_scoreIn : z_mt mX0_scoreIn 1 := ⟨w1_72, w1_11, ⟨by decide, by decide⟩, by decide +kernel, by decide⟩
theorem pX0_scoreIn : plainFor mX0_scoreIn.1 = true := by decide +kernel
theorem vX0_scoreIn : z_mv mX0_scoreIn 0 := ⟨w1_71, wS3, ⟨(TX0, 11), rfl⟩⟩
def mX0_putScore : z_M := (yX0_putScore, cX0_putScore, 3, none)
theorem tX0_putScore : z_mt mX0_putScore 2 := ⟨w1_76, w1_11, ⟨by decide, by decide⟩, by decide +kernel, by decide⟩
theorem pX0_putScore : plainFor mX0_putScore.1 = true := by decide +kernel
theorem vX0_putScore : z_mv mX0_putScore 0 := ⟨w1_75, wS4, ⟨(TX0, 11), rfl⟩⟩
def mX0_isBetterThan : z_M := (yX0_isBetterThan, cX0_isBetterThan, 3, some .boolean)
theorem tX0_isBetterThan : z_mt mX0_isBetterThan 1 := ⟨w1_106, w1_11, ⟨by decide, by decide⟩, by decide +kernel, by decide⟩
theorem pX0_isBetterThan : plainFor mX0_isBetterThan.1 = true := by decide +kernel
theorem vX0_isBetterThan : z_mv mX0_isBetterThan 0 := ⟨w1_105, wS10, ⟨(TX0, 11), rfl⟩⟩
def mX0_isAlikeWith : z_M := (yX0_isAlikeWith, cX0_isAlikeWith, 2, some .boolean)
theorem tX0_isAlikeWith : z_mt mX0_isAlikeWith 1 := ⟨w5_63, w1_11, ⟨by decide, by decide⟩, by decide +kernel, by decide⟩
theorem pX0_isAlikeWith : plainFor mX0_isAlikeWith.1 = true := by decide +kernel
theorem vX0_isAlikeWith : z_mv mX0_isAlikeWith 0 := ⟨w5_62, wS52, ⟨(TX0, 11), rfl⟩⟩
def mX0_isAheadOf : z_M := (yX0_isAheadOf, cX0_isAheadOf, 2, some .boolean)
theorem tX0_isAheadOf : z_mt mX0_isAheadOf 1 := ⟨w1_102, w1_11, ⟨by decide, by decide⟩, by decide +kernel, by decide⟩
theorem pX0_isAheadOf : plainFor mX0_isAheadOf.1 = true := by decide +kernel
theorem vX0_isAheadOf : z_mv mX0_isAheadOf 0 := ⟨w1_101, wS9, ⟨(TX0, 11), rfl⟩⟩
def mX0_keepRound : z_M := (yX0_keepRound, cX0_keepRound, 2, none)
theorem tX0_keepRound : z_mt mX0_keepRound 1 := ⟨w6_146, w1_11, ⟨by decide, by decide⟩, by decide +kernel, by decide⟩
theorem pX0_keepRound : plainFor mX0_keepRound.1 = true := by decide +kernel
theorem vX0_keepRound : z_mv mX0_keepRound 0 := ⟨w6_145, wS85, ⟨(TX0, 11), rfl⟩⟩
def mX0_gainIn : z_M := (yX0_gainIn, cX0_gainIn, 2, some .int)
theorem tX0_gainIn : z_mt mX0_gainIn 1 := ⟨w6_174, w1_11, ⟨by decide, by decide⟩, by decide +kernel, by decide⟩
theorem pX0_gainIn : plainFor mX0_gainIn.1 = true := by decide +kernel
theorem vX0_gainIn : z_mv mX0_gainIn 0 := ⟨w6_173, wS89, ⟨(TX0, 11), rfl⟩⟩
def mX0_placeIn : z_M := (yX0_placeIn, cX0_placeIn, 2, some .int)
theorem tX0_placeIn : z_mt mX0_placeIn 1 := ⟨w6_212, w1_11, ⟨by decide, by decide⟩, by decide +kernel, by decide⟩
theorem pX0_placeIn : plainFor mX0_placeIn.1 = true := by decide +kernel
theorem vX0_placeIn : z_mv mX0_placeIn 0 := ⟨w6_211, wS96, ⟨(TX0, 11), rfl⟩⟩
def mX1_init : z_M := (yX1_init, cX1_init, 1, none)
theorem tX1_init : z_mt mX1_init 0 := ⟨w2_40, w1_10, ⟨by decide, by decide⟩, by decide +kernel, by decide⟩
theorem pX1_init : plainFor mX1_init.1 = true := by decide +kernel
theorem iX1_init : (mX1_init.1.name = "<init>" ∧ mX1_init.2.2.2 = none) ∧ Cond.instanceMethod mX1_init.1 ∈ lw_tbl := ⟨⟨rfl, rfl⟩, w2_39⟩
def mX1_put : z_M := (yX1_put, cX1_put, 3, none)
theorem tX1_put : z_mt mX1_put 2 := ⟨w6_92, w1_10, ⟨by decide, by decide⟩, by decide +kernel, by decide⟩
theorem pX1_put : plainFor mX1_put.1 = true := by decide +kernel
theorem vX1_put : z_mv mX1_put 1 := ⟨w6_91, wS80, ⟨(TX1, 3), rfl⟩⟩
def mX1_take : z_M := (yX1_take, cX1_take, 3, none)
theorem tX1_take : z_mt mX1_take 1 := ⟨w5_211, w1_10, ⟨by decide, by decide⟩, by decide +kernel, by decide⟩
theorem pX1_take : plainFor mX1_take.1 = true := by decide +kernel
theorem vX1_take : z_mv mX1_take 1 := ⟨w5_210, wS71, ⟨(TX1, 3), rfl⟩⟩
def mX1_placeIn : z_M := (yX1_placeIn, cX1_placeIn, 3, some .int)
theorem tX1_placeIn : z_mt mX1_placeIn 1 := ⟨w5_215, w1_10, ⟨by decide, by decide⟩, by decide +kernel, by decide⟩
theorem pX1_placeIn : plainFor mX1_placeIn.1 = true := by decide +kernel
theorem vX1_placeIn : z_mv mX1_placeIn 1 := ⟨w5_214, wS72, ⟨(TX1, 3), rfl⟩⟩
def mX1_raise : z_M := (yX1_raise, cX1_raise, 4, none)
theorem tX1_raise : z_mt mX1_raise 2 := ⟨w6_111, w1_10, ⟨by decide, by decide⟩, by decide +kernel, by decide⟩
theorem pX1_raise : plainFor mX1_raise.1 = true := by decide +kernel
theorem vX1_raise : z_mv mX1_raise 1 := ⟨w6_110, wS81, ⟨(TX1, 3), rfl⟩⟩
def mX1_letFall : z_M := (yX1_letFall, cX1_letFall, 5, none)
theorem tX1_letFall : z_mt mX1_letFall 1 := ⟨w6_138, w1_10, ⟨by decide, by decide⟩, by decide +kernel, by decide⟩
theorem pX1_letFall : plainFor mX1_letFall.1 = true := by decide +kernel
theorem vX1_letFall : z_mv mX1_letFall 1 := ⟨w6_137, wS84, ⟨(TX1, 3), rfl⟩⟩
def mX2_init : z_M := (yX2_init, cX2_init, 1, none)
theorem tX2_init : z_mt mX2_init 0 := ⟨w1_205, w1_4, ⟨by decide, by decide⟩, by decide +kernel, by decide⟩
theorem pX2_init : plainFor mX2_init.1 = true := by decide +kernel
theorem iX2_init : (mX2_init.1.name = "<init>" ∧ mX2_init.2.2.2 = none) ∧ Cond.instanceMethod mX2_init.1 ∈ lw_tbl := ⟨⟨rfl, rfl⟩, w1_204⟩
def mX2_empty : z_M := (yX2_empty, cX2_empty, 1, none)
theorem tX2_empty : z_mt mX2_empty 0 := ⟨w4_112, w1_4, ⟨by decide, by decide⟩, by decide +kernel, by decide⟩
theorem pX2_empty : plainFor mX2_empty.1 = true := by decide +kernel
theorem vX2_empty : z_mv mX2_empty 2 := ⟨w4_111, wS28, ⟨(TX2, 3), rfl⟩⟩
def mX2_begin : z_M := (yX2_begin, cX2_begin, 3, none)
theorem tX2_begin : z_mt mX2_begin 2 := ⟨w1_221, w1_4, ⟨by decide, by decide⟩, by decide +kernel, by decide⟩
theorem pX2_begin : plainFor mX2_begin.1 = true := by decide +kernel
theorem vX2_begin : z_mv mX2_begin 2 := ⟨w1_220, wS19, ⟨(TX2, 3), rfl⟩⟩
def mX2_isCriterion : z_M := (yX2_isCriterion, cX2_isCriterion, 2, some .boolean)
theorem tX2_isCriterion : z_mt mX2_isCriterion 1 := ⟨w1_89, w1_4, ⟨by decide, by decide⟩, by decide +kernel, by decide⟩
theorem pX2_isCriterion : plainFor mX2_isCriterion.1 = true := by decide +kernel
theorem vX2_isCriterion : z_mv mX2_isCriterion 2 := ⟨w1_88, wS7, ⟨(TX2, 3), rfl⟩⟩
def mX2_addTerm : z_M := (yX2_addTerm, cX2_addTerm, 4, none)
theorem tX2_addTerm : z_mt mX2_addTerm 3 := ⟨w1_225, w1_4, ⟨by decide, by decide⟩, by decide +kernel, by decide⟩
theorem pX2_addTerm : plainFor mX2_addTerm.1 = true := by decide +kernel
theorem vX2_addTerm : z_mv mX2_addTerm 2 := ⟨w1_224, wS20, ⟨(TX2, 3), rfl⟩⟩
def mX2_valueFor : z_M := (yX2_valueFor, cX2_valueFor, 5, some .int)
theorem tX2_valueFor : z_mt mX2_valueFor 2 := ⟨w1_85, w1_4, ⟨by decide, by decide⟩, by decide +kernel, by decide⟩
theorem pX2_valueFor : plainFor mX2_valueFor.1 = true := by decide +kernel
theorem vX2_valueFor : z_mv mX2_valueFor 2 := ⟨w1_84, wS6, ⟨(TX2, 3), rfl⟩⟩
def mX2_judge : z_M := (yX2_judge, cX2_judge, 3, none)
theorem tX2_judge : z_mt mX2_judge 1 := ⟨w1_81, w1_4, ⟨by decide, by decide⟩, by decide +kernel, by decide⟩
theorem pX2_judge : plainFor mX2_judge.1 = true := by decide +kernel
theorem vX2_judge : z_mv mX2_judge 2 := ⟨w1_79, wS5, ⟨(TX2, 3), rfl⟩⟩
def mX3_init : z_M := (yX3_init, cX3_init, 2, none)
theorem tX3_init : z_mt mX3_init 1 := ⟨w1_180, w1_3, ⟨by decide, by decide⟩, by decide +kernel, by decide⟩
theorem pX3_init : plainFor mX3_init.1 = true := by decide +kernel
theorem iX3_init : (mX3_init.1.name = "<init>" ∧ mX3_init.2.2.2 = none) ∧ Cond.instanceMethod mX3_init.1 ∈ lw_tbl := ⟨⟨rfl, rfl⟩, w1_179⟩
def mX3_readOrder : z_M := (yX3_readOrder, cX3_readOrder, 3, some .boolean)
theorem tX3_readOrder : z_mt mX3_readOrder 1 := ⟨w4_108, w1_3, ⟨by decide, by decide⟩, by decide +kernel, by decide⟩
theorem pX3_readOrder : plainFor mX3_readOrder.1 = true := by decide +kernel
theorem vX3_readOrder : z_mv mX3_readOrder 3 := ⟨w4_107, wS27, ⟨(TX3, 6), rfl⟩⟩
def mX3_readToken : z_M := (yX3_readToken, cX3_readToken, 2, none)
theorem tX3_readToken : z_mt mX3_readToken 0 := ⟨w4_117, w1_3, ⟨by decide, by decide⟩, by decide +kernel, by decide⟩
theorem pX3_readToken : plainFor mX3_readToken.1 = true := by decide +kernel
theorem vX3_readToken : z_mv mX3_readToken 3 := ⟨w4_116, wS29, ⟨(TX3, 6), rfl⟩⟩
def mX3_readCriterion : z_M := (yX3_readCriterion, cX3_readCriterion, 5, some .boolean)
theorem tX3_readCriterion : z_mt mX3_readCriterion 2 := ⟨w4_145, w1_3, ⟨by decide, by decide⟩, by decide +kernel, by decide⟩
theorem pX3_readCriterion : plainFor mX3_readCriterion.1 = true := by decide +kernel
theorem vX3_readCriterion : z_mv mX3_readCriterion 3 := ⟨w4_144, wS36, ⟨(TX3, 6), rfl⟩⟩
def mX3_readTerm : z_M := (yX3_readTerm, cX3_readTerm, 5, some .boolean)
theorem tX3_readTerm : z_mt mX3_readTerm 3 := ⟨w4_150, w1_3, ⟨by decide, by decide⟩, by decide +kernel, by decide⟩
theorem pX3_readTerm : plainFor mX3_readTerm.1 = true := by decide +kernel
theorem vX3_readTerm : z_mv mX3_readTerm 3 := ⟨w4_149, wS37, ⟨(TX3, 6), rfl⟩⟩
def mX6_byteAt : z_M := (yX6_byteAt, cX6_byteAt, 2, some .int)
theorem tX6_byteAt : z_mt mX6_byteAt 1 := ⟨w4_121, w1_2, ⟨by decide, by decide⟩, by decide +kernel, by decide⟩
theorem pX6_byteAt : plainFor mX6_byteAt.1 = true := by decide +kernel
theorem vX6_byteAt : z_mv mX6_byteAt 6 := ⟨w4_120, wS30, ⟨(TX6, 2), rfl⟩⟩
def mX3_isBlank : z_M := (yX3_isBlank, cX3_isBlank, 2, some .boolean)
theorem tX3_isBlank : z_mt mX3_isBlank 1 := ⟨w4_125, w1_3, ⟨by decide, by decide⟩, by decide +kernel, by decide⟩
theorem pX3_isBlank : plainFor mX3_isBlank.1 = true := by decide +kernel
theorem vX3_isBlank : z_mv mX3_isBlank 3 := ⟨w4_124, wS31, ⟨(TX3, 6), rfl⟩⟩
def mX3_isDigit : z_M := (yX3_isDigit, cX3_isDigit, 2, some .boolean)
theorem tX3_isDigit : z_mt mX3_isDigit 1 := ⟨w4_129, w1_3, ⟨by decide, by decide⟩, by decide +kernel, by decide⟩
theorem pX3_isDigit : plainFor mX3_isDigit.1 = true := by decide +kernel
theorem vX3_isDigit : z_mv mX3_isDigit 3 := ⟨w4_128, wS32, ⟨(TX3, 6), rfl⟩⟩
def mX3_readDigits : z_M := (yX3_readDigits, cX3_readDigits, 2, none)
theorem tX3_readDigits : z_mt mX3_readDigits 0 := ⟨w4_133, w1_3, ⟨by decide, by decide⟩, by decide +kernel, by decide⟩
theorem pX3_readDigits : plainFor mX3_readDigits.1 = true := by decide +kernel
theorem vX3_readDigits : z_mv mX3_readDigits 3 := ⟨w4_132, wS33, ⟨(TX3, 6), rfl⟩⟩
def mX3_readSign : z_M := (yX3_readSign, cX3_readSign, 2, none)
theorem tX3_readSign : z_mt mX3_readSign 1 := ⟨w4_137, w1_3, ⟨by decide, by decide⟩, by decide +kernel, by decide⟩
theorem pX3_readSign : plainFor mX3_readSign.1 = true := by decide +kernel
theorem vX3_readSign : z_mv mX3_readSign 3 := ⟨w4_136, wS34, ⟨(TX3, 6), rfl⟩⟩
def mX3_isSign : z_M := (yX3_isSign, cX3_isSign, 2, some .boolean)
theorem tX3_isSign : z_mt mX3_isSign 1 := ⟨w4_141, w1_3, ⟨by decide, by decide⟩, by decide +kernel, by decide⟩
theorem pX3_isSign : plainFor mX3_isSign.1 = true := by decide +kernel
theorem vX3_isSign : z_mv mX3_isSign 3 := ⟨w4_140, wS35, ⟨(TX3, 6), rfl⟩⟩
def mX4_init : z_M := (yX4_init, cX4_init, 1, none)
theorem tX4_init : z_mt mX4_init 0 := ⟨w2_27, w1_9, ⟨by decide, by decide⟩, by decide +kernel, by decide⟩
theorem pX4_init : plainFor mX4_init.1 = true := by decide +kernel
theorem iX4_init : (mX4_init.1.name = "<init>" ∧ mX4_init.2.2.2 = none) ∧ Cond.instanceMethod mX4_init.1 ∈ lw_tbl := ⟨⟨rfl, rfl⟩, w2_26⟩
def mX4_put : z_M := (yX4_put, cX4_put, 2, none)
theorem tX4_put : z_mt mX4_put 1 := ⟨w5_169, w1_9, ⟨by decide, by decide⟩, by decide +kernel, by decide⟩
theorem pX4_put : plainFor mX4_put.1 = true := by decide +kernel
theorem vX4_put : z_mv mX4_put 4 := ⟨w5_168, wS66, ⟨(TX4, 1), rfl⟩⟩
def mX4_countUpTo : z_M := (yX4_countUpTo, cX4_countUpTo, 4, some .int)
theorem tX4_countUpTo : z_mt mX4_countUpTo 1 := ⟨w1_123, w1_9, ⟨by decide, by decide⟩, by decide +kernel, by decide⟩
theorem pX4_countUpTo : plainFor mX4_countUpTo.1 = true := by decide +kernel
theorem vX4_countUpTo : z_mv mX4_countUpTo 4 := ⟨w1_121, wS14, ⟨(TX4, 1), rfl⟩⟩
def mX4_take : z_M := (yX4_take, cX4_take, 3, none)
theorem tX4_take : z_mt mX4_take 1 := ⟨w5_164, w1_9, ⟨by decide, by decide⟩, by decide +kernel, by decide⟩
theorem pX4_take : plainFor mX4_take.1 = true := by decide +kernel
theorem vX4_take : z_mv mX4_take 4 := ⟨w5_163, wS65, ⟨(TX4, 1), rfl⟩⟩
def mX4_countBelow : z_M := (yX4_countBelow, cX4_countBelow, 4, some .int)
theorem tX4_countBelow : z_mt mX4_countBelow 1 := ⟨w1_131, w1_9, ⟨by decide, by decide⟩, by decide +kernel, by decide⟩
theorem pX4_countBelow : plainFor mX4_countBelow.1 = true := by decide +kernel
theorem vX4_countBelow : z_mv mX4_countBelow 4 := ⟨w1_130, wS15, ⟨(TX4, 1), rfl⟩⟩
def mX4_pointsAt : z_M := (yX4_pointsAt, cX4_pointsAt, 2, some .int)
theorem tX4_pointsAt : z_mt mX4_pointsAt 1 := ⟨w1_147, w1_9, ⟨by decide, by decide⟩, by decide +kernel, by decide⟩
theorem pX4_pointsAt : plainFor mX4_pointsAt.1 = true := by decide +kernel
theorem vX4_pointsAt : z_mv mX4_pointsAt 4 := ⟨w1_146, wS18, ⟨(TX4, 1), rfl⟩⟩
def mX5_init : z_M := (yX5_init, cX5_init, 1, none)
theorem tX5_init : z_mt mX5_init 0 := ⟨w2_15, w1_8, ⟨by decide, by decide⟩, by decide +kernel, by decide⟩
theorem pX5_init : plainFor mX5_init.1 = true := by decide +kernel
theorem iX5_init : (mX5_init.1.name = "<init>" ∧ mX5_init.2.2.2 = none) ∧ Cond.instanceMethod mX5_init.1 ∈ lw_tbl := ⟨⟨rfl, rfl⟩, w2_14⟩
def mX5_put : z_M := (yX5_put, cX5_put, 4, none)
theorem tX5_put : z_mt mX5_put 1 := ⟨w4_179, w1_8, ⟨by decide, by decide⟩, by decide +kernel, by decide⟩
theorem pX5_put : plainFor mX5_put.1 = true := by decide +kernel
theorem vX5_put : z_mv mX5_put 5 := ⟨w4_178, wS39, ⟨(TX5, 1), rfl⟩⟩
def mX5_numberPlaces : z_M := (yX5_numberPlaces, cX5_numberPlaces, 2, none)
theorem tX5_numberPlaces : z_mt mX5_numberPlaces 0 := ⟨w5_18, w1_8, ⟨by decide, by decide⟩, by decide +kernel, by decide⟩
theorem pX5_numberPlaces : plainFor mX5_numberPlaces.1 = true := by decide +kernel
theorem vX5_numberPlaces : z_mv mX5_numberPlaces 5 := ⟨w5_17, wS44, ⟨(TX5, 1), rfl⟩⟩
def mX5_take : z_M := (yX5_take, cX5_take, 3, none)
theorem tX5_take : z_mt mX5_take 1 := ⟨w5_152, w1_8, ⟨by decide, by decide⟩, by decide +kernel, by decide⟩
theorem pX5_take : plainFor mX5_take.1 = true := by decide +kernel
theorem vX5_take : z_mv mX5_take 5 := ⟨w5_151, wS63, ⟨(TX5, 1), rfl⟩⟩
def mX5_sharedRank : z_M := (yX5_sharedRank, cX5_sharedRank, 5, some .int)
theorem tX5_sharedRank : z_mt mX5_sharedRank 1 := ⟨w5_54, w1_8, ⟨by decide, by decide⟩, by decide +kernel, by decide⟩
theorem pX5_sharedRank : plainFor mX5_sharedRank.1 = true := by decide +kernel
theorem vX5_sharedRank : z_mv mX5_sharedRank 5 := ⟨w5_53, wS50, ⟨(TX5, 1), rfl⟩⟩
def mX5_countAhead : z_M := (yX5_countAhead, cX5_countAhead, 5, some .int)
theorem tX5_countAhead : z_mt mX5_countAhead 1 := ⟨w1_95, w1_8, ⟨by decide, by decide⟩, by decide +kernel, by decide⟩
theorem pX5_countAhead : plainFor mX5_countAhead.1 = true := by decide +kernel
theorem vX5_countAhead : z_mv mX5_countAhead 5 := ⟨w1_93, wS8, ⟨(TX5, 1), rfl⟩⟩
def mX5_denseRank : z_M := (yX5_denseRank, cX5_denseRank, 4, some .int)
theorem tX5_denseRank : z_mt mX5_denseRank 1 := ⟨w5_100, w1_8, ⟨by decide, by decide⟩, by decide +kernel, by decide⟩
theorem pX5_denseRank : plainFor mX5_denseRank.1 = true := by decide +kernel
theorem vX5_denseRank : z_mv mX5_denseRank 5 := ⟨w5_99, wS54, ⟨(TX5, 1), rfl⟩⟩
def mX5_beginsResult : z_M := (yX5_beginsResult, cX5_beginsResult, 2, some .boolean)
theorem tX5_beginsResult : z_mt mX5_beginsResult 1 := ⟨w5_104, w1_8, ⟨by decide, by decide⟩, by decide +kernel, by decide⟩
theorem pX5_beginsResult : plainFor mX5_beginsResult.1 = true := by decide +kernel
theorem vX5_beginsResult : z_mv mX5_beginsResult 5 := ⟨w5_103, wS55, ⟨(TX5, 1), rfl⟩⟩
def mX5_twiceMeanRank : z_M := (yX5_twiceMeanRank, cX5_twiceMeanRank, 2, some .int)
theorem tX5_twiceMeanRank : z_mt mX5_twiceMeanRank 1 := ⟨w5_50, w1_8, ⟨by decide, by decide⟩, by decide +kernel, by decide⟩
theorem pX5_twiceMeanRank : plainFor mX5_twiceMeanRank.1 = true := by decide +kernel
theorem vX5_twiceMeanRank : z_mv mX5_twiceMeanRank 5 := ⟨w5_49, wS49, ⟨(TX5, 1), rfl⟩⟩
def mX5_countAlike : z_M := (yX5_countAlike, cX5_countAlike, 4, some .int)
theorem tX5_countAlike : z_mt mX5_countAlike 1 := ⟨w5_59, w1_8, ⟨by decide, by decide⟩, by decide +kernel, by decide⟩
theorem pX5_countAlike : plainFor mX5_countAlike.1 = true := by decide +kernel
theorem vX5_countAlike : z_mv mX5_countAlike 5 := ⟨w5_58, wS51, ⟨(TX5, 1), rfl⟩⟩
def mX5_countResults : z_M := (yX5_countResults, cX5_countResults, 3, some .int)
theorem tX5_countResults : z_mt mX5_countResults 0 := ⟨w5_112, w1_8, ⟨by decide, by decide⟩, by decide +kernel, by decide⟩
theorem pX5_countResults : plainFor mX5_countResults.1 = true := by decide +kernel
theorem vX5_countResults : z_mv mX5_countResults 5 := ⟨w5_111, wS56, ⟨(TX5, 1), rfl⟩⟩
def mX5_firstPlaceOf : z_M := (yX5_firstPlaceOf, cX5_firstPlaceOf, 3, some .int)
theorem tX5_firstPlaceOf : z_mt mX5_firstPlaceOf 1 := ⟨w7_18, w1_8, ⟨by decide, by decide⟩, by decide +kernel, by decide⟩
theorem pX5_firstPlaceOf : plainFor mX5_firstPlaceOf.1 = true := by decide +kernel
theorem vX5_firstPlaceOf : z_mv mX5_firstPlaceOf 5 := ⟨w7_17, wS103, ⟨(TX5, 1), rfl⟩⟩
def mX5_countOf : z_M := (yX5_countOf, cX5_countOf, 4, some .int)
theorem tX5_countOf : z_mt mX5_countOf 1 := ⟨w7_34, w1_8, ⟨by decide, by decide⟩, by decide +kernel, by decide⟩
theorem pX5_countOf : plainFor mX5_countOf.1 = true := by decide +kernel
theorem vX5_countOf : z_mv mX5_countOf 5 := ⟨w7_33, wS104, ⟨(TX5, 1), rfl⟩⟩
def mX5_teamSum : z_M := (yX5_teamSum, cX5_teamSum, 5, some .int)
theorem tX5_teamSum : z_mt mX5_teamSum 1 := ⟨w7_10, w1_8, ⟨by decide, by decide⟩, by decide +kernel, by decide⟩
theorem pX5_teamSum : plainFor mX5_teamSum.1 = true := by decide +kernel
theorem vX5_teamSum : z_mv mX5_teamSum 5 := ⟨w7_9, wS101, ⟨(TX5, 1), rfl⟩⟩
def mX6_init : z_M := (yX6_init, cX6_init, 1, none)
theorem tX6_init : z_mt mX6_init 0 := ⟨w1_165, w1_2, ⟨by decide, by decide⟩, by decide +kernel, by decide⟩
theorem pX6_init : plainFor mX6_init.1 = true := by decide +kernel
theorem iX6_init : (mX6_init.1.name = "<init>" ∧ mX6_init.2.2.2 = none) ∧ Cond.instanceMethod mX6_init.1 ∈ lw_tbl := ⟨⟨rfl, rfl⟩, w1_164⟩
def mX6_bytesIn : z_M := (yX6_bytesIn, cX6_bytesIn, 4, some .int)
theorem tX6_bytesIn : z_mt mX6_bytesIn 1 := ⟨w4_28, w1_2, ⟨by decide, by decide⟩, by decide +kernel, by decide⟩
theorem pX6_bytesIn : plainFor mX6_bytesIn.1 = true := by decide +kernel
theorem vX6_bytesIn : z_mv mX6_bytesIn 6 := ⟨w4_27, wS24, ⟨(TX6, 2), rfl⟩⟩
def mX6_addWord : z_M := (yX6_addWord, cX6_addWord, 4, none)
theorem tX6_addWord : z_mt mX6_addWord 1 := ⟨w4_100, w1_2, ⟨by decide, by decide⟩, by decide +kernel, by decide⟩
theorem pX6_addWord : plainFor mX6_addWord.1 = true := by decide +kernel
theorem vX6_addWord : z_mv mX6_addWord 6 := ⟨w4_99, wS26, ⟨(TX6, 2), rfl⟩⟩
def mX7_init : z_M := (yX7_init, cX7_init, 1, none)
theorem tX7_init : z_mt mX7_init 0 := ⟨w1_159, w1_1, ⟨by decide, by decide⟩, by decide +kernel, by decide⟩
theorem pX7_init : plainFor mX7_init.1 = true := by decide +kernel
theorem iX7_init : (mX7_init.1.name = "<init>" ∧ mX7_init.2.2.2 = none) ∧ Cond.instanceMethod mX7_init.1 ∈ lw_tbl := ⟨⟨rfl, rfl⟩, w1_158⟩
def mX7_append : z_M := (yX7_append, cX7_append, 7, some .int)
theorem tX7_append : z_mt mX7_append 5 := ⟨w4_24, w1_1, ⟨by decide, by decide⟩, by decide +kernel, by decide⟩
theorem pX7_append : plainFor mX7_append.1 = true := by decide +kernel
theorem vX7_append : z_mv mX7_append 7 := ⟨w4_22, w4_23, ⟨(TX7, 13), rfl⟩⟩
def mX7_setOrder : z_M := (yX7_setOrder, cX7_setOrder, 2, some .int)
theorem tX7_setOrder : z_mt mX7_setOrder 0 := ⟨w4_104, w1_1, ⟨by decide, by decide⟩, by decide +kernel, by decide⟩
theorem pX7_setOrder : plainFor mX7_setOrder.1 = true := by decide +kernel
theorem vX7_setOrder : z_mv mX7_setOrder 7 := ⟨w4_102, w4_103, ⟨(TX7, 13), rfl⟩⟩
def mX7_makeStandingAnew : z_M := (yX7_makeStandingAnew, cX7_makeStandingAnew, 3, none)
theorem tX7_makeStandingAnew : z_mt mX7_makeStandingAnew 0 := ⟨w4_171, w1_1, ⟨by decide, by decide⟩, by decide +kernel, by decide⟩
theorem pX7_makeStandingAnew : plainFor mX7_makeStandingAnew.1 = true := by decide +kernel
theorem vX7_makeStandingAnew : z_mv mX7_makeStandingAnew 7 := ⟨w4_170, wS38, ⟨(TX7, 13), rfl⟩⟩
def mX7_errorPosition : z_M := (yX7_errorPosition, cX7_errorPosition, 1, some .int)
theorem tX7_errorPosition : z_mt mX7_errorPosition 0 := ⟨w5_22, w1_1, ⟨by decide, by decide⟩, by decide +kernel, by decide⟩
theorem pX7_errorPosition : plainFor mX7_errorPosition.1 = true := by decide +kernel
theorem vX7_errorPosition : z_mv mX7_errorPosition 7 := ⟨w5_20, w5_21, ⟨(TX7, 13), rfl⟩⟩
def mX7_criterion : z_M := (yX7_criterion, cX7_criterion, 4, some .int)
theorem tX7_criterion : z_mt mX7_criterion 2 := ⟨w5_88, w1_1, ⟨by decide, by decide⟩, by decide +kernel, by decide⟩
theorem pX7_criterion : plainFor mX7_criterion.1 = true := by decide +kernel
theorem vX7_criterion : z_mv mX7_criterion 7 := ⟨w5_86, w5_87, ⟨(TX7, 13), rfl⟩⟩
def mX7_presentOne : z_M := (yX7_presentOne, cX7_presentOne, 2, some (.object "StandingsHall$Entrant"))
theorem tX7_presentOne : z_mt mX7_presentOne 1 := ⟨w5_78, w1_1, ⟨by decide, by decide⟩, by decide +kernel, by decide⟩
theorem pX7_presentOne : plainFor mX7_presentOne.1 = true := by decide +kernel
theorem vX7_presentOne : z_mv mX7_presentOne 7 := ⟨w5_77, wS53, ⟨(TX7, 13), rfl⟩⟩
def mX7_come : z_M := (yX7_come, cX7_come, 4, some .int)
theorem tX7_come : z_mt mX7_come 1 := ⟨w5_226, w1_1, ⟨by decide, by decide⟩, by decide +kernel, by decide⟩
theorem pX7_come : plainFor mX7_come.1 = true := by decide +kernel
theorem vX7_come : z_mv mX7_come 7 := ⟨w5_224, w5_225, ⟨(TX7, 13), rfl⟩⟩
def mX7_checkGroup : z_M := (yX7_checkGroup, cX7_checkGroup, 2, none)
theorem tX7_checkGroup : z_mt mX7_checkGroup 1 := ⟨w5_230, w1_1, ⟨by decide, by decide⟩, by decide +kernel, by decide⟩
theorem pX7_checkGroup : plainFor mX7_checkGroup.1 = true := by decide +kernel
theorem vX7_checkGroup : z_mv mX7_checkGroup 7 := ⟨w5_229, wS74, ⟨(TX7, 13), rfl⟩⟩
def mX7_leave : z_M := (yX7_leave, cX7_leave, 4, some .int)
theorem tX7_leave : z_mt mX7_leave 1 := ⟨w5_207, w1_1, ⟨by decide, by decide⟩, by decide +kernel, by decide⟩
theorem pX7_leave : plainFor mX7_leave.1 = true := by decide +kernel
theorem vX7_leave : z_mv mX7_leave 7 := ⟨w5_205, w5_206, ⟨(TX7, 13), rfl⟩⟩
def mX7_score : z_M := (yX7_score, cX7_score, 6, some .int)
theorem tX7_score : z_mt mX7_score 3 := ⟨w5_144, w1_1, ⟨by decide, by decide⟩, by decide +kernel, by decide⟩
theorem pX7_score : plainFor mX7_score.1 = true := by decide +kernel
theorem vX7_score : z_mv mX7_score 7 := ⟨w5_142, w5_143, ⟨(TX7, 13), rfl⟩⟩
def mX7_raisedScore : z_M := (yX7_raisedScore, cX7_raisedScore, 6, some .int)
theorem tX7_raisedScore : z_mt mX7_raisedScore 3 := ⟨w5_128, w1_1, ⟨by decide, by decide⟩, by decide +kernel, by decide⟩
theorem pX7_raisedScore : plainFor mX7_raisedScore.1 = true := by decide +kernel
theorem vX7_raisedScore : z_mv mX7_raisedScore 7 := ⟨w5_127, wS59, ⟨(TX7, 13), rfl⟩⟩
def mX7_changeScore : z_M := (yX7_changeScore, cX7_changeScore, 4, none)
theorem tX7_changeScore : z_mt mX7_changeScore 3 := ⟨w5_148, w1_1, ⟨by decide, by decide⟩, by decide +kernel, by decide⟩
theorem pX7_changeScore : plainFor mX7_changeScore.1 = true := by decide +kernel
theorem vX7_changeScore : z_mv mX7_changeScore 7 := ⟨w5_147, wS62, ⟨(TX7, 13), rfl⟩⟩
def mX7_setScore : z_M := (yX7_setScore, cX7_setScore, 6, some .int)
theorem tX7_setScore : z_mt mX7_setScore 3 := ⟨w5_175, w1_1, ⟨by decide, by decide⟩, by decide +kernel, by decide⟩
theorem pX7_setScore : plainFor mX7_setScore.1 = true := by decide +kernel
theorem vX7_setScore : z_mv mX7_setScore 7 := ⟨w5_173, w5_174, ⟨(TX7, 13), rfl⟩⟩
def mX7_checkKind : z_M := (yX7_checkKind, cX7_checkKind, 2, none)
theorem tX7_checkKind : z_mt mX7_checkKind 1 := ⟨w5_132, w1_1, ⟨by decide, by decide⟩, by decide +kernel, by decide⟩
theorem pX7_checkKind : plainFor mX7_checkKind.1 = true := by decide +kernel
theorem vX7_checkKind : z_mv mX7_checkKind 7 := ⟨w5_131, wS60, ⟨(TX7, 13), rfl⟩⟩
def mX7_checkScore : z_M := (yX7_checkScore, cX7_checkScore, 3, none)
theorem tX7_checkScore : z_mt mX7_checkScore 1 := ⟨w5_137, w1_1, ⟨by decide, by decide⟩, by decide +kernel, by decide⟩
theorem pX7_checkScore : plainFor mX7_checkScore.1 = true := by decide +kernel
theorem vX7_checkScore : z_mv mX7_checkScore 7 := ⟨w5_136, wS61, ⟨(TX7, 13), rfl⟩⟩
def mX7_scoreOf : z_M := (yX7_scoreOf, cX7_scoreOf, 4, some .int)
theorem tX7_scoreOf : z_mt mX7_scoreOf 2 := ⟨w5_179, w1_1, ⟨by decide, by decide⟩, by decide +kernel, by decide⟩
theorem pX7_scoreOf : plainFor mX7_scoreOf.1 = true := by decide +kernel
theorem vX7_scoreOf : z_mv mX7_scoreOf 7 := ⟨w5_177, w5_178, ⟨(TX7, 13), rfl⟩⟩
def mX7_groupOf : z_M := (yX7_groupOf, cX7_groupOf, 2, some .int)
theorem tX7_groupOf : z_mt mX7_groupOf 1 := ⟨w6_4, w1_1, ⟨by decide, by decide⟩, by decide +kernel, by decide⟩
theorem pX7_groupOf : plainFor mX7_groupOf.1 = true := by decide +kernel
theorem vX7_groupOf : z_mv mX7_groupOf 7 := ⟨w6_2, w6_3, ⟨(TX7, 13), rfl⟩⟩
def mX7_entrants : z_M := (yX7_entrants, cX7_entrants, 1, some .int)
theorem tX7_entrants : z_mt mX7_entrants 0 := ⟨w5_42, w1_1, ⟨by decide, by decide⟩, by decide +kernel, by decide⟩
theorem pX7_entrants : plainFor mX7_entrants.1 = true := by decide +kernel
theorem vX7_entrants : z_mv mX7_entrants 7 := ⟨w5_40, w5_41, ⟨(TX7, 13), rfl⟩⟩
def mX7_at : z_M := (yX7_at, cX7_at, 2, some .int)
theorem tX7_at : z_mt mX7_at 1 := ⟨w5_67, w1_1, ⟨by decide, by decide⟩, by decide +kernel, by decide⟩
theorem pX7_at : plainFor mX7_at.1 = true := by decide +kernel
theorem vX7_at : z_mv mX7_at 7 := ⟨w5_65, w5_66, ⟨(TX7, 13), rfl⟩⟩
def mX7_place : z_M := (yX7_place, cX7_place, 2, some .int)
theorem tX7_place : z_mt mX7_place 1 := ⟨w5_74, w1_1, ⟨by decide, by decide⟩, by decide +kernel, by decide⟩
theorem pX7_place : plainFor mX7_place.1 = true := by decide +kernel
theorem vX7_place : z_mv mX7_place 7 := ⟨w5_72, w5_73, ⟨(TX7, 13), rfl⟩⟩
def mX7_rank : z_M := (yX7_rank, cX7_rank, 4, some .int)
theorem tX7_rank : z_mt mX7_rank 2 := ⟨w5_94, w1_1, ⟨by decide, by decide⟩, by decide +kernel, by decide⟩
theorem pX7_rank : plainFor mX7_rank.1 = true := by decide +kernel
theorem vX7_rank : z_mv mX7_rank 7 := ⟨w5_92, w5_93, ⟨(TX7, 13), rfl⟩⟩
def mX7_alike : z_M := (yX7_alike, cX7_alike, 2, some .int)
theorem tX7_alike : z_mt mX7_alike 1 := ⟨w5_83, w1_1, ⟨by decide, by decide⟩, by decide +kernel, by decide⟩
theorem pX7_alike : plainFor mX7_alike.1 = true := by decide +kernel
theorem vX7_alike : z_mv mX7_alike 7 := ⟨w5_81, w5_82, ⟨(TX7, 13), rfl⟩⟩
def mX7_results : z_M := (yX7_results, cX7_results, 1, some .int)
theorem tX7_results : z_mt mX7_results 0 := ⟨w5_108, w1_1, ⟨by decide, by decide⟩, by decide +kernel, by decide⟩
theorem pX7_results : plainFor mX7_results.1 = true := by decide +kernel
theorem vX7_results : z_mv mX7_results 7 := ⟨w5_106, w5_107, ⟨(TX7, 13), rfl⟩⟩
def mX7_rankSum : z_M := (yX7_rankSum, cX7_rankSum, 3, some .int)
theorem tX7_rankSum : z_mt mX7_rankSum 0 := ⟨w5_46, w1_1, ⟨by decide, by decide⟩, by decide +kernel, by decide⟩
theorem pX7_rankSum : plainFor mX7_rankSum.1 = true := by decide +kernel
theorem vX7_rankSum : z_mv mX7_rankSum 7 := ⟨w5_44, w5_45, ⟨(TX7, 13), rfl⟩⟩
def mX7_wouldGain : z_M := (yX7_wouldGain, cX7_wouldGain, 6, some .int)
theorem tX7_wouldGain : z_mt mX7_wouldGain 3 := ⟨w5_124, w1_1, ⟨by decide, by decide⟩, by decide +kernel, by decide⟩
theorem pX7_wouldGain : plainFor mX7_wouldGain.1 = true := by decide +kernel
theorem vX7_wouldGain : z_mv mX7_wouldGain 7 := ⟨w5_122, w5_123, ⟨(TX7, 13), rfl⟩⟩
def mX7_tryWith : z_M := (yX7_tryWith, cX7_tryWith, 5, none)
theorem tX7_tryWith : z_mt mX7_tryWith 3 := ⟨w1_68, w1_1, ⟨by decide, by decide⟩, by decide +kernel, by decide⟩
theorem pX7_tryWith : plainFor mX7_tryWith.1 = true := by decide +kernel
theorem vX7_tryWith : z_mv mX7_tryWith 7 := ⟨w1_67, wS2, ⟨(TX7, 13), rfl⟩⟩
def mX7_needed : z_M := (yX7_needed, cX7_needed, 5, some .int)
theorem tX7_needed : z_mt mX7_needed 2 := ⟨w5_187, w1_1, ⟨by decide, by decide⟩, by decide +kernel, by decide⟩
theorem pX7_needed : plainFor mX7_needed.1 = true := by decide +kernel
theorem vX7_needed : z_mv mX7_needed 7 := ⟨w5_185, w5_186, ⟨(TX7, 13), rfl⟩⟩
def mX7_rankWith : z_M := (yX7_rankWith, cX7_rankWith, 3, some .int)
theorem tX7_rankWith : z_mt mX7_rankWith 2 := ⟨w5_194, w1_1, ⟨by decide, by decide⟩, by decide +kernel, by decide⟩
theorem pX7_rankWith : plainFor mX7_rankWith.1 = true := by decide +kernel
theorem vX7_rankWith : z_mv mX7_rankWith 7 := ⟨w5_193, wS68, ⟨(TX7, 13), rfl⟩⟩
def mX7_leastNeeded : z_M := (yX7_leastNeeded, cX7_leastNeeded, 8, some .int)
theorem tX7_leastNeeded : z_mt mX7_leastNeeded 3 := ⟨w5_198, w1_1, ⟨by decide, by decide⟩, by decide +kernel, by decide⟩
theorem pX7_leastNeeded : plainFor mX7_leastNeeded.1 = true := by decide +kernel
theorem vX7_leastNeeded : z_mv mX7_leastNeeded 7 := ⟨w5_197, wS69, ⟨(TX7, 13), rfl⟩⟩
def mX7_above : z_M := (yX7_above, cX7_above, 2, some .int)
theorem tX7_above : z_mt mX7_above 1 := ⟨w6_46, w1_1, ⟨by decide, by decide⟩, by decide +kernel, by decide⟩
theorem pX7_above : plainFor mX7_above.1 = true := by decide +kernel
theorem vX7_above : z_mv mX7_above 7 := ⟨w6_44, w6_45, ⟨(TX7, 13), rfl⟩⟩
def mX7_with : z_M := (yX7_with, cX7_with, 2, some .int)
theorem tX7_with : z_mt mX7_with 1 := ⟨w6_50, w1_1, ⟨by decide, by decide⟩, by decide +kernel, by decide⟩
theorem pX7_with : plainFor mX7_with.1 = true := by decide +kernel
theorem vX7_with : z_mv mX7_with 7 := ⟨w6_48, w6_49, ⟨(TX7, 13), rfl⟩⟩
def mX7_withAt : z_M := (yX7_withAt, cX7_withAt, 5, some .int)
theorem tX7_withAt : z_mt mX7_withAt 2 := ⟨w6_54, w1_1, ⟨by decide, by decide⟩, by decide +kernel, by decide⟩
theorem pX7_withAt : plainFor mX7_withAt.1 = true := by decide +kernel
theorem vX7_withAt : z_mv mX7_withAt 7 := ⟨w6_52, w6_53, ⟨(TX7, 13), rfl⟩⟩
def mX7_next : z_M := (yX7_next, cX7_next, 3, some .int)
theorem tX7_next : z_mt mX7_next 1 := ⟨w6_63, w1_1, ⟨by decide, by decide⟩, by decide +kernel, by decide⟩
theorem pX7_next : plainFor mX7_next.1 = true := by decide +kernel
theorem vX7_next : z_mv mX7_next 7 := ⟨w6_61, w6_62, ⟨(TX7, 13), rfl⟩⟩
def mX7_between : z_M := (yX7_between, cX7_between, 3, some .int)
theorem tX7_between : z_mt mX7_between 2 := ⟨w6_58, w1_1, ⟨by decide, by decide⟩, by decide +kernel, by decide⟩
theorem pX7_between : plainFor mX7_between.1 = true := by decide +kernel
theorem vX7_between : z_mv mX7_between 7 := ⟨w6_56, w6_57, ⟨(TX7, 13), rfl⟩⟩
def mX7_median : z_M := (yX7_median, cX7_median, 2, some .int)
theorem tX7_median : z_mt mX7_median 1 := ⟨w6_16, w1_1, ⟨by decide, by decide⟩, by decide +kernel, by decide⟩
theorem pX7_median : plainFor mX7_median.1 = true := by decide +kernel
theorem vX7_median : z_mv mX7_median 7 := ⟨w6_14, w6_15, ⟨(TX7, 13), rfl⟩⟩
def mX7_checkSomebodyIsThere : z_M := (yX7_checkSomebodyIsThere, cX7_checkSomebodyIsThere, 1, none)
theorem tX7_checkSomebodyIsThere : z_mt mX7_checkSomebodyIsThere 0 := ⟨w6_20, w1_1, ⟨by decide, by decide⟩, by decide +kernel, by decide⟩
theorem pX7_checkSomebodyIsThere : plainFor mX7_checkSomebodyIsThere.1 = true := by decide +kernel
theorem vX7_checkSomebodyIsThere : z_mv mX7_checkSomebodyIsThere 7 := ⟨w6_19, wS77, ⟨(TX7, 13), rfl⟩⟩
def mX7_medianPlace : z_M := (yX7_medianPlace, cX7_medianPlace, 3, some .int)
theorem tX7_medianPlace : z_mt mX7_medianPlace 1 := ⟨w1_143, w1_1, ⟨by decide, by decide⟩, by decide +kernel, by decide⟩
theorem pX7_medianPlace : plainFor mX7_medianPlace.1 = true := by decide +kernel
theorem vX7_medianPlace : z_mv mX7_medianPlace 7 := ⟨w1_142, wS17, ⟨(TX7, 13), rfl⟩⟩
def mX7_quantile : z_M := (yX7_quantile, cX7_quantile, 4, some .int)
theorem tX7_quantile : z_mt mX7_quantile 2 := ⟨w6_40, w1_1, ⟨by decide, by decide⟩, by decide +kernel, by decide⟩
theorem pX7_quantile : plainFor mX7_quantile.1 = true := by decide +kernel
theorem vX7_quantile : z_mv mX7_quantile 7 := ⟨w6_38, w6_39, ⟨(TX7, 13), rfl⟩⟩
def mX7_enter : z_M := (yX7_enter, cX7_enter, 3, some .int)
theorem tX7_enter : z_mt mX7_enter 1 := ⟨w6_86, w1_1, ⟨by decide, by decide⟩, by decide +kernel, by decide⟩
theorem pX7_enter : plainFor mX7_enter.1 = true := by decide +kernel
theorem vX7_enter : z_mv mX7_enter 7 := ⟨w6_84, w6_85, ⟨(TX7, 13), rfl⟩⟩
def mX7_challenge : z_M := (yX7_challenge, cX7_challenge, 8, some .int)
theorem tX7_challenge : z_mt mX7_challenge 3 := ⟨w6_106, w1_1, ⟨by decide, by decide⟩, by decide +kernel, by decide⟩
theorem pX7_challenge : plainFor mX7_challenge.1 = true := by decide +kernel
theorem vX7_challenge : z_mv mX7_challenge 7 := ⟨w6_104, w6_105, ⟨(TX7, 13), rfl⟩⟩
def mX7_mayChallenge : z_M := (yX7_mayChallenge, cX7_mayChallenge, 3, some .int)
theorem tX7_mayChallenge : z_mt mX7_mayChallenge 1 := ⟨w6_98, w1_1, ⟨by decide, by decide⟩, by decide +kernel, by decide⟩
theorem pX7_mayChallenge : plainFor mX7_mayChallenge.1 = true := by decide +kernel
theorem vX7_mayChallenge : z_mv mX7_mayChallenge 7 := ⟨w6_96, w6_97, ⟨(TX7, 13), rfl⟩⟩
def mX7_setReach : z_M := (yX7_setReach, cX7_setReach, 3, some .int)
theorem tX7_setReach : z_mt mX7_setReach 1 := ⟨w6_72, w1_1, ⟨by decide, by decide⟩, by decide +kernel, by decide⟩
theorem pX7_setReach : plainFor mX7_setReach.1 = true := by decide +kernel
theorem vX7_setReach : z_mv mX7_setReach 7 := ⟨w6_70, w6_71, ⟨(TX7, 13), rfl⟩⟩
def mX7_setPatience : z_M := (yX7_setPatience, cX7_setPatience, 3, some .int)
theorem tX7_setPatience : z_mt mX7_setPatience 1 := ⟨w6_77, w1_1, ⟨by decide, by decide⟩, by decide +kernel, by decide⟩
theorem pX7_setPatience : plainFor mX7_setPatience.1 = true := by decide +kernel
theorem vX7_setPatience : z_mv mX7_setPatience 7 := ⟨w6_75, w6_76, ⟨(TX7, 13), rfl⟩⟩
def mX7_ladderAt : z_M := (yX7_ladderAt, cX7_ladderAt, 2, some .int)
theorem tX7_ladderAt : z_mt mX7_ladderAt 1 := ⟨w6_102, w1_1, ⟨by decide, by decide⟩, by decide +kernel, by decide⟩
theorem pX7_ladderAt : plainFor mX7_ladderAt.1 = true := by decide +kernel
theorem vX7_ladderAt : z_mv mX7_ladderAt 7 := ⟨w6_100, w6_101, ⟨(TX7, 13), rfl⟩⟩
def mX7_ladderPlace : z_M := (yX7_ladderPlace, cX7_ladderPlace, 2, some .int)
theorem tX7_ladderPlace : z_mt mX7_ladderPlace 1 := ⟨w6_121, w1_1, ⟨by decide, by decide⟩, by decide +kernel, by decide⟩
theorem pX7_ladderPlace : plainFor mX7_ladderPlace.1 = true := by decide +kernel
theorem vX7_ladderPlace : z_mv mX7_ladderPlace 7 := ⟨w6_119, w6_120, ⟨(TX7, 13), rfl⟩⟩
def mX7_endRound : z_M := (yX7_endRound, cX7_endRound, 2, some .int)
theorem tX7_endRound : z_mt mX7_endRound 0 := ⟨w6_133, w1_1, ⟨by decide, by decide⟩, by decide +kernel, by decide⟩
theorem pX7_endRound : plainFor mX7_endRound.1 = true := by decide +kernel
theorem vX7_endRound : z_mv mX7_endRound 7 := ⟨w6_131, w6_132, ⟨(TX7, 13), rfl⟩⟩
def mX7_round : z_M := (yX7_round, cX7_round, 1, some .int)
theorem tX7_round : z_mt mX7_round 0 := ⟨w6_153, w1_1, ⟨by decide, by decide⟩, by decide +kernel, by decide⟩
theorem pX7_round : plainFor mX7_round.1 = true := by decide +kernel
theorem vX7_round : z_mv mX7_round 7 := ⟨w6_151, w6_152, ⟨(TX7, 13), rfl⟩⟩
def mX7_gain : z_M := (yX7_gain, cX7_gain, 2, some .int)
theorem tX7_gain : z_mt mX7_gain 1 := ⟨w6_129, w1_1, ⟨by decide, by decide⟩, by decide +kernel, by decide⟩
theorem pX7_gain : plainFor mX7_gain.1 = true := by decide +kernel
theorem vX7_gain : z_mv mX7_gain 7 := ⟨w6_127, w6_128, ⟨(TX7, 13), rfl⟩⟩
def mX7_form : z_M := (yX7_form, cX7_form, 5, some .int)
theorem tX7_form : z_mt mX7_form 3 := ⟨w6_161, w1_1, ⟨by decide, by decide⟩, by decide +kernel, by decide⟩
theorem pX7_form : plainFor mX7_form.1 = true := by decide +kernel
theorem vX7_form : z_mv mX7_form 7 := ⟨w6_159, w6_160, ⟨(TX7, 13), rfl⟩⟩
def mX7_checkForm : z_M := (yX7_checkForm, cX7_checkForm, 3, none)
theorem tX7_checkForm : z_mt mX7_checkForm 2 := ⟨w6_165, w1_1, ⟨by decide, by decide⟩, by decide +kernel, by decide⟩
theorem pX7_checkForm : plainFor mX7_checkForm.1 = true := by decide +kernel
theorem vX7_checkForm : z_mv mX7_checkForm 7 := ⟨w6_164, wS87, ⟨(TX7, 13), rfl⟩⟩
def mX7_formBy : z_M := (yX7_formBy, cX7_formBy, 9, some .int)
theorem tX7_formBy : z_mt mX7_formBy 3 := ⟨w6_170, w1_1, ⟨by decide, by decide⟩, by decide +kernel, by decide⟩
theorem pX7_formBy : plainFor mX7_formBy.1 = true := by decide +kernel
theorem vX7_formBy : z_mv mX7_formBy 7 := ⟨w6_169, wS88, ⟨(TX7, 13), rfl⟩⟩
def mX7_inForm : z_M := (yX7_inForm, cX7_inForm, 8, some .int)
theorem tX7_inForm : z_mt mX7_inForm 2 := ⟨w6_182, w1_1, ⟨by decide, by decide⟩, by decide +kernel, by decide⟩
theorem pX7_inForm : plainFor mX7_inForm.1 = true := by decide +kernel
theorem vX7_inForm : z_mv mX7_inForm 7 := ⟨w6_180, w6_181, ⟨(TX7, 13), rfl⟩⟩
def mX7_placeThen : z_M := (yX7_placeThen, cX7_placeThen, 3, some .int)
theorem tX7_placeThen : z_mt mX7_placeThen 2 := ⟨w6_216, w1_1, ⟨by decide, by decide⟩, by decide +kernel, by decide⟩
theorem pX7_placeThen : plainFor mX7_placeThen.1 = true := by decide +kernel
theorem vX7_placeThen : z_mv mX7_placeThen 7 := ⟨w6_214, w6_215, ⟨(TX7, 13), rfl⟩⟩
def mX7_checkKept : z_M := (yX7_checkKept, cX7_checkKept, 2, none)
theorem tX7_checkKept : z_mt mX7_checkKept 1 := ⟨w6_198, w1_1, ⟨by decide, by decide⟩, by decide +kernel, by decide⟩
theorem pX7_checkKept : plainFor mX7_checkKept.1 = true := by decide +kernel
theorem vX7_checkKept : z_mv mX7_checkKept 7 := ⟨w6_197, wS93, ⟨(TX7, 13), rfl⟩⟩
def mX7_climb : z_M := (yX7_climb, cX7_climb, 7, some .int)
theorem tX7_climb : z_mt mX7_climb 1 := ⟨w6_233, w1_1, ⟨by decide, by decide⟩, by decide +kernel, by decide⟩
theorem pX7_climb : plainFor mX7_climb.1 = true := by decide +kernel
theorem vX7_climb : z_mv mX7_climb 7 := ⟨w6_231, w6_232, ⟨(TX7, 13), rfl⟩⟩
def mX7_best : z_M := (yX7_best, cX7_best, 3, some .int)
theorem tX7_best : z_mt mX7_best 1 := ⟨w7_26, w1_1, ⟨by decide, by decide⟩, by decide +kernel, by decide⟩
theorem pX7_best : plainFor mX7_best.1 = true := by decide +kernel
theorem vX7_best : z_mv mX7_best 7 := ⟨w7_24, w7_25, ⟨(TX7, 13), rfl⟩⟩
def mX7_members : z_M := (yX7_members, cX7_members, 2, some .int)
theorem tX7_members : z_mt mX7_members 1 := ⟨w7_30, w1_1, ⟨by decide, by decide⟩, by decide +kernel, by decide⟩
theorem pX7_members : plainFor mX7_members.1 = true := by decide +kernel
theorem vX7_members : z_mv mX7_members 7 := ⟨w7_28, w7_29, ⟨(TX7, 13), rfl⟩⟩
def mX7_teamScore : z_M := (yX7_teamScore, cX7_teamScore, 2, some .int)
theorem tX7_teamScore : z_mt mX7_teamScore 1 := ⟨w7_22, w1_1, ⟨by decide, by decide⟩, by decide +kernel, by decide⟩
theorem pX7_teamScore : plainFor mX7_teamScore.1 = true := by decide +kernel
theorem vX7_teamScore : z_mv mX7_teamScore 7 := ⟨w7_20, w7_21, ⟨(TX7, 13), rfl⟩⟩
def mX7_groupAt : z_M := (yX7_groupAt, cX7_groupAt, 3, some .int)
theorem tX7_groupAt : z_mt mX7_groupAt 1 := ⟨w7_2, w1_1, ⟨by decide, by decide⟩, by decide +kernel, by decide⟩
theorem pX7_groupAt : plainFor mX7_groupAt.1 = true := by decide +kernel
theorem vX7_groupAt : z_mv mX7_groupAt 7 := ⟨w7_0, w7_1, ⟨(TX7, 13), rfl⟩⟩
def mX7_groupRankedAt : z_M := (yX7_groupRankedAt, cX7_groupRankedAt, 3, some .int)
theorem tX7_groupRankedAt : z_mt mX7_groupRankedAt 1 := ⟨w7_6, w1_1, ⟨by decide, by decide⟩, by decide +kernel, by decide⟩
theorem pX7_groupRankedAt : plainFor mX7_groupRankedAt.1 = true := by decide +kernel
theorem vX7_groupRankedAt : z_mv mX7_groupRankedAt 7 := ⟨w7_5, wS100, ⟨(TX7, 13), rfl⟩⟩
def mX7_inversions : z_M := (yX7_inversions, cX7_inversions, 7, some .int)
theorem tX7_inversions : z_mt mX7_inversions 2 := ⟨w6_190, w1_1, ⟨by decide, by decide⟩, by decide +kernel, by decide⟩
theorem pX7_inversions : plainFor mX7_inversions.1 = true := by decide +kernel
theorem vX7_inversions : z_mv mX7_inversions 7 := ⟨w6_188, w6_189, ⟨(TX7, 13), rfl⟩⟩
def mX7_checkTold : z_M := (yX7_checkTold, cX7_checkTold, 2, none)
theorem tX7_checkTold : z_mt mX7_checkTold 1 := ⟨w6_194, w1_1, ⟨by decide, by decide⟩, by decide +kernel, by decide⟩
theorem pX7_checkTold : plainFor mX7_checkTold.1 = true := by decide +kernel
theorem vX7_checkTold : z_mv mX7_checkTold 7 := ⟨w6_193, wS92, ⟨(TX7, 13), rfl⟩⟩
def mX7_lineUp : z_M := (yX7_lineUp, cX7_lineUp, 7, some .int)
theorem tX7_lineUp : z_mt mX7_lineUp 2 := ⟨w6_203, w1_1, ⟨by decide, by decide⟩, by decide +kernel, by decide⟩
theorem pX7_lineUp : plainFor mX7_lineUp.1 = true := by decide +kernel
theorem vX7_lineUp : z_mv mX7_lineUp 7 := ⟨w6_202, wS94, ⟨(TX7, 13), rfl⟩⟩
def mX7_swaps : z_M := (yX7_swaps, cX7_swaps, 6, some .int)
theorem tX7_swaps : z_mt mX7_swaps 2 := ⟨w6_225, w1_1, ⟨by decide, by decide⟩, by decide +kernel, by decide⟩
theorem pX7_swaps : plainFor mX7_swaps.1 = true := by decide +kernel
theorem vX7_swaps : z_mv mX7_swaps 7 := ⟨w6_223, w6_224, ⟨(TX7, 13), rfl⟩⟩
def mX7_swapNeighbours : z_M := (yX7_swapNeighbours, cX7_swapNeighbours, 5, some .int)
theorem tX7_swapNeighbours : z_mt mX7_swapNeighbours 1 := ⟨w6_229, w1_1, ⟨by decide, by decide⟩, by decide +kernel, by decide⟩
theorem pX7_swapNeighbours : plainFor mX7_swapNeighbours.1 = true := by decide +kernel
theorem vX7_swapNeighbours : z_mv mX7_swapNeighbours 7 := ⟨w6_228, wS98, ⟨(TX7, 13), rfl⟩⟩
def mX7_meanPoints : z_M := (yX7_meanPoints, cX7_meanPoints, 4, some .double)
theorem tX7_meanPoints : z_mt mX7_meanPoints 0 := ⟨w6_12, w1_1, ⟨by decide, by decide⟩, by decide +kernel, by decide⟩
theorem pX7_meanPoints : plainFor mX7_meanPoints.1 = true := by decide +kernel
theorem vX7_meanPoints : z_mv mX7_meanPoints 7 := ⟨w6_10, w6_11, ⟨(TX7, 13), rfl⟩⟩
def mX7_errors : z_M := (yX7_errors, cX7_errors, 1, some .int)
theorem tX7_errors : z_mt mX7_errors 0 := ⟨w1_35, w1_1, ⟨by decide, by decide⟩, by decide +kernel, by decide⟩
theorem pX7_errors : plainFor mX7_errors.1 = true := by decide +kernel
theorem vX7_errors : z_mv mX7_errors 7 := ⟨w1_33, w1_34, ⟨(TX7, 13), rfl⟩⟩
def mX7_wrongPlaces : z_M := (yX7_wrongPlaces, cX7_wrongPlaces, 4, some .int)
theorem tX7_wrongPlaces : z_mt mX7_wrongPlaces 0 := ⟨w1_40, w1_1, ⟨by decide, by decide⟩, by decide +kernel, by decide⟩
theorem pX7_wrongPlaces : plainFor mX7_wrongPlaces.1 = true := by decide +kernel
theorem vX7_wrongPlaces : z_mv mX7_wrongPlaces 7 := ⟨w1_38, wS0, ⟨(TX7, 13), rfl⟩⟩
def mX7_wrongPoints : z_M := (yX7_wrongPoints, cX7_wrongPoints, 4, some .int)
theorem tX7_wrongPoints : z_mt mX7_wrongPoints 0 := ⟨w1_110, w1_1, ⟨by decide, by decide⟩, by decide +kernel, by decide⟩
theorem pX7_wrongPoints : plainFor mX7_wrongPoints.1 = true := by decide +kernel
theorem vX7_wrongPoints : z_mv mX7_wrongPoints 7 := ⟨w1_109, wS11, ⟨(TX7, 13), rfl⟩⟩
def mX7_wrongMedian : z_M := (yX7_wrongMedian, cX7_wrongMedian, 4, some .int)
theorem tX7_wrongMedian : z_mt mX7_wrongMedian 1 := ⟨w1_135, w1_1, ⟨by decide, by decide⟩, by decide +kernel, by decide⟩
theorem pX7_wrongMedian : plainFor mX7_wrongMedian.1 = true := by decide +kernel
theorem vX7_wrongMedian : z_mv mX7_wrongMedian 7 := ⟨w1_134, wS16, ⟨(TX7, 13), rfl⟩⟩
def mX7_countGroupsAhead : z_M := (yX7_countGroupsAhead, cX7_countGroupsAhead, 7, some .int)
theorem tX7_countGroupsAhead : z_mt mX7_countGroupsAhead 1 := ⟨w7_14, w1_1, ⟨by decide, by decide⟩, by decide +kernel, by decide⟩
theorem pX7_countGroupsAhead : plainFor mX7_countGroupsAhead.1 = true := by decide +kernel
theorem vX7_countGroupsAhead : z_mv mX7_countGroupsAhead 7 := ⟨w7_13, wS102, ⟨(TX7, 13), rfl⟩⟩
def mX7_placeAt : z_M := (yX7_placeAt, cX7_placeAt, 3, some .int)
theorem tX7_placeAt : z_mt mX7_placeAt 2 := ⟨w6_208, w1_1, ⟨by decide, by decide⟩, by decide +kernel, by decide⟩
theorem pX7_placeAt : plainFor mX7_placeAt.1 = true := by decide +kernel
theorem vX7_placeAt : z_mv mX7_placeAt 7 := ⟨w6_207, wS95, ⟨(TX7, 13), rfl⟩⟩
def mX7_isFirstWithItsPoints : z_M := (yX7_isFirstWithItsPoints, cX7_isFirstWithItsPoints, 3, some .boolean)
theorem tX7_isFirstWithItsPoints : z_mt mX7_isFirstWithItsPoints 1 := ⟨w1_114, w1_1, ⟨by decide, by decide⟩, by decide +kernel, by decide⟩
theorem pX7_isFirstWithItsPoints : plainFor mX7_isFirstWithItsPoints.1 = true := by decide +kernel
theorem vX7_isFirstWithItsPoints : z_mv mX7_isFirstWithItsPoints 7 := ⟨w1_113, wS12, ⟨(TX7, 13), rfl⟩⟩
def mX7_countPresentUpTo : z_M := (yX7_countPresentUpTo, cX7_countPresentUpTo, 4, some .int)
theorem tX7_countPresentUpTo : z_mt mX7_countPresentUpTo 1 := ⟨w1_118, w1_1, ⟨by decide, by decide⟩, by decide +kernel, by decide⟩
theorem pX7_countPresentUpTo : plainFor mX7_countPresentUpTo.1 = true := by decide +kernel
theorem vX7_countPresentUpTo : z_mv mX7_countPresentUpTo 7 := ⟨w1_117, wS13, ⟨(TX7, 13), rfl⟩⟩
def mL_init : z_M := (yL_init, cL_init, 1, none)
theorem tL_init : z_mt mL_init 0 := ⟨w1_152, w1_0, ⟨by decide, by decide⟩, by decide +kernel, by decide⟩
theorem pL_init : plainFor mL_init.1 = true := by decide +kernel
theorem iL_init : (mL_init.1.name = "<init>" ∧ mL_init.2.2.2 = none) ∧ Cond.instanceMethod mL_init.1 ∈ lw_tbl := ⟨⟨rfl, rfl⟩, w1_151⟩
def mL_next : z_M := (yL_next, cL_next, 2, some .int)
theorem tL_next : z_mt mL_next 1 := ⟨w2_218, w1_0, ⟨by decide, by decide⟩, by decide +kernel, by decide⟩
theorem pL_next : plainFor mL_next.1 = true := by decide +kernel
theorem vL_next : z_mv mL_next 8 := ⟨w2_217, wS21, ⟨(TL, 21), rfl⟩⟩
def mL_anyone : z_M := (yL_anyone, cL_anyone, 3, some .int)
theorem tL_anyone : z_mt mL_anyone 0 := ⟨w2_223, w1_0, ⟨by decide, by decide⟩, by decide +kernel, by decide⟩
theorem pL_anyone : plainFor mL_anyone.1 = true := by decide +kernel
theorem vL_anyone : z_mv mL_anyone 8 := ⟨w2_222, wS22, ⟨(TL, 21), rfl⟩⟩
def mL_amount : z_M := (yL_amount, cL_amount, 1, some .int)
theorem tL_amount : z_mt mL_amount 0 := ⟨w5_120, w1_0, ⟨by decide, by decide⟩, by decide +kernel, by decide⟩
theorem pL_amount : plainFor mL_amount.1 = true := by decide +kernel
theorem vL_amount : z_mv mL_amount 8 := ⟨w5_119, wS58, ⟨(TL, 21), rfl⟩⟩
def mL_isOrdered : z_M := (yL_isOrdered, cL_isOrdered, 8, some .boolean)
theorem tL_isOrdered : z_mt mL_isOrdered 0 := ⟨w2_227, w1_0, ⟨by decide, by decide⟩, by decide +kernel, by decide⟩
theorem pL_isOrdered : plainFor mL_isOrdered.1 = true := by decide +kernel
theorem vL_isOrdered : z_mv mL_isOrdered 8 := ⟨w2_226, wS23, ⟨(TL, 21), rfl⟩⟩
def mJ4_init_da8c8 : z_M := (yJ4_init_da8c8, cJ4_init_da8c8, 1, none)
theorem tJ4_init_da8c8 : z_mt mJ4_init_da8c8 0 := ⟨w2_232, w1_25, ⟨by decide, by decide⟩, by decide +kernel, by decide⟩
theorem pJ4_init_da8c8 : plainFor mJ4_init_da8c8.1 = true := by decide +kernel
theorem iJ4_init_da8c8 : (mJ4_init_da8c8.1.name = "<init>" ∧ mJ4_init_da8c8.2.2.2 = none) ∧ Cond.instanceMethod mJ4_init_da8c8.1 ∈ lw_tbl := ⟨⟨rfl, rfl⟩, w2_231⟩
def mJ4_append_15ec4 : z_M := (yJ4_append_15ec4, cJ4_append_15ec4, 2, some (.object "java/lang/StringBuilder"))
theorem tJ4_append_15ec4 : z_mt mJ4_append_15ec4 1 := ⟨w3_25, w1_25, ⟨by decide, by decide⟩, by decide +kernel, by decide⟩
theorem pJ4_append_15ec4 : plainFor mJ4_append_15ec4.1 = true := by decide +kernel
theorem vJ4_append_15ec4 : z_mv mJ4_append_15ec4 10 := ⟨w3_23, w3_24, ⟨(TJ4, 4), rfl⟩⟩
def mJ4_append_cf468 : z_M := (yJ4_append_cf468, cJ4_append_cf468, 2, some (.object "java/lang/StringBuilder"))
theorem tJ4_append_cf468 : z_mt mJ4_append_cf468 1 := ⟨w3_145, w1_25, ⟨by decide, by decide⟩, by decide +kernel, by decide⟩
theorem pJ4_append_cf468 : plainFor mJ4_append_cf468.1 = true := by decide +kernel
theorem vJ4_append_cf468 : z_mv mJ4_append_cf468 10 := ⟨w3_143, w3_144, ⟨(TJ4, 4), rfl⟩⟩
def mJ4_append_bf812 : z_M := (yJ4_append_bf812, cJ4_append_bf812, 2, some (.object "java/lang/StringBuilder"))
theorem tJ4_append_bf812 : z_mt mJ4_append_bf812 1 := ⟨w3_167, w1_25, ⟨by decide, by decide⟩, by decide +kernel, by decide⟩
theorem pJ4_append_bf812 : plainFor mJ4_append_bf812.1 = true := by decide +kernel
theorem vJ4_append_bf812 : z_mv mJ4_append_bf812 10 := ⟨w3_165, w3_166, ⟨(TJ4, 4), rfl⟩⟩
def mJ4_toString_0e30d : z_M := (yJ4_toString_0e30d, cJ4_toString_0e30d, 1, some (.object "java/lang/String"))
theorem tJ4_toString_0e30d : z_mt mJ4_toString_0e30d 0 := ⟨w3_193, w1_25, ⟨by decide, by decide⟩, by decide +kernel, by decide⟩
theorem pJ4_toString_0e30d : plainFor mJ4_toString_0e30d.1 = true := by decide +kernel
theorem vJ4_toString_0e30d : z_mv mJ4_toString_0e30d 10 := ⟨w3_191, w3_192, ⟨(TJ4, 4), rfl⟩⟩
def mJ4_length_8abf5 : z_M := (yJ4_length_8abf5, cJ4_length_8abf5, 1, some .int)
theorem tJ4_length_8abf5 : z_mt mJ4_length_8abf5 0 := ⟨w3_213, w1_25, ⟨by decide, by decide⟩, by decide +kernel, by decide⟩
theorem pJ4_length_8abf5 : plainFor mJ4_length_8abf5.1 = true := by decide +kernel
theorem vJ4_length_8abf5 : z_mv mJ4_length_8abf5 10 := ⟨w3_212, w7_48, ⟨(TJ4, 4), rfl⟩⟩
def mJ4_charAt_5068e : z_M := (yJ4_charAt_5068e, cJ4_charAt_5068e, 2, some .char)
theorem tJ4_charAt_5068e : z_mt mJ4_charAt_5068e 1 := ⟨w4_14, w1_25, ⟨by decide, by decide⟩, by decide +kernel, by decide⟩
theorem pJ4_charAt_5068e : plainFor mJ4_charAt_5068e.1 = true := by decide +kernel
theorem vJ4_charAt_5068e : z_mv mJ4_charAt_5068e 10 := ⟨w4_12, w4_13, ⟨(TJ4, 4), rfl⟩⟩
def mL_valueOf : z_M := (yL_valueOf, cL_valueOf, 5, some .int)
theorem tL_valueOf : z_mt mL_valueOf 2 := ⟨w5_38, w1_0, ⟨by decide, by decide⟩, by decide +kernel, by decide⟩
theorem pL_valueOf : plainFor mL_valueOf.1 = true := by decide +kernel
theorem vL_valueOf : z_mv mL_valueOf 8 := ⟨w5_37, wS48, ⟨(TL, 21), rfl⟩⟩
def mL_compares : z_M := (yL_compares, cL_compares, 4, some .int)
theorem tL_compares : z_mt mL_compares 2 := ⟨w5_34, w1_0, ⟨by decide, by decide⟩, by decide +kernel, by decide⟩
theorem pL_compares : plainFor mL_compares.1 = true := by decide +kernel
theorem vL_compares : z_mv mL_compares 8 := ⟨w5_33, wS47, ⟨(TL, 21), rfl⟩⟩
def mL_sorts : z_M := (yL_sorts, cL_sorts, 4, some .int)
theorem tL_sorts : z_mt mL_sorts 0 := ⟨w5_30, w1_0, ⟨by decide, by decide⟩, by decide +kernel, by decide⟩
theorem pL_sorts : plainFor mL_sorts.1 = true := by decide +kernel
theorem vL_sorts : z_mv mL_sorts 8 := ⟨w5_29, wS46, ⟨(TL, 21), rfl⟩⟩
def mL_isStanding : z_M := (yL_isStanding, cL_isStanding, 8, some .boolean)
theorem tL_isStanding : z_mt mL_isStanding 0 := ⟨w5_26, w1_0, ⟨by decide, by decide⟩, by decide +kernel, by decide⟩
theorem pL_isStanding : plainFor mL_isStanding.1 = true := by decide +kernel
theorem vL_isStanding : z_mv mL_isStanding 8 := ⟨w5_25, wS45, ⟨(TL, 21), rfl⟩⟩
def mL_isScored : z_M := (yL_isScored, cL_isScored, 6, some .boolean)
theorem tL_isScored : z_mt mL_isScored 1 := ⟨w5_116, w1_0, ⟨by decide, by decide⟩, by decide +kernel, by decide⟩
theorem pL_isScored : plainFor mL_isScored.1 = true := by decide +kernel
theorem vL_isScored : z_mv mL_isScored 8 := ⟨w5_115, wS57, ⟨(TL, 21), rfl⟩⟩
def mL_isNeeded : z_M := (yL_isNeeded, cL_isNeeded, 5, some .boolean)
theorem tL_isNeeded : z_mt mL_isNeeded 1 := ⟨w5_183, w1_0, ⟨by decide, by decide⟩, by decide +kernel, by decide⟩
theorem pL_isNeeded : plainFor mL_isNeeded.1 = true := by decide +kernel
theorem vL_isNeeded : z_mv mL_isNeeded 8 := ⟨w5_182, wS67, ⟨(TL, 21), rfl⟩⟩
def mL_hasLeft : z_M := (yL_hasLeft, cL_hasLeft, 5, some .boolean)
theorem tL_hasLeft : z_mt mL_hasLeft 1 := ⟨w5_203, w1_0, ⟨by decide, by decide⟩, by decide +kernel, by decide⟩
theorem pL_hasLeft : plainFor mL_hasLeft.1 = true := by decide +kernel
theorem vL_hasLeft : z_mv mL_hasLeft 8 := ⟨w5_202, wS70, ⟨(TL, 21), rfl⟩⟩
def mL_hasCome : z_M := (yL_hasCome, cL_hasCome, 2, some .boolean)
theorem tL_hasCome : z_mt mL_hasCome 0 := ⟨w5_222, w1_0, ⟨by decide, by decide⟩, by decide +kernel, by decide⟩
theorem pL_hasCome : plainFor mL_hasCome.1 = true := by decide +kernel
theorem vL_hasCome : z_mv mL_hasCome 8 := ⟨w5_221, wS73, ⟨(TL, 21), rfl⟩⟩
def mL_arePoints : z_M := (yL_arePoints, cL_arePoints, 9, some .boolean)
theorem tL_arePoints : z_mt mL_arePoints 0 := ⟨w6_8, w1_0, ⟨by decide, by decide⟩, by decide +kernel, by decide⟩
theorem pL_arePoints : plainFor mL_arePoints.1 = true := by decide +kernel
theorem vL_arePoints : z_mv mL_arePoints 8 := ⟨w6_7, wS76, ⟨(TL, 21), rfl⟩⟩
def mL_placeIn : z_M := (yL_placeIn, cL_placeIn, 3, some .int)
theorem tL_placeIn : z_mt mL_placeIn 1 := ⟨w6_82, w1_0, ⟨by decide, by decide⟩, by decide +kernel, by decide⟩
theorem pL_placeIn : plainFor mL_placeIn.1 = true := by decide +kernel
theorem vL_placeIn : z_mv mL_placeIn 8 := ⟨w6_81, wS79, ⟨(TL, 21), rfl⟩⟩
def mL_isPlayed : z_M := (yL_isPlayed, cL_isPlayed, 8, some .boolean)
theorem tL_isPlayed : z_mt mL_isPlayed 0 := ⟨w6_68, w1_0, ⟨by decide, by decide⟩, by decide +kernel, by decide⟩
theorem pL_isPlayed : plainFor mL_isPlayed.1 = true := by decide +kernel
theorem vL_isPlayed : z_mv mL_isPlayed 8 := ⟨w6_67, wS78, ⟨(TL, 21), rfl⟩⟩
def mL_isLadder : z_M := (yL_isLadder, cL_isLadder, 2, some .boolean)
theorem tL_isLadder : z_mt mL_isLadder 0 := ⟨w6_117, w1_0, ⟨by decide, by decide⟩, by decide +kernel, by decide⟩
theorem pL_isLadder : plainFor mL_isLadder.1 = true := by decide +kernel
theorem vL_isLadder : z_mv mL_isLadder 8 := ⟨w6_116, wS82, ⟨(TL, 21), rfl⟩⟩
def mL_isEnded : z_M := (yL_isEnded, cL_isEnded, 6, some .boolean)
theorem tL_isEnded : z_mt mL_isEnded 0 := ⟨w6_125, w1_0, ⟨by decide, by decide⟩, by decide +kernel, by decide⟩
theorem pL_isEnded : plainFor mL_isEnded.1 = true := by decide +kernel
theorem vL_isEnded : z_mv mL_isEnded 8 := ⟨w6_124, wS83, ⟨(TL, 21), rfl⟩⟩
def mL_form : z_M := (yL_form, cL_form, 11, some .int)
theorem tL_form : z_mt mL_form 3 := ⟨w6_178, w1_0, ⟨by decide, by decide⟩, by decide +kernel, by decide⟩
theorem pL_form : plainFor mL_form.1 = true := by decide +kernel
theorem vL_form : z_mv mL_form 8 := ⟨w6_177, wS90, ⟨(TL, 21), rfl⟩⟩
def mL_areForms : z_M := (yL_areForms, cL_areForms, 7, some .boolean)
theorem tL_areForms : z_mt mL_areForms 0 := ⟨w6_157, w1_0, ⟨by decide, by decide⟩, by decide +kernel, by decide⟩
theorem pL_areForms : plainFor mL_areForms.1 = true := by decide +kernel
theorem vL_areForms : z_mv mL_areForms 8 := ⟨w6_156, wS86, ⟨(TL, 21), rfl⟩⟩
def mL_placeThen : z_M := (yL_placeThen, cL_placeThen, 4, some .int)
theorem tL_placeThen : z_mt mL_placeThen 2 := ⟨w6_221, w1_0, ⟨by decide, by decide⟩, by decide +kernel, by decide⟩
theorem pL_placeThen : plainFor mL_placeThen.1 = true := by decide +kernel
theorem vL_placeThen : z_mv mL_placeThen 8 := ⟨w6_220, wS97, ⟨(TL, 21), rfl⟩⟩
def mL_areApart : z_M := (yL_areApart, cL_areApart, 13, some .boolean)
theorem tL_areApart : z_mt mL_areApart 0 := ⟨w6_186, w1_0, ⟨by decide, by decide⟩, by decide +kernel, by decide⟩
theorem pL_areApart : plainFor mL_areApart.1 = true := by decide +kernel
theorem vL_areApart : z_mv mL_areApart 8 := ⟨w6_185, wS91, ⟨(TL, 21), rfl⟩⟩
def mL_areGroups : z_M := (yL_areGroups, cL_areGroups, 9, some .boolean)
def hL_areGroups : List (Nat × Nat × Nat × Nat) := [(18, 29, 32, 281)]
theorem tL_areGroups : z_mtH mL_areGroups hL_areGroups 0 := ⟨w6_237, w1_0, ⟨by decide, by decide⟩, by decide +kernel, by decide⟩
theorem pL_areGroups : plainFor mL_areGroups.1 = true := by decide +kernel
theorem vL_areGroups : z_mv mL_areGroups 8 := ⟨w6_236, wS99, ⟨(TL, 21), rfl⟩⟩
def mL_stirred : z_M := (yL_stirred, cL_stirred, 6, some .int)
theorem tL_stirred : z_mt mL_stirred 1 := ⟨w7_37, w1_0, ⟨by decide, by decide⟩, by decide +kernel, by decide⟩
theorem pL_stirred : plainFor mL_stirred.1 = true := by decide +kernel
theorem sL_stirred : Cond.static mL_stirred.1 ∈ lw_tbl := w7_36
theorem thX7_97_101 : z_th "StandingsHall" 97 101 "java/lang/IllegalStateException" ["java/lang/RuntimeException", "java/lang/Exception"] := ⟨by decide, by decide, rfl, z_all (by decide +kernel)⟩
theorem thX7_115_119 : z_th "StandingsHall" 115 119 "java/lang/IllegalArgumentException" ["java/lang/RuntimeException", "java/lang/Exception"] := ⟨by decide, by decide, rfl, z_all (by decide +kernel)⟩
theorem thX7_193_197 : z_th "StandingsHall" 193 197 "java/lang/IndexOutOfBoundsException" ["java/lang/RuntimeException", "java/lang/Exception"] := ⟨by decide, by decide, rfl, z_all (by decide +kernel)⟩
theorem thX7_254_258 : z_thX "StandingsHall" 254 258 "java/util/NoSuchElementException" ["java/lang/Exception"] := ⟨13, prog_40_method_4_code, "java/lang/RuntimeException", ⟨by decide, by decide, by decide, rfl⟩, ⟨by decide +kernel, by decide +kernel, by decide +kernel, by decide +kernel⟩, z_all (by decide +kernel)⟩
