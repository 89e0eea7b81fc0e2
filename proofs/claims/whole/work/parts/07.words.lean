/-! WORDS of the tables by their places; classes, fields, methods (laid by wip/whole/gen/gen_names.py). -/
theorem z_inS {w : Cond} (h : w ∈ k2_sels lw_privs) : w ∈ lw_tbl := List.mem_append_left _ h
theorem z_inT {w : Cond} (h : w ∈ tables_1) : w ∈ lw_tbl := List.mem_append_right _ h
theorem z_in1 {w : Cond} (h : w ∈ tables_1_1) : w ∈ lw_tbl := z_inT (List.mem_append_left _ h)
theorem z_in2 {w : Cond} (h : w ∈ tables_1_2) : w ∈ lw_tbl := z_inT (List.mem_append_right _ (List.mem_append_left _ h))
theorem z_in3 {w : Cond} (h : w ∈ tables_1_3) : w ∈ lw_tbl := z_inT (List.mem_append_right _ (List.mem_append_right _ (List.mem_append_left _ h)))
theorem z_in4 {w : Cond} (h : w ∈ tables_1_4) : w ∈ lw_tbl := z_inT (List.mem_append_right _ (List.mem_append_right _ (List.mem_append_right _ (List.mem_append_left _ h))))
theorem z_in5 {w : Cond} (h : w ∈ tables_1_5) : w ∈ lw_tbl := z_inT (List.mem_append_right _ (List.mem_append_right _ (List.mem_append_right _ (List.mem_append_right _ (List.mem_append_left _ h)))))
theorem z_in6 {w : Cond} (h : w ∈ tables_1_6) : w ∈ lw_tbl := z_inT (List.mem_append_right _ (List.mem_append_right _ (List.mem_append_right _ (List.mem_append_right _ (List.mem_append_right _ (List.mem_append_left _ h))))))
theorem z_in7 {w : Cond} (h : w ∈ tables_1_7) : w ∈ lw_tbl := z_inT (List.mem_append_right _ (List.mem_append_right _ (List.mem_append_right _ (List.mem_append_right _ (List.mem_append_right _ (List.mem_append_right _ (List.mem_append_left _ h)))))))
theorem z_in8 {w : Cond} (h : w ∈ tables_1_8) : w ∈ lw_tbl := z_inT (List.mem_append_right _ (List.mem_append_right _ (List.mem_append_right _ (List.mem_append_right _ (List.mem_append_right _ (List.mem_append_right _ (List.mem_append_right _ h)))))))
theorem z_D {cc : ByteArray} {L : List (Nat × Instr × Nat)} (h : L.all (fun q => decide (decode cc q.1 = .ok q.2)) = true) (k : Nat) {pc len : Nat} {i : Instr} (hk : L[k]? = some (pc, i, len)) : decode cc pc = .ok (i, len) := by
  have := List.all_eq_true.mp h _ (List.mem_of_getElem? hk)
  exact of_decide_eq_true this
theorem z_all {L : List Cond} (h : L.all (fun w => decide (w ∈ lw_tbl) && z_gw w) = true) : ∀ w ∈ L, w ∈ lw_tbl ∧ z_gw w = true := by
  intro w hw
  have h1 := List.all_eq_true.mp h w hw
  rw [Bool.and_eq_true] at h1
  exact ⟨of_decide_eq_true h1.1, h1.2⟩
theorem z_dv {N : Nat} {ty : Nat → FieldType} {fs : List Value} (h : (List.range N).all (fun j => decide (defaultValue (ty j) = vp_V fs j)) = true) : ∀ j, j < N → defaultValue (ty j) = vp_V fs j := fun j hj => of_decide_eq_true (List.all_eq_true.mp h j (List.mem_range.mpr hj))
theorem z_lays {C : String} {T : u_T} {N : Nat} (l : List { w : Cond // w ∈ lw_tbl }) (h : u_ws C T N = l.map (·.1)) : ∀ w ∈ u_ws C T N, w ∈ lw_tbl := by
  intro w hw
  rw [h] at hw
  obtain ⟨q, -, rfl⟩ := List.mem_map.mp hw
  exact q.2
/-- a final field of a nest mate, read -/
def z_fdN (own : String) (ix ci kf : Nat) : Prop := ∃ (C : String) (T : u_T) (N : Nat) (ty : Nat → FieldType) (ref : String), z_cls ci C T N ty ∧ kf < N ∧ (∃ host : String, Cond.fieldLinkNest own ix ref (T kf).2.1 (T kf).2.2.1 host ∈ lw_tbl ∧ (ref = (T kf).1 ∨ Cond.sameField ref (T kf).1 (T kf).2.1 (T kf).2.2.1 ∈ lw_tbl))
theorem z_getfieldN {Y : z_Y} {d : Nat} {M : z_M} {pc pc' : Nat} {ls : List (Nat × Value)} {st : List Value} {h : z_H} {k n : Nat} {a ci ix kf : Nat} {fs : List Value} {v : Value} (hY : z_ok Y d M) (dd : z_at M pc (.getfield ix) 3 pc' ∧ z_fdN M.1.cls ix ci kf) (ha : h a = some (z_ob ci fs)) (hv : fs[kf]? = some v) (kk : z_W Y pc' ls (v :: st) h k n) : z_W Y pc ls (.ref a :: st) h k n := by
  obtain ⟨G, ⟨p, e, R, s, m, args, below, meth, c⟩, nL, mc, ms, φ, ψ⟩ := Y
  obtain ⟨hG, hx, hb, -, -, hown, -, -, hW, -⟩ := hY
  obtain ⟨⟨d1, rfl⟩, C, T, N, ty, ref, ⟨hc, hws, -, -⟩, hk, host, hl, hs⟩ := dd
  intro H locs lsA hR hL hlv
  have kk := kk H locs lsA hR hL hlv
  exact va_getN hx hb (z_lay (args := args) hG hW hws) (fun w hw => hw) hown (z_K hG hW) (hR.at ha) 0 rfl hc kf hk (z_wdF hG hW hl) (z_same hG hW hs) hv d1 kk
def z_tw (M : z_M) (pc : Nat) (cls : String) : Prop := (∃ (ik is ic : Nat) (text : String) (names : List String), z_th M.1.cls ik ic cls names ∧ Cond.stringRef M.1.cls is text ∈ lw_tbl ∧
  (z_at M pc (.new ik) 3 (pc + 3) ∧ z_at M (pc + 3) .dup 1 (pc + 4)) ∧ ((z_at M (pc + 4) (.ldc is) 2 (pc + 6) ∧ z_at M (pc + 6) (.invokespecial ic) 3 (pc + 9) ∧ z_at M (pc + 9) .athrow 1 (pc + 10)) ∨ (z_at M (pc + 4) (.ldc_w is) 3 (pc + 7) ∧ z_at M (pc + 7) (.invokespecial ic) 3 (pc + 10) ∧ z_at M (pc + 10) .athrow 1 (pc + 11)))) ∨
  (∃ (ik is ic : Nat) (text : String) (names : List String), z_thX M.1.cls ik ic cls names ∧ Cond.stringRef M.1.cls is text ∈ lw_tbl ∧
  (z_at M pc (.new ik) 3 (pc + 3) ∧ z_at M (pc + 3) .dup 1 (pc + 4)) ∧ ((z_at M (pc + 4) (.ldc is) 2 (pc + 6) ∧ z_at M (pc + 6) (.invokespecial ic) 3 (pc + 9) ∧ z_at M (pc + 9) .athrow 1 (pc + 10)) ∨ (z_at M (pc + 4) (.ldc_w is) 3 (pc + 7) ∧ z_at M (pc + 7) (.invokespecial ic) 3 (pc + 10) ∧ z_at M (pc + 10) .athrow 1 (pc + 11))))
theorem z_thr {Y : z_Y} {d : Nat} {M : z_M} {pc : Nat} {ls : List (Nat × Value)} {h : z_H} {k n : Nat} {cls : String} (hY : z_ok Y d M) (dd : z_tw M pc cls) (hk : k + 1 ≤ z_mc Y ∧ n + 6 ≤ z_ms Y) (hψ : z_ψ Y cls h) : z_W Y pc ls [] h k n := by
  rcases dd with ⟨ik, is, ic, text, names, h1, h2, h3⟩ | ⟨ik, is, ic, text, names, h1, h2, h3⟩
  · exact z_throw hY h1 h2 h3 rfl hk hψ
  · exact z_throw2 hY h1 h2 h3 rfl hk hψ
theorem w1_7 : (Jvm.Cond.initialized "java/util/ArrayList") ∈ lw_tbl := z_in1 (List.mem_of_getElem? (i := 7) rfl)
theorem w1_115 : (Jvm.Cond.code ({ cls := "java/util/ArrayList", name := "<init>", desc := "()V" } : Jvm.MethodName) prog_36_method_2_code (1 : Nat) (Option.none : Option Jvm.ClassFile.FieldType)) ∈ lw_tbl := z_in1 (List.mem_of_getElem? (i := 115) rfl)
theorem w1_114 : (Jvm.Cond.instanceMethod ({ cls := "java/util/ArrayList", name := "<init>", desc := "()V" } : Jvm.MethodName)) ∈ lw_tbl := z_in1 (List.mem_of_getElem? (i := 114) rfl)
theorem w1_6 : (Jvm.Cond.initialized "java/util/AbstractList") ∈ lw_tbl := z_in1 (List.mem_of_getElem? (i := 6) rfl)
theorem w1_118 : (Jvm.Cond.code ({ cls := "java/util/AbstractList", name := "<init>", desc := "()V" } : Jvm.MethodName) prog_35_method_1_code (1 : Nat) (Option.none : Option Jvm.ClassFile.FieldType)) ∈ lw_tbl := z_in1 (List.mem_of_getElem? (i := 118) rfl)
theorem w1_117 : (Jvm.Cond.instanceMethod ({ cls := "java/util/AbstractList", name := "<init>", desc := "()V" } : Jvm.MethodName)) ∈ lw_tbl := z_in1 (List.mem_of_getElem? (i := 117) rfl)
theorem w1_116 : (Jvm.Cond.methodLink "java/util/ArrayList" (1 : Nat) ({ cls := "java/util/AbstractList", name := "<init>", desc := "()V" } : Jvm.MethodName)) ∈ lw_tbl := z_in1 (List.mem_of_getElem? (i := 116) rfl)
theorem w1_125 : (Jvm.Cond.fieldLink "java/util/ArrayList" (9 : Nat) "java/util/ArrayList" "elementData" "[Ljava/lang/Object;") ∈ lw_tbl := z_in1 (List.mem_of_getElem? (i := 125) rfl)
theorem w3_141 : (Jvm.Cond.code ({ cls := "java/util/ArrayList", name := "add", desc := "(ILjava/lang/Object;)V" } : Jvm.MethodName) prog_36_method_26_code (5 : Nat) (Option.none : Option Jvm.ClassFile.FieldType)) ∈ lw_tbl := z_in3 (List.mem_of_getElem? (i := 141) rfl)
theorem w3_139 : (Jvm.Cond.instanceMethod ({ cls := "java/util/ArrayList", name := "add", desc := "(ILjava/lang/Object;)V" } : Jvm.MethodName)) ∈ lw_tbl := z_in3 (List.mem_of_getElem? (i := 139) rfl)
theorem w3_140 : (Jvm.Cond.selects "java/util/ArrayList" ({ cls := "java/util/ArrayList", name := "add", desc := "(ILjava/lang/Object;)V" } : Jvm.MethodName) ({ cls := "java/util/ArrayList", name := "add", desc := "(ILjava/lang/Object;)V" } : Jvm.MethodName)) ∈ lw_tbl := z_in3 (List.mem_of_getElem? (i := 140) rfl)
theorem w3_145 : (Jvm.Cond.code ({ cls := "java/util/ArrayList", name := "rangeCheckForAdd", desc := "(I)V" } : Jvm.MethodName) prog_36_method_45_code (2 : Nat) (Option.none : Option Jvm.ClassFile.FieldType)) ∈ lw_tbl := z_in3 (List.mem_of_getElem? (i := 145) rfl)
theorem w3_144 : (Jvm.Cond.instanceMethod ({ cls := "java/util/ArrayList", name := "rangeCheckForAdd", desc := "(I)V" } : Jvm.MethodName)) ∈ lw_tbl := z_in3 (List.mem_of_getElem? (i := 144) rfl)
theorem wS43 : (Cond.selects "java/util/ArrayList" ⟨"java/util/ArrayList", "rangeCheckForAdd", "(I)V"⟩ ⟨"java/util/ArrayList", "rangeCheckForAdd", "(I)V"⟩ : Cond) ∈ lw_tbl := z_inS (List.mem_of_getElem? (i := 43) rfl)
theorem w3_142 : (Jvm.Cond.methodLink "java/util/ArrayList" (135 : Nat) ({ cls := "java/util/ArrayList", name := "rangeCheckForAdd", desc := "(I)V" } : Jvm.MethodName)) ∈ lw_tbl := z_in3 (List.mem_of_getElem? (i := 142) rfl)
theorem w1_129 : (Jvm.Cond.sameField "java/util/ArrayList" "java/util/AbstractList" "modCount" "I") ∈ lw_tbl := z_in1 (List.mem_of_getElem? (i := 129) rfl)
theorem w1_128 : (Jvm.Cond.fieldLink "java/util/ArrayList" (63 : Nat) "java/util/ArrayList" "modCount" "I") ∈ lw_tbl := z_in1 (List.mem_of_getElem? (i := 128) rfl)
theorem w1_126 : (Jvm.Cond.fieldLink "java/util/ArrayList" (48 : Nat) "java/util/ArrayList" "size" "I") ∈ lw_tbl := z_in1 (List.mem_of_getElem? (i := 126) rfl)
theorem w4_174 : (Jvm.Cond.code ({ cls := "java/util/ArrayList", name := "grow", desc := "()[Ljava/lang/Object;" } : Jvm.MethodName) prog_36_method_7_code (1 : Nat) (Option.some (Jvm.ClassFile.FieldType.array (Jvm.ClassFile.FieldType.object "java/lang/Object")))) ∈ lw_tbl := z_in4 (List.mem_of_getElem? (i := 174) rfl)
theorem w4_173 : (Jvm.Cond.instanceMethod ({ cls := "java/util/ArrayList", name := "grow", desc := "()[Ljava/lang/Object;" } : Jvm.MethodName)) ∈ lw_tbl := z_in4 (List.mem_of_getElem? (i := 173) rfl)
theorem wS45 : (Cond.selects "java/util/ArrayList" ⟨"java/util/ArrayList", "grow", "()[Ljava/lang/Object;"⟩ ⟨"java/util/ArrayList", "grow", "()[Ljava/lang/Object;"⟩ : Cond) ∈ lw_tbl := z_inS (List.mem_of_getElem? (i := 45) rfl)
theorem w4_171 : (Jvm.Cond.methodLink "java/util/ArrayList" (129 : Nat) ({ cls := "java/util/ArrayList", name := "grow", desc := "()[Ljava/lang/Object;" } : Jvm.MethodName)) ∈ lw_tbl := z_in4 (List.mem_of_getElem? (i := 171) rfl)
theorem w5_9 : (Jvm.Cond.code ({ cls := "java/util/ArrayList", name := "add", desc := "(Ljava/lang/Object;)Z" } : Jvm.MethodName) prog_36_method_25_code (2 : Nat) (Option.some Jvm.ClassFile.FieldType.boolean)) ∈ lw_tbl := z_in5 (List.mem_of_getElem? (i := 9) rfl)
theorem w5_7 : (Jvm.Cond.instanceMethod ({ cls := "java/util/ArrayList", name := "add", desc := "(Ljava/lang/Object;)Z" } : Jvm.MethodName)) ∈ lw_tbl := z_in5 (List.mem_of_getElem? (i := 7) rfl)
theorem w5_8 : (Jvm.Cond.selects "java/util/ArrayList" ({ cls := "java/util/ArrayList", name := "add", desc := "(Ljava/lang/Object;)Z" } : Jvm.MethodName) ({ cls := "java/util/ArrayList", name := "add", desc := "(Ljava/lang/Object;)Z" } : Jvm.MethodName)) ∈ lw_tbl := z_in5 (List.mem_of_getElem? (i := 8) rfl)
theorem w5_13 : (Jvm.Cond.code ({ cls := "java/util/ArrayList", name := "add", desc := "(Ljava/lang/Object;[Ljava/lang/Object;I)V" } : Jvm.MethodName) prog_36_method_24_code (4 : Nat) (Option.none : Option Jvm.ClassFile.FieldType)) ∈ lw_tbl := z_in5 (List.mem_of_getElem? (i := 13) rfl)
theorem w5_12 : (Jvm.Cond.instanceMethod ({ cls := "java/util/ArrayList", name := "add", desc := "(Ljava/lang/Object;[Ljava/lang/Object;I)V" } : Jvm.MethodName)) ∈ lw_tbl := z_in5 (List.mem_of_getElem? (i := 12) rfl)
theorem wS50 : (Cond.selects "java/util/ArrayList" ⟨"java/util/ArrayList", "add", "(Ljava/lang/Object;[Ljava/lang/Object;I)V"⟩ ⟨"java/util/ArrayList", "add", "(Ljava/lang/Object;[Ljava/lang/Object;I)V"⟩ : Cond) ∈ lw_tbl := z_inS (List.mem_of_getElem? (i := 50) rfl)
theorem w5_10 : (Jvm.Cond.methodLink "java/util/ArrayList" (131 : Nat) ({ cls := "java/util/ArrayList", name := "add", desc := "(Ljava/lang/Object;[Ljava/lang/Object;I)V" } : Jvm.MethodName)) ∈ lw_tbl := z_in5 (List.mem_of_getElem? (i := 10) rfl)
theorem w3_133 : (Jvm.Cond.code ({ cls := "java/util/ArrayList", name := "clear", desc := "()V" } : Jvm.MethodName) prog_36_method_40_code (4 : Nat) (Option.none : Option Jvm.ClassFile.FieldType)) ∈ lw_tbl := z_in3 (List.mem_of_getElem? (i := 133) rfl)
theorem w3_131 : (Jvm.Cond.instanceMethod ({ cls := "java/util/ArrayList", name := "clear", desc := "()V" } : Jvm.MethodName)) ∈ lw_tbl := z_in3 (List.mem_of_getElem? (i := 131) rfl)
theorem w3_132 : (Jvm.Cond.selects "java/util/ArrayList" ({ cls := "java/util/ArrayList", name := "clear", desc := "()V" } : Jvm.MethodName) ({ cls := "java/util/ArrayList", name := "clear", desc := "()V" } : Jvm.MethodName)) ∈ lw_tbl := z_in3 (List.mem_of_getElem? (i := 132) rfl)
theorem w2_81 : (Jvm.Cond.code ({ cls := "java/util/ArrayList", name := "elementData", desc := "(I)Ljava/lang/Object;" } : Jvm.MethodName) prog_36_method_18_code (2 : Nat) (Option.some (Jvm.ClassFile.FieldType.object "java/lang/Object"))) ∈ lw_tbl := z_in2 (List.mem_of_getElem? (i := 81) rfl)
theorem w2_79 : (Jvm.Cond.instanceMethod ({ cls := "java/util/ArrayList", name := "elementData", desc := "(I)Ljava/lang/Object;" } : Jvm.MethodName)) ∈ lw_tbl := z_in2 (List.mem_of_getElem? (i := 79) rfl)
theorem w2_80 : (Jvm.Cond.selects "java/util/ArrayList" ({ cls := "java/util/ArrayList", name := "elementData", desc := "(I)Ljava/lang/Object;" } : Jvm.MethodName) ({ cls := "java/util/ArrayList", name := "elementData", desc := "(I)Ljava/lang/Object;" } : Jvm.MethodName)) ∈ lw_tbl := z_in2 (List.mem_of_getElem? (i := 80) rfl)
theorem w5_38 : (Jvm.Cond.code ({ cls := "java/util/ArrayList", name := "fastRemove", desc := "([Ljava/lang/Object;I)V" } : Jvm.MethodName) prog_36_method_39_code (4 : Nat) (Option.none : Option Jvm.ClassFile.FieldType)) ∈ lw_tbl := z_in5 (List.mem_of_getElem? (i := 38) rfl)
theorem w5_37 : (Jvm.Cond.instanceMethod ({ cls := "java/util/ArrayList", name := "fastRemove", desc := "([Ljava/lang/Object;I)V" } : Jvm.MethodName)) ∈ lw_tbl := z_in5 (List.mem_of_getElem? (i := 37) rfl)
theorem wS53 : (Cond.selects "java/util/ArrayList" ⟨"java/util/ArrayList", "fastRemove", "([Ljava/lang/Object;I)V"⟩ ⟨"java/util/ArrayList", "fastRemove", "([Ljava/lang/Object;I)V"⟩ : Cond) ∈ lw_tbl := z_inS (List.mem_of_getElem? (i := 53) rfl)
theorem w2_71 : (Jvm.Cond.code ({ cls := "java/util/ArrayList", name := "get", desc := "(I)Ljava/lang/Object;" } : Jvm.MethodName) prog_36_method_20_code (2 : Nat) (Option.some (Jvm.ClassFile.FieldType.object "java/lang/Object"))) ∈ lw_tbl := z_in2 (List.mem_of_getElem? (i := 71) rfl)
theorem w2_69 : (Jvm.Cond.instanceMethod ({ cls := "java/util/ArrayList", name := "get", desc := "(I)Ljava/lang/Object;" } : Jvm.MethodName)) ∈ lw_tbl := z_in2 (List.mem_of_getElem? (i := 69) rfl)
theorem w2_70 : (Jvm.Cond.selects "java/util/ArrayList" ({ cls := "java/util/ArrayList", name := "get", desc := "(I)Ljava/lang/Object;" } : Jvm.MethodName) ({ cls := "java/util/ArrayList", name := "get", desc := "(I)Ljava/lang/Object;" } : Jvm.MethodName)) ∈ lw_tbl := z_in2 (List.mem_of_getElem? (i := 70) rfl)
theorem w1_19 : (Jvm.Cond.initialized "java/util/Objects") ∈ lw_tbl := z_in1 (List.mem_of_getElem? (i := 19) rfl)
theorem w2_74 : (Jvm.Cond.code ({ cls := "java/util/Objects", name := "checkIndex", desc := "(II)I" } : Jvm.MethodName) prog_41_method_17_code (2 : Nat) (Option.some Jvm.ClassFile.FieldType.int)) ∈ lw_tbl := z_in2 (List.mem_of_getElem? (i := 74) rfl)
theorem w2_73 : (Jvm.Cond.static ({ cls := "java/util/Objects", name := "checkIndex", desc := "(II)I" } : Jvm.MethodName)) ∈ lw_tbl := z_in2 (List.mem_of_getElem? (i := 73) rfl)
theorem w2_72 : (Jvm.Cond.methodLink "java/util/ArrayList" (118 : Nat) ({ cls := "java/util/Objects", name := "checkIndex", desc := "(II)I" } : Jvm.MethodName)) ∈ lw_tbl := z_in2 (List.mem_of_getElem? (i := 72) rfl)
theorem w2_78 : (Jvm.Cond.methodLink "java/util/ArrayList" (123 : Nat) ({ cls := "java/util/ArrayList", name := "elementData", desc := "(I)Ljava/lang/Object;" } : Jvm.MethodName)) ∈ lw_tbl := z_in2 (List.mem_of_getElem? (i := 78) rfl)
theorem w4_178 : (Jvm.Cond.code ({ cls := "java/util/ArrayList", name := "grow", desc := "(I)[Ljava/lang/Object;" } : Jvm.MethodName) prog_36_method_6_code (4 : Nat) (Option.some (Jvm.ClassFile.FieldType.array (Jvm.ClassFile.FieldType.object "java/lang/Object")))) ∈ lw_tbl := z_in4 (List.mem_of_getElem? (i := 178) rfl)
theorem w4_177 : (Jvm.Cond.instanceMethod ({ cls := "java/util/ArrayList", name := "grow", desc := "(I)[Ljava/lang/Object;" } : Jvm.MethodName)) ∈ lw_tbl := z_in4 (List.mem_of_getElem? (i := 177) rfl)
theorem wS46 : (Cond.selects "java/util/ArrayList" ⟨"java/util/ArrayList", "grow", "(I)[Ljava/lang/Object;"⟩ ⟨"java/util/ArrayList", "grow", "(I)[Ljava/lang/Object;"⟩ : Cond) ∈ lw_tbl := z_inS (List.mem_of_getElem? (i := 46) rfl)
theorem w4_175 : (Jvm.Cond.methodLink "java/util/ArrayList" (69 : Nat) ({ cls := "java/util/ArrayList", name := "grow", desc := "(I)[Ljava/lang/Object;" } : Jvm.MethodName)) ∈ lw_tbl := z_in4 (List.mem_of_getElem? (i := 175) rfl)
theorem w1_26 : (Jvm.Cond.initialized "jdk/internal/util/ArraysSupport") ∈ lw_tbl := z_in1 (List.mem_of_getElem? (i := 26) rfl)
theorem w3_212 : (Jvm.Cond.code ({ cls := "jdk/internal/util/ArraysSupport", name := "newLength", desc := "(III)I" } : Jvm.MethodName) prog_44_method_27_code (4 : Nat) (Option.some Jvm.ClassFile.FieldType.int)) ∈ lw_tbl := z_in3 (List.mem_of_getElem? (i := 212) rfl)
theorem w3_211 : (Jvm.Cond.static ({ cls := "jdk/internal/util/ArraysSupport", name := "newLength", desc := "(III)I" } : Jvm.MethodName)) ∈ lw_tbl := z_in3 (List.mem_of_getElem? (i := 211) rfl)
theorem w4_179 : (Jvm.Cond.methodLink "java/util/ArrayList" (73 : Nat) ({ cls := "jdk/internal/util/ArraysSupport", name := "newLength", desc := "(III)I" } : Jvm.MethodName)) ∈ lw_tbl := z_in4 (List.mem_of_getElem? (i := 179) rfl)
theorem w1_12 : (Jvm.Cond.initialized "java/util/Arrays") ∈ lw_tbl := z_in1 (List.mem_of_getElem? (i := 12) rfl)
theorem w4_182 : (Jvm.Cond.code ({ cls := "java/util/Arrays", name := "copyOf", desc := "([Ljava/lang/Object;I)[Ljava/lang/Object;" } : Jvm.MethodName) prog_37_method_119_code (2 : Nat) (Option.some (Jvm.ClassFile.FieldType.array (Jvm.ClassFile.FieldType.object "java/lang/Object")))) ∈ lw_tbl := z_in4 (List.mem_of_getElem? (i := 182) rfl)
theorem w4_181 : (Jvm.Cond.static ({ cls := "java/util/Arrays", name := "copyOf", desc := "([Ljava/lang/Object;I)[Ljava/lang/Object;" } : Jvm.MethodName)) ∈ lw_tbl := z_in4 (List.mem_of_getElem? (i := 181) rfl)
theorem w4_180 : (Jvm.Cond.methodLink "java/util/ArrayList" (66 : Nat) ({ cls := "java/util/Arrays", name := "copyOf", desc := "([Ljava/lang/Object;I)[Ljava/lang/Object;" } : Jvm.MethodName)) ∈ lw_tbl := z_in4 (List.mem_of_getElem? (i := 180) rfl)
theorem w1_27 : (Jvm.Cond.initialized "java/lang/Math") ∈ lw_tbl := z_in1 (List.mem_of_getElem? (i := 27) rfl)
theorem w3_215 : (Jvm.Cond.code ({ cls := "java/lang/Math", name := "max", desc := "(II)I" } : Jvm.MethodName) prog_23_method_65_code (2 : Nat) (Option.some Jvm.ClassFile.FieldType.int)) ∈ lw_tbl := z_in3 (List.mem_of_getElem? (i := 215) rfl)
theorem w3_214 : (Jvm.Cond.static ({ cls := "java/lang/Math", name := "max", desc := "(II)I" } : Jvm.MethodName)) ∈ lw_tbl := z_in3 (List.mem_of_getElem? (i := 214) rfl)
theorem w4_209 : (Jvm.Cond.methodLink "java/util/ArrayList" (79 : Nat) ({ cls := "java/lang/Math", name := "max", desc := "(II)I" } : Jvm.MethodName)) ∈ lw_tbl := z_in4 (List.mem_of_getElem? (i := 209) rfl)
theorem w2_201 : (Jvm.Cond.code ({ cls := "java/util/ArrayList", name := "isEmpty", desc := "()Z" } : Jvm.MethodName) prog_36_method_9_code (1 : Nat) (Option.some Jvm.ClassFile.FieldType.boolean)) ∈ lw_tbl := z_in2 (List.mem_of_getElem? (i := 201) rfl)
theorem w2_199 : (Jvm.Cond.instanceMethod ({ cls := "java/util/ArrayList", name := "isEmpty", desc := "()Z" } : Jvm.MethodName)) ∈ lw_tbl := z_in2 (List.mem_of_getElem? (i := 199) rfl)
theorem w2_200 : (Jvm.Cond.selects "java/util/ArrayList" ({ cls := "java/util/ArrayList", name := "isEmpty", desc := "()Z" } : Jvm.MethodName) ({ cls := "java/util/ArrayList", name := "isEmpty", desc := "()Z" } : Jvm.MethodName)) ∈ lw_tbl := z_in2 (List.mem_of_getElem? (i := 200) rfl)
theorem w3_158 : (Jvm.Cond.code ({ cls := "java/util/ArrayList", name := "outOfBoundsMsg", desc := "(I)Ljava/lang/String;" } : Jvm.MethodName) prog_36_method_46_code (2 : Nat) (Option.some (Jvm.ClassFile.FieldType.object "java/lang/String"))) ∈ lw_tbl := z_in3 (List.mem_of_getElem? (i := 158) rfl)
theorem w3_157 : (Jvm.Cond.instanceMethod ({ cls := "java/util/ArrayList", name := "outOfBoundsMsg", desc := "(I)Ljava/lang/String;" } : Jvm.MethodName)) ∈ lw_tbl := z_in3 (List.mem_of_getElem? (i := 157) rfl)
theorem wS44 : (Cond.selects "java/util/ArrayList" ⟨"java/util/ArrayList", "outOfBoundsMsg", "(I)Ljava/lang/String;"⟩ ⟨"java/util/ArrayList", "outOfBoundsMsg", "(I)Ljava/lang/String;"⟩ : Cond) ∈ lw_tbl := z_inS (List.mem_of_getElem? (i := 44) rfl)
theorem w3_155 : (Jvm.Cond.methodLink "java/util/ArrayList" (198 : Nat) ({ cls := "java/util/ArrayList", name := "outOfBoundsMsg", desc := "(I)Ljava/lang/String;" } : Jvm.MethodName)) ∈ lw_tbl := z_in3 (List.mem_of_getElem? (i := 155) rfl)
theorem w5_34 : (Jvm.Cond.code ({ cls := "java/util/ArrayList", name := "remove", desc := "(I)Ljava/lang/Object;" } : Jvm.MethodName) prog_36_method_29_code (4 : Nat) (Option.some (Jvm.ClassFile.FieldType.object "java/lang/Object"))) ∈ lw_tbl := z_in5 (List.mem_of_getElem? (i := 34) rfl)
theorem w5_32 : (Jvm.Cond.instanceMethod ({ cls := "java/util/ArrayList", name := "remove", desc := "(I)Ljava/lang/Object;" } : Jvm.MethodName)) ∈ lw_tbl := z_in5 (List.mem_of_getElem? (i := 32) rfl)
theorem w5_33 : (Jvm.Cond.selects "java/util/ArrayList" ({ cls := "java/util/ArrayList", name := "remove", desc := "(I)Ljava/lang/Object;" } : Jvm.MethodName) ({ cls := "java/util/ArrayList", name := "remove", desc := "(I)Ljava/lang/Object;" } : Jvm.MethodName)) ∈ lw_tbl := z_in5 (List.mem_of_getElem? (i := 33) rfl)
theorem w5_35 : (Jvm.Cond.methodLink "java/util/ArrayList" (144 : Nat) ({ cls := "java/util/ArrayList", name := "fastRemove", desc := "([Ljava/lang/Object;I)V" } : Jvm.MethodName)) ∈ lw_tbl := z_in5 (List.mem_of_getElem? (i := 35) rfl)
theorem w6_57 : (Jvm.Cond.code ({ cls := "java/util/ArrayList", name := "set", desc := "(ILjava/lang/Object;)Ljava/lang/Object;" } : Jvm.MethodName) prog_36_method_23_code (4 : Nat) (Option.some (Jvm.ClassFile.FieldType.object "java/lang/Object"))) ∈ lw_tbl := z_in6 (List.mem_of_getElem? (i := 57) rfl)
theorem w6_55 : (Jvm.Cond.instanceMethod ({ cls := "java/util/ArrayList", name := "set", desc := "(ILjava/lang/Object;)Ljava/lang/Object;" } : Jvm.MethodName)) ∈ lw_tbl := z_in6 (List.mem_of_getElem? (i := 55) rfl)
theorem w6_56 : (Jvm.Cond.selects "java/util/ArrayList" ({ cls := "java/util/ArrayList", name := "set", desc := "(ILjava/lang/Object;)Ljava/lang/Object;" } : Jvm.MethodName) ({ cls := "java/util/ArrayList", name := "set", desc := "(ILjava/lang/Object;)Ljava/lang/Object;" } : Jvm.MethodName)) ∈ lw_tbl := z_in6 (List.mem_of_getElem? (i := 56) rfl)
theorem w2_54 : (Jvm.Cond.code ({ cls := "java/util/ArrayList", name := "size", desc := "()I" } : Jvm.MethodName) prog_36_method_8_code (1 : Nat) (Option.some Jvm.ClassFile.FieldType.int)) ∈ lw_tbl := z_in2 (List.mem_of_getElem? (i := 54) rfl)
theorem w2_52 : (Jvm.Cond.instanceMethod ({ cls := "java/util/ArrayList", name := "size", desc := "()I" } : Jvm.MethodName)) ∈ lw_tbl := z_in2 (List.mem_of_getElem? (i := 52) rfl)
theorem w2_53 : (Jvm.Cond.selects "java/util/ArrayList" ({ cls := "java/util/ArrayList", name := "size", desc := "()I" } : Jvm.MethodName) ({ cls := "java/util/ArrayList", name := "size", desc := "()I" } : Jvm.MethodName)) ∈ lw_tbl := z_in2 (List.mem_of_getElem? (i := 53) rfl)
theorem w1_5 : (Jvm.Cond.initialized "java/util/AbstractCollection") ∈ lw_tbl := z_in1 (List.mem_of_getElem? (i := 5) rfl)
theorem w1_121 : (Jvm.Cond.code ({ cls := "java/util/AbstractCollection", name := "<init>", desc := "()V" } : Jvm.MethodName) prog_34_method_1_code (1 : Nat) (Option.none : Option Jvm.ClassFile.FieldType)) ∈ lw_tbl := z_in1 (List.mem_of_getElem? (i := 121) rfl)
theorem w1_120 : (Jvm.Cond.instanceMethod ({ cls := "java/util/AbstractCollection", name := "<init>", desc := "()V" } : Jvm.MethodName)) ∈ lw_tbl := z_in1 (List.mem_of_getElem? (i := 120) rfl)
theorem w1_122 : (Jvm.Cond.methodLink "java/util/AbstractCollection" (1 : Nat) ({ cls := "java/lang/Object", name := "<init>", desc := "()V" } : Jvm.MethodName)) ∈ lw_tbl := z_in1 (List.mem_of_getElem? (i := 122) rfl)
theorem w1_119 : (Jvm.Cond.methodLink "java/util/AbstractList" (1 : Nat) ({ cls := "java/util/AbstractCollection", name := "<init>", desc := "()V" } : Jvm.MethodName)) ∈ lw_tbl := z_in1 (List.mem_of_getElem? (i := 119) rfl)
theorem w1_127 : (Jvm.Cond.fieldLink "java/util/AbstractList" (7 : Nat) "java/util/AbstractList" "modCount" "I") ∈ lw_tbl := z_in1 (List.mem_of_getElem? (i := 127) rfl)
theorem w1_192 : (Jvm.Cond.code ({ cls := "java/util/Arrays", name := "fill", desc := "([II)V" } : Jvm.MethodName) prog_37_method_103_code (4 : Nat) (Option.none : Option Jvm.ClassFile.FieldType)) ∈ lw_tbl := z_in1 (List.mem_of_getElem? (i := 192) rfl)
theorem w1_191 : (Jvm.Cond.static ({ cls := "java/util/Arrays", name := "fill", desc := "([II)V" } : Jvm.MethodName)) ∈ lw_tbl := z_in1 (List.mem_of_getElem? (i := 191) rfl)
theorem w4_205 : (Jvm.Cond.code ({ cls := "java/util/Arrays", name := "copyOf", desc := "([Ljava/lang/Object;ILjava/lang/Class;)[Ljava/lang/Object;" } : Jvm.MethodName) prog_37_method_120_code (4 : Nat) (Option.some (Jvm.ClassFile.FieldType.array (Jvm.ClassFile.FieldType.object "java/lang/Object")))) ∈ lw_tbl := z_in4 (List.mem_of_getElem? (i := 205) rfl)
theorem w4_204 : (Jvm.Cond.static ({ cls := "java/util/Arrays", name := "copyOf", desc := "([Ljava/lang/Object;ILjava/lang/Class;)[Ljava/lang/Object;" } : Jvm.MethodName)) ∈ lw_tbl := z_in4 (List.mem_of_getElem? (i := 204) rfl)
theorem w4_203 : (Jvm.Cond.methodLink "java/util/Arrays" (300 : Nat) ({ cls := "java/util/Arrays", name := "copyOf", desc := "([Ljava/lang/Object;ILjava/lang/Class;)[Ljava/lang/Object;" } : Jvm.MethodName)) ∈ lw_tbl := z_in4 (List.mem_of_getElem? (i := 203) rfl)
theorem w4_206 : (Jvm.Cond.classLink "java/util/Arrays" (110 : Nat) "[Ljava/lang/Object;") ∈ lw_tbl := z_in4 (List.mem_of_getElem? (i := 206) rfl)
theorem w3_233 : (Jvm.Cond.code ({ cls := "java/lang/Math", name := "min", desc := "(II)I" } : Jvm.MethodName) prog_23_method_69_code (2 : Nat) (Option.some Jvm.ClassFile.FieldType.int)) ∈ lw_tbl := z_in3 (List.mem_of_getElem? (i := 233) rfl)
theorem w3_232 : (Jvm.Cond.static ({ cls := "java/lang/Math", name := "min", desc := "(II)I" } : Jvm.MethodName)) ∈ lw_tbl := z_in3 (List.mem_of_getElem? (i := 232) rfl)
theorem w3_231 : (Jvm.Cond.methodLink "java/util/Arrays" (304 : Nat) ({ cls := "java/lang/Math", name := "min", desc := "(II)I" } : Jvm.MethodName)) ∈ lw_tbl := z_in3 (List.mem_of_getElem? (i := 231) rfl)
theorem w6_64 : (Jvm.Cond.code ({ cls := "java/lang/Math", name := "floorMod", desc := "(II)I" } : Jvm.MethodName) prog_23_method_50_code (3 : Nat) (Option.some Jvm.ClassFile.FieldType.int)) ∈ lw_tbl := z_in6 (List.mem_of_getElem? (i := 64) rfl)
theorem w6_63 : (Jvm.Cond.static ({ cls := "java/lang/Math", name := "floorMod", desc := "(II)I" } : Jvm.MethodName)) ∈ lw_tbl := z_in6 (List.mem_of_getElem? (i := 63) rfl)
theorem w1_20 : (Jvm.Cond.initialized "jdk/internal/util/Preconditions") ∈ lw_tbl := z_in1 (List.mem_of_getElem? (i := 20) rfl)
theorem w2_77 : (Jvm.Cond.code ({ cls := "jdk/internal/util/Preconditions", name := "checkIndex", desc := "(IILjava/util/function/BiFunction;)I" } : Jvm.MethodName) prog_45_method_11_code (3 : Nat) (Option.some Jvm.ClassFile.FieldType.int)) ∈ lw_tbl := z_in2 (List.mem_of_getElem? (i := 77) rfl)
theorem w2_76 : (Jvm.Cond.static ({ cls := "jdk/internal/util/Preconditions", name := "checkIndex", desc := "(IILjava/util/function/BiFunction;)I" } : Jvm.MethodName)) ∈ lw_tbl := z_in2 (List.mem_of_getElem? (i := 76) rfl)
theorem w2_75 : (Jvm.Cond.methodLink "java/util/Objects" (105 : Nat) ({ cls := "jdk/internal/util/Preconditions", name := "checkIndex", desc := "(IILjava/util/function/BiFunction;)I" } : Jvm.MethodName)) ∈ lw_tbl := z_in2 (List.mem_of_getElem? (i := 75) rfl)
theorem w3_213 : (Jvm.Cond.methodLink "jdk/internal/util/ArraysSupport" (194 : Nat) ({ cls := "java/lang/Math", name := "max", desc := "(II)I" } : Jvm.MethodName)) ∈ lw_tbl := z_in3 (List.mem_of_getElem? (i := 213) rfl)
theorem w3_216 : (Jvm.Cond.constant "jdk/internal/util/ArraysSupport" (200 : Nat) (2147483639 : Int32)) ∈ lw_tbl := z_in3 (List.mem_of_getElem? (i := 216) rfl)
theorem w3_219 : (Jvm.Cond.code ({ cls := "jdk/internal/util/ArraysSupport", name := "hugeLength", desc := "(II)I" } : Jvm.MethodName) prog_44_method_28_code (3 : Nat) (Option.some Jvm.ClassFile.FieldType.int)) ∈ lw_tbl := z_in3 (List.mem_of_getElem? (i := 219) rfl)
theorem w3_218 : (Jvm.Cond.static ({ cls := "jdk/internal/util/ArraysSupport", name := "hugeLength", desc := "(II)I" } : Jvm.MethodName)) ∈ lw_tbl := z_in3 (List.mem_of_getElem? (i := 218) rfl)
theorem w3_217 : (Jvm.Cond.methodLink "jdk/internal/util/ArraysSupport" (201 : Nat) ({ cls := "jdk/internal/util/ArraysSupport", name := "hugeLength", desc := "(II)I" } : Jvm.MethodName)) ∈ lw_tbl := z_in3 (List.mem_of_getElem? (i := 217) rfl)
theorem w1_11 : (Jvm.Cond.initialized "StandingsHall$Entrant") ∈ lw_tbl := z_in1 (List.mem_of_getElem? (i := 11) rfl)
theorem w1_188 : (Jvm.Cond.code ({ cls := "StandingsHall$Entrant", name := "<init>", desc := "(II)V" } : Jvm.MethodName) prog_2_method_1_code (3 : Nat) (Option.none : Option Jvm.ClassFile.FieldType)) ∈ lw_tbl := z_in1 (List.mem_of_getElem? (i := 188) rfl)
theorem w1_187 : (Jvm.Cond.instanceMethod ({ cls := "StandingsHall$Entrant", name := "<init>", desc := "(II)V" } : Jvm.MethodName)) ∈ lw_tbl := z_in1 (List.mem_of_getElem? (i := 187) rfl)
theorem w1_189 : (Jvm.Cond.methodLink "StandingsHall$Entrant" (3 : Nat) ({ cls := "java/lang/Object", name := "<init>", desc := "()V" } : Jvm.MethodName)) ∈ lw_tbl := z_in1 (List.mem_of_getElem? (i := 189) rfl)
theorem w1_201 : (Jvm.Cond.fieldLink "StandingsHall$Entrant" (9 : Nat) "StandingsHall$Entrant" "scores" "[I") ∈ lw_tbl := z_in1 (List.mem_of_getElem? (i := 201) rfl)
theorem w1_202 : (Jvm.Cond.fieldLink "StandingsHall$Entrant" (15 : Nat) "StandingsHall$Entrant" "merits" "[I") ∈ lw_tbl := z_in1 (List.mem_of_getElem? (i := 202) rfl)
theorem w1_209 : (Jvm.Cond.fieldLink "StandingsHall$Entrant" (18 : Nat) "StandingsHall$Entrant" "gains" "[I") ∈ lw_tbl := z_in1 (List.mem_of_getElem? (i := 209) rfl)
theorem w1_210 : (Jvm.Cond.fieldLink "StandingsHall$Entrant" (21 : Nat) "StandingsHall$Entrant" "places" "[I") ∈ lw_tbl := z_in1 (List.mem_of_getElem? (i := 210) rfl)
theorem w1_193 : (Jvm.Cond.fieldLink "StandingsHall$Entrant" (24 : Nat) "StandingsHall$Entrant" "number" "I") ∈ lw_tbl := z_in1 (List.mem_of_getElem? (i := 193) rfl)
theorem w1_196 : (Jvm.Cond.fieldLink "StandingsHall$Entrant" (28 : Nat) "StandingsHall$Entrant" "group" "I") ∈ lw_tbl := z_in1 (List.mem_of_getElem? (i := 196) rfl)
theorem w1_199 : (Jvm.Cond.fieldLink "StandingsHall$Entrant" (31 : Nat) "StandingsHall$Entrant" "isThere" "Z") ∈ lw_tbl := z_in1 (List.mem_of_getElem? (i := 199) rfl)
theorem w1_204 : (Jvm.Cond.fieldLink "StandingsHall$Entrant" (35 : Nat) "StandingsHall$Entrant" "place" "I") ∈ lw_tbl := z_in1 (List.mem_of_getElem? (i := 204) rfl)
theorem w1_190 : (Jvm.Cond.methodLink "StandingsHall$Entrant" (38 : Nat) ({ cls := "java/util/Arrays", name := "fill", desc := "([II)V" } : Jvm.MethodName)) ∈ lw_tbl := z_in1 (List.mem_of_getElem? (i := 190) rfl)
theorem w1_211 : (Jvm.Cond.fieldLink "StandingsHall$Entrant" (44 : Nat) "StandingsHall$Entrant" "entered" "I") ∈ lw_tbl := z_in1 (List.mem_of_getElem? (i := 211) rfl)
theorem w1_213 : (Jvm.Cond.fieldLink "StandingsHall$Entrant" (47 : Nat) "StandingsHall$Entrant" "played" "I") ∈ lw_tbl := z_in1 (List.mem_of_getElem? (i := 213) rfl)
theorem w2_123 : (Jvm.Cond.code ({ cls := "StandingsHall$Entrant", name := "points", desc := "()I" } : Jvm.MethodName) prog_2_method_2_code (1 : Nat) (Option.some Jvm.ClassFile.FieldType.int)) ∈ lw_tbl := z_in2 (List.mem_of_getElem? (i := 123) rfl)
theorem w2_122 : (Jvm.Cond.instanceMethod ({ cls := "StandingsHall$Entrant", name := "points", desc := "()I" } : Jvm.MethodName)) ∈ lw_tbl := z_in2 (List.mem_of_getElem? (i := 122) rfl)
theorem wS11 : (Cond.selects "StandingsHall$Entrant" ⟨"StandingsHall$Entrant", "points", "()I"⟩ ⟨"StandingsHall$Entrant", "points", "()I"⟩ : Cond) ∈ lw_tbl := z_inS (List.mem_of_getElem? (i := 11) rfl)
theorem w2_160 : (Jvm.Cond.code ({ cls := "StandingsHall$Entrant", name := "scoreIn", desc := "(I)I" } : Jvm.MethodName) prog_2_method_3_code (2 : Nat) (Option.some Jvm.ClassFile.FieldType.int)) ∈ lw_tbl := z_in2 (List.mem_of_getElem? (i := 160) rfl)
theorem w2_159 : (Jvm.Cond.instanceMethod ({ cls := "StandingsHall$Entrant", name := "scoreIn", desc := "(I)I" } : Jvm.MethodName)) ∈ lw_tbl := z_in2 (List.mem_of_getElem? (i := 159) rfl)
theorem wS15 : (Cond.selects "StandingsHall$Entrant" ⟨"StandingsHall$Entrant", "scoreIn", "(I)I"⟩ ⟨"StandingsHall$Entrant", "scoreIn", "(I)I"⟩ : Cond) ∈ lw_tbl := z_inS (List.mem_of_getElem? (i := 15) rfl)
theorem w2_164 : (Jvm.Cond.code ({ cls := "StandingsHall$Entrant", name := "putScore", desc := "(II)V" } : Jvm.MethodName) prog_2_method_4_code (3 : Nat) (Option.none : Option Jvm.ClassFile.FieldType)) ∈ lw_tbl := z_in2 (List.mem_of_getElem? (i := 164) rfl)
theorem w2_163 : (Jvm.Cond.instanceMethod ({ cls := "StandingsHall$Entrant", name := "putScore", desc := "(II)V" } : Jvm.MethodName)) ∈ lw_tbl := z_in2 (List.mem_of_getElem? (i := 163) rfl)
theorem wS16 : (Cond.selects "StandingsHall$Entrant" ⟨"StandingsHall$Entrant", "putScore", "(II)V"⟩ ⟨"StandingsHall$Entrant", "putScore", "(II)V"⟩ : Cond) ∈ lw_tbl := z_inS (List.mem_of_getElem? (i := 16) rfl)
theorem w2_90 : (Jvm.Cond.code ({ cls := "StandingsHall$Entrant", name := "isBetterThan", desc := "(LStandingsHall$Entrant;)Z" } : Jvm.MethodName) prog_2_method_5_code (3 : Nat) (Option.some Jvm.ClassFile.FieldType.boolean)) ∈ lw_tbl := z_in2 (List.mem_of_getElem? (i := 90) rfl)
theorem w2_89 : (Jvm.Cond.instanceMethod ({ cls := "StandingsHall$Entrant", name := "isBetterThan", desc := "(LStandingsHall$Entrant;)Z" } : Jvm.MethodName)) ∈ lw_tbl := z_in2 (List.mem_of_getElem? (i := 89) rfl)
theorem wS6 : (Cond.selects "StandingsHall$Entrant" ⟨"StandingsHall$Entrant", "isBetterThan", "(LStandingsHall$Entrant;)Z"⟩ ⟨"StandingsHall$Entrant", "isBetterThan", "(LStandingsHall$Entrant;)Z"⟩ : Cond) ∈ lw_tbl := z_inS (List.mem_of_getElem? (i := 6) rfl)
theorem w2_86 : (Jvm.Cond.code ({ cls := "StandingsHall$Entrant", name := "isAlikeWith", desc := "(LStandingsHall$Entrant;)Z" } : Jvm.MethodName) prog_2_method_6_code (2 : Nat) (Option.some Jvm.ClassFile.FieldType.boolean)) ∈ lw_tbl := z_in2 (List.mem_of_getElem? (i := 86) rfl)
theorem w2_85 : (Jvm.Cond.instanceMethod ({ cls := "StandingsHall$Entrant", name := "isAlikeWith", desc := "(LStandingsHall$Entrant;)Z" } : Jvm.MethodName)) ∈ lw_tbl := z_in2 (List.mem_of_getElem? (i := 85) rfl)
theorem wS5 : (Cond.selects "StandingsHall$Entrant" ⟨"StandingsHall$Entrant", "isAlikeWith", "(LStandingsHall$Entrant;)Z"⟩ ⟨"StandingsHall$Entrant", "isAlikeWith", "(LStandingsHall$Entrant;)Z"⟩ : Cond) ∈ lw_tbl := z_inS (List.mem_of_getElem? (i := 5) rfl)
theorem w2_87 : (Jvm.Cond.methodLink "StandingsHall$Entrant" (50 : Nat) ({ cls := "StandingsHall$Entrant", name := "isBetterThan", desc := "(LStandingsHall$Entrant;)Z" } : Jvm.MethodName)) ∈ lw_tbl := z_in2 (List.mem_of_getElem? (i := 87) rfl)
theorem w2_181 : (Jvm.Cond.code ({ cls := "StandingsHall$Entrant", name := "isAheadOf", desc := "(LStandingsHall$Entrant;)Z" } : Jvm.MethodName) prog_2_method_7_code (2 : Nat) (Option.some Jvm.ClassFile.FieldType.boolean)) ∈ lw_tbl := z_in2 (List.mem_of_getElem? (i := 181) rfl)
theorem w2_180 : (Jvm.Cond.instanceMethod ({ cls := "StandingsHall$Entrant", name := "isAheadOf", desc := "(LStandingsHall$Entrant;)Z" } : Jvm.MethodName)) ∈ lw_tbl := z_in2 (List.mem_of_getElem? (i := 180) rfl)
theorem wS20 : (Cond.selects "StandingsHall$Entrant" ⟨"StandingsHall$Entrant", "isAheadOf", "(LStandingsHall$Entrant;)Z"⟩ ⟨"StandingsHall$Entrant", "isAheadOf", "(LStandingsHall$Entrant;)Z"⟩ : Cond) ∈ lw_tbl := z_inS (List.mem_of_getElem? (i := 20) rfl)
theorem w6_61 : (Jvm.Cond.code ({ cls := "StandingsHall$Entrant", name := "keepRound", desc := "(I)V" } : Jvm.MethodName) prog_2_method_8_code (2 : Nat) (Option.none : Option Jvm.ClassFile.FieldType)) ∈ lw_tbl := z_in6 (List.mem_of_getElem? (i := 61) rfl)
theorem w6_60 : (Jvm.Cond.instanceMethod ({ cls := "StandingsHall$Entrant", name := "keepRound", desc := "(I)V" } : Jvm.MethodName)) ∈ lw_tbl := z_in6 (List.mem_of_getElem? (i := 60) rfl)
theorem wS68 : (Cond.selects "StandingsHall$Entrant" ⟨"StandingsHall$Entrant", "keepRound", "(I)V"⟩ ⟨"StandingsHall$Entrant", "keepRound", "(I)V"⟩ : Cond) ∈ lw_tbl := z_inS (List.mem_of_getElem? (i := 68) rfl)
theorem w6_62 : (Jvm.Cond.methodLink "StandingsHall$Entrant" (54 : Nat) ({ cls := "java/lang/Math", name := "floorMod", desc := "(II)I" } : Jvm.MethodName)) ∈ lw_tbl := z_in6 (List.mem_of_getElem? (i := 62) rfl)
theorem w1_207 : (Jvm.Cond.fieldLink "StandingsHall$Entrant" (60 : Nat) "StandingsHall$Entrant" "gained" "I") ∈ lw_tbl := z_in1 (List.mem_of_getElem? (i := 207) rfl)
theorem w6_91 : (Jvm.Cond.code ({ cls := "StandingsHall$Entrant", name := "gainIn", desc := "(I)I" } : Jvm.MethodName) prog_2_method_9_code (2 : Nat) (Option.some Jvm.ClassFile.FieldType.int)) ∈ lw_tbl := z_in6 (List.mem_of_getElem? (i := 91) rfl)
theorem w6_90 : (Jvm.Cond.instanceMethod ({ cls := "StandingsHall$Entrant", name := "gainIn", desc := "(I)I" } : Jvm.MethodName)) ∈ lw_tbl := z_in6 (List.mem_of_getElem? (i := 90) rfl)
theorem wS71 : (Cond.selects "StandingsHall$Entrant" ⟨"StandingsHall$Entrant", "gainIn", "(I)I"⟩ ⟨"StandingsHall$Entrant", "gainIn", "(I)I"⟩ : Cond) ∈ lw_tbl := z_inS (List.mem_of_getElem? (i := 71) rfl)
theorem w6_115 : (Jvm.Cond.code ({ cls := "StandingsHall$Entrant", name := "placeIn", desc := "(I)I" } : Jvm.MethodName) prog_2_method_10_code (2 : Nat) (Option.some Jvm.ClassFile.FieldType.int)) ∈ lw_tbl := z_in6 (List.mem_of_getElem? (i := 115) rfl)
theorem w6_114 : (Jvm.Cond.instanceMethod ({ cls := "StandingsHall$Entrant", name := "placeIn", desc := "(I)I" } : Jvm.MethodName)) ∈ lw_tbl := z_in6 (List.mem_of_getElem? (i := 114) rfl)
theorem wS73 : (Cond.selects "StandingsHall$Entrant" ⟨"StandingsHall$Entrant", "placeIn", "(I)I"⟩ ⟨"StandingsHall$Entrant", "placeIn", "(I)I"⟩ : Cond) ∈ lw_tbl := z_inS (List.mem_of_getElem? (i := 73) rfl)
theorem w1_10 : (Jvm.Cond.initialized "StandingsHall$Ladder") ∈ lw_tbl := z_in1 (List.mem_of_getElem? (i := 10) rfl)
theorem w1_167 : (Jvm.Cond.code ({ cls := "StandingsHall$Ladder", name := "<init>", desc := "()V" } : Jvm.MethodName) prog_3_method_1_code (1 : Nat) (Option.none : Option Jvm.ClassFile.FieldType)) ∈ lw_tbl := z_in1 (List.mem_of_getElem? (i := 167) rfl)
theorem w1_166 : (Jvm.Cond.instanceMethod ({ cls := "StandingsHall$Ladder", name := "<init>", desc := "()V" } : Jvm.MethodName)) ∈ lw_tbl := z_in1 (List.mem_of_getElem? (i := 166) rfl)
theorem w1_168 : (Jvm.Cond.methodLink "StandingsHall$Ladder" (3 : Nat) ({ cls := "java/lang/Object", name := "<init>", desc := "()V" } : Jvm.MethodName)) ∈ lw_tbl := z_in1 (List.mem_of_getElem? (i := 168) rfl)
theorem w1_169 : (Jvm.Cond.classLink "StandingsHall$Ladder" (9 : Nat) "java/util/ArrayList") ∈ lw_tbl := z_in1 (List.mem_of_getElem? (i := 169) rfl)
theorem w1_112 : (Jvm.Cond.instantiable "java/util/ArrayList" (3 : Nat)) ∈ lw_tbl := z_in1 (List.mem_of_getElem? (i := 112) rfl)
theorem w1_170 : (Jvm.Cond.methodLink "StandingsHall$Ladder" (11 : Nat) ({ cls := "java/util/ArrayList", name := "<init>", desc := "()V" } : Jvm.MethodName)) ∈ lw_tbl := z_in1 (List.mem_of_getElem? (i := 170) rfl)
theorem w1_171 : (Jvm.Cond.fieldLink "StandingsHall$Ladder" (12 : Nat) "StandingsHall$Ladder" "row" "Ljava/util/ArrayList;") ∈ lw_tbl := z_in1 (List.mem_of_getElem? (i := 171) rfl)
theorem w1_173 : (Jvm.Cond.fieldLink "StandingsHall$Ladder" (18 : Nat) "StandingsHall$Ladder" "reach" "I") ∈ lw_tbl := z_in1 (List.mem_of_getElem? (i := 173) rfl)
theorem w1_175 : (Jvm.Cond.fieldLink "StandingsHall$Ladder" (22 : Nat) "StandingsHall$Ladder" "patience" "I") ∈ lw_tbl := z_in1 (List.mem_of_getElem? (i := 175) rfl)
theorem w5_229 : (Jvm.Cond.code ({ cls := "StandingsHall$Ladder", name := "put", desc := "(LStandingsHall$Entrant;I)V" } : Jvm.MethodName) prog_3_method_2_code (3 : Nat) (Option.none : Option Jvm.ClassFile.FieldType)) ∈ lw_tbl := z_in5 (List.mem_of_getElem? (i := 229) rfl)
theorem w5_228 : (Jvm.Cond.instanceMethod ({ cls := "StandingsHall$Ladder", name := "put", desc := "(LStandingsHall$Entrant;I)V" } : Jvm.MethodName)) ∈ lw_tbl := z_in5 (List.mem_of_getElem? (i := 228) rfl)
theorem wS65 : (Cond.selects "StandingsHall$Ladder" ⟨"StandingsHall$Ladder", "put", "(LStandingsHall$Entrant;I)V"⟩ ⟨"StandingsHall$Ladder", "put", "(LStandingsHall$Entrant;I)V"⟩ : Cond) ∈ lw_tbl := z_inS (List.mem_of_getElem? (i := 65) rfl)
theorem w1_212 : (Jvm.Cond.fieldLinkNest "StandingsHall$Ladder" (25 : Nat) "StandingsHall$Entrant" "entered" "I" "StandingsHall") ∈ lw_tbl := z_in1 (List.mem_of_getElem? (i := 212) rfl)
theorem w5_230 : (Jvm.Cond.methodLink "StandingsHall$Ladder" (30 : Nat) ({ cls := "java/util/ArrayList", name := "add", desc := "(Ljava/lang/Object;)Z" } : Jvm.MethodName)) ∈ lw_tbl := z_in5 (List.mem_of_getElem? (i := 230) rfl)
theorem w5_47 : (Jvm.Cond.code ({ cls := "StandingsHall$Ladder", name := "take", desc := "(LStandingsHall$Entrant;)V" } : Jvm.MethodName) prog_3_method_3_code (3 : Nat) (Option.none : Option Jvm.ClassFile.FieldType)) ∈ lw_tbl := z_in5 (List.mem_of_getElem? (i := 47) rfl)
theorem w5_46 : (Jvm.Cond.instanceMethod ({ cls := "StandingsHall$Ladder", name := "take", desc := "(LStandingsHall$Entrant;)V" } : Jvm.MethodName)) ∈ lw_tbl := z_in5 (List.mem_of_getElem? (i := 46) rfl)
theorem wS55 : (Cond.selects "StandingsHall$Ladder" ⟨"StandingsHall$Ladder", "take", "(LStandingsHall$Entrant;)V"⟩ ⟨"StandingsHall$Ladder", "take", "(LStandingsHall$Entrant;)V"⟩ : Cond) ∈ lw_tbl := z_inS (List.mem_of_getElem? (i := 55) rfl)
theorem w5_51 : (Jvm.Cond.code ({ cls := "StandingsHall$Ladder", name := "placeIn", desc := "(LStandingsHall$Entrant;)I" } : Jvm.MethodName) prog_3_method_4_code (3 : Nat) (Option.some Jvm.ClassFile.FieldType.int)) ∈ lw_tbl := z_in5 (List.mem_of_getElem? (i := 51) rfl)
theorem w5_50 : (Jvm.Cond.instanceMethod ({ cls := "StandingsHall$Ladder", name := "placeIn", desc := "(LStandingsHall$Entrant;)I" } : Jvm.MethodName)) ∈ lw_tbl := z_in5 (List.mem_of_getElem? (i := 50) rfl)
theorem wS56 : (Cond.selects "StandingsHall$Ladder" ⟨"StandingsHall$Ladder", "placeIn", "(LStandingsHall$Entrant;)I"⟩ ⟨"StandingsHall$Ladder", "placeIn", "(LStandingsHall$Entrant;)I"⟩ : Cond) ∈ lw_tbl := z_inS (List.mem_of_getElem? (i := 56) rfl)
theorem w5_48 : (Jvm.Cond.methodLink "StandingsHall$Ladder" (34 : Nat) ({ cls := "StandingsHall$Ladder", name := "placeIn", desc := "(LStandingsHall$Entrant;)I" } : Jvm.MethodName)) ∈ lw_tbl := z_in5 (List.mem_of_getElem? (i := 48) rfl)
theorem w5_52 : (Jvm.Cond.methodLink "StandingsHall$Ladder" (38 : Nat) ({ cls := "java/util/ArrayList", name := "size", desc := "()I" } : Jvm.MethodName)) ∈ lw_tbl := z_in5 (List.mem_of_getElem? (i := 52) rfl)
theorem w5_54 : (Jvm.Cond.methodLink "StandingsHall$Ladder" (42 : Nat) ({ cls := "java/util/ArrayList", name := "remove", desc := "(I)Ljava/lang/Object;" } : Jvm.MethodName)) ∈ lw_tbl := z_in5 (List.mem_of_getElem? (i := 54) rfl)
theorem w5_53 : (Jvm.Cond.methodLink "StandingsHall$Ladder" (46 : Nat) ({ cls := "java/util/ArrayList", name := "get", desc := "(I)Ljava/lang/Object;" } : Jvm.MethodName)) ∈ lw_tbl := z_in5 (List.mem_of_getElem? (i := 53) rfl)
theorem w6_2 : (Jvm.Cond.code ({ cls := "StandingsHall$Ladder", name := "raise", desc := "(II)V" } : Jvm.MethodName) prog_3_method_5_code (4 : Nat) (Option.none : Option Jvm.ClassFile.FieldType)) ∈ lw_tbl := z_in6 (List.mem_of_getElem? (i := 2) rfl)
theorem w6_1 : (Jvm.Cond.instanceMethod ({ cls := "StandingsHall$Ladder", name := "raise", desc := "(II)V" } : Jvm.MethodName)) ∈ lw_tbl := z_in6 (List.mem_of_getElem? (i := 1) rfl)
theorem wS66 : (Cond.selects "StandingsHall$Ladder" ⟨"StandingsHall$Ladder", "raise", "(II)V"⟩ ⟨"StandingsHall$Ladder", "raise", "(II)V"⟩ : Cond) ∈ lw_tbl := z_inS (List.mem_of_getElem? (i := 66) rfl)
theorem w6_3 : (Jvm.Cond.classLink "StandingsHall$Ladder" (26 : Nat) "StandingsHall$Entrant") ∈ lw_tbl := z_in6 (List.mem_of_getElem? (i := 3) rfl)
theorem w6_4 : (Jvm.Cond.methodLink "StandingsHall$Ladder" (49 : Nat) ({ cls := "java/util/ArrayList", name := "add", desc := "(ILjava/lang/Object;)V" } : Jvm.MethodName)) ∈ lw_tbl := z_in6 (List.mem_of_getElem? (i := 4) rfl)
theorem w6_53 : (Jvm.Cond.code ({ cls := "StandingsHall$Ladder", name := "letFall", desc := "(I)V" } : Jvm.MethodName) prog_3_method_6_code (5 : Nat) (Option.none : Option Jvm.ClassFile.FieldType)) ∈ lw_tbl := z_in6 (List.mem_of_getElem? (i := 53) rfl)
theorem w6_52 : (Jvm.Cond.instanceMethod ({ cls := "StandingsHall$Ladder", name := "letFall", desc := "(I)V" } : Jvm.MethodName)) ∈ lw_tbl := z_in6 (List.mem_of_getElem? (i := 52) rfl)
theorem wS67 : (Cond.selects "StandingsHall$Ladder" ⟨"StandingsHall$Ladder", "letFall", "(I)V"⟩ ⟨"StandingsHall$Ladder", "letFall", "(I)V"⟩ : Cond) ∈ lw_tbl := z_inS (List.mem_of_getElem? (i := 67) rfl)
theorem w1_214 : (Jvm.Cond.fieldLinkNest "StandingsHall$Ladder" (52 : Nat) "StandingsHall$Entrant" "played" "I" "StandingsHall") ∈ lw_tbl := z_in1 (List.mem_of_getElem? (i := 214) rfl)
theorem w6_54 : (Jvm.Cond.methodLink "StandingsHall$Ladder" (55 : Nat) ({ cls := "java/util/ArrayList", name := "set", desc := "(ILjava/lang/Object;)Ljava/lang/Object;" } : Jvm.MethodName)) ∈ lw_tbl := z_in6 (List.mem_of_getElem? (i := 54) rfl)
theorem w1_4 : (Jvm.Cond.initialized "StandingsHall$Order") ∈ lw_tbl := z_in1 (List.mem_of_getElem? (i := 4) rfl)
theorem w1_86 : (Jvm.Cond.code ({ cls := "StandingsHall$Order", name := "<init>", desc := "()V" } : Jvm.MethodName) prog_4_method_1_code (1 : Nat) (Option.none : Option Jvm.ClassFile.FieldType)) ∈ lw_tbl := z_in1 (List.mem_of_getElem? (i := 86) rfl)
theorem w1_85 : (Jvm.Cond.instanceMethod ({ cls := "StandingsHall$Order", name := "<init>", desc := "()V" } : Jvm.MethodName)) ∈ lw_tbl := z_in1 (List.mem_of_getElem? (i := 85) rfl)
theorem w1_87 : (Jvm.Cond.methodLink "StandingsHall$Order" (3 : Nat) ({ cls := "java/lang/Object", name := "<init>", desc := "()V" } : Jvm.MethodName)) ∈ lw_tbl := z_in1 (List.mem_of_getElem? (i := 87) rfl)
theorem w1_88 : (Jvm.Cond.fieldLink "StandingsHall$Order" (9 : Nat) "StandingsHall$Order" "factors" "[I") ∈ lw_tbl := z_in1 (List.mem_of_getElem? (i := 88) rfl)
theorem w1_89 : (Jvm.Cond.fieldLink "StandingsHall$Order" (15 : Nat) "StandingsHall$Order" "signs" "[I") ∈ lw_tbl := z_in1 (List.mem_of_getElem? (i := 89) rfl)
theorem w3_70 : (Jvm.Cond.code ({ cls := "StandingsHall$Order", name := "empty", desc := "()V" } : Jvm.MethodName) prog_4_method_2_code (1 : Nat) (Option.none : Option Jvm.ClassFile.FieldType)) ∈ lw_tbl := z_in3 (List.mem_of_getElem? (i := 70) rfl)
theorem w3_69 : (Jvm.Cond.instanceMethod ({ cls := "StandingsHall$Order", name := "empty", desc := "()V" } : Jvm.MethodName)) ∈ lw_tbl := z_in3 (List.mem_of_getElem? (i := 69) rfl)
theorem wS31 : (Cond.selects "StandingsHall$Order" ⟨"StandingsHall$Order", "empty", "()V"⟩ ⟨"StandingsHall$Order", "empty", "()V"⟩ : Cond) ∈ lw_tbl := z_inS (List.mem_of_getElem? (i := 31) rfl)
theorem w3_71 : (Jvm.Cond.methodLink "StandingsHall$Order" (18 : Nat) ({ cls := "java/util/Arrays", name := "fill", desc := "([II)V" } : Jvm.MethodName)) ∈ lw_tbl := z_in3 (List.mem_of_getElem? (i := 71) rfl)
theorem w1_90 : (Jvm.Cond.fieldLink "StandingsHall$Order" (24 : Nat) "StandingsHall$Order" "count" "I") ∈ lw_tbl := z_in1 (List.mem_of_getElem? (i := 90) rfl)
theorem w1_102 : (Jvm.Cond.code ({ cls := "StandingsHall$Order", name := "begin", desc := "(II)V" } : Jvm.MethodName) prog_4_method_3_code (3 : Nat) (Option.none : Option Jvm.ClassFile.FieldType)) ∈ lw_tbl := z_in1 (List.mem_of_getElem? (i := 102) rfl)
theorem w1_101 : (Jvm.Cond.instanceMethod ({ cls := "StandingsHall$Order", name := "begin", desc := "(II)V" } : Jvm.MethodName)) ∈ lw_tbl := z_in1 (List.mem_of_getElem? (i := 101) rfl)
theorem wS0 : (Cond.selects "StandingsHall$Order" ⟨"StandingsHall$Order", "begin", "(II)V"⟩ ⟨"StandingsHall$Order", "begin", "(II)V"⟩ : Cond) ∈ lw_tbl := z_inS (List.mem_of_getElem? (i := 0) rfl)
theorem w1_106 : (Jvm.Cond.code ({ cls := "StandingsHall$Order", name := "isCriterion", desc := "(I)Z" } : Jvm.MethodName) prog_4_method_5_code (2 : Nat) (Option.some Jvm.ClassFile.FieldType.boolean)) ∈ lw_tbl := z_in1 (List.mem_of_getElem? (i := 106) rfl)
theorem w1_105 : (Jvm.Cond.instanceMethod ({ cls := "StandingsHall$Order", name := "isCriterion", desc := "(I)Z" } : Jvm.MethodName)) ∈ lw_tbl := z_in1 (List.mem_of_getElem? (i := 105) rfl)
theorem wS1 : (Cond.selects "StandingsHall$Order" ⟨"StandingsHall$Order", "isCriterion", "(I)Z"⟩ ⟨"StandingsHall$Order", "isCriterion", "(I)Z"⟩ : Cond) ∈ lw_tbl := z_inS (List.mem_of_getElem? (i := 1) rfl)
theorem w1_103 : (Jvm.Cond.methodLink "StandingsHall$Order" (28 : Nat) ({ cls := "StandingsHall$Order", name := "isCriterion", desc := "(I)Z" } : Jvm.MethodName)) ∈ lw_tbl := z_in1 (List.mem_of_getElem? (i := 103) rfl)
theorem w1_110 : (Jvm.Cond.code ({ cls := "StandingsHall$Order", name := "addTerm", desc := "(III)V" } : Jvm.MethodName) prog_4_method_4_code (4 : Nat) (Option.none : Option Jvm.ClassFile.FieldType)) ∈ lw_tbl := z_in1 (List.mem_of_getElem? (i := 110) rfl)
theorem w1_109 : (Jvm.Cond.instanceMethod ({ cls := "StandingsHall$Order", name := "addTerm", desc := "(III)V" } : Jvm.MethodName)) ∈ lw_tbl := z_in1 (List.mem_of_getElem? (i := 109) rfl)
theorem wS2 : (Cond.selects "StandingsHall$Order" ⟨"StandingsHall$Order", "addTerm", "(III)V"⟩ ⟨"StandingsHall$Order", "addTerm", "(III)V"⟩ : Cond) ∈ lw_tbl := z_inS (List.mem_of_getElem? (i := 2) rfl)
theorem w2_172 : (Jvm.Cond.code ({ cls := "StandingsHall$Order", name := "valueFor", desc := "(LStandingsHall$Entrant;I)I" } : Jvm.MethodName) prog_4_method_6_code (5 : Nat) (Option.some Jvm.ClassFile.FieldType.int)) ∈ lw_tbl := z_in2 (List.mem_of_getElem? (i := 172) rfl)
theorem w2_171 : (Jvm.Cond.instanceMethod ({ cls := "StandingsHall$Order", name := "valueFor", desc := "(LStandingsHall$Entrant;I)I" } : Jvm.MethodName)) ∈ lw_tbl := z_in2 (List.mem_of_getElem? (i := 171) rfl)
theorem wS18 : (Cond.selects "StandingsHall$Order" ⟨"StandingsHall$Order", "valueFor", "(LStandingsHall$Entrant;I)I"⟩ ⟨"StandingsHall$Order", "valueFor", "(LStandingsHall$Entrant;I)I"⟩ : Cond) ∈ lw_tbl := z_inS (List.mem_of_getElem? (i := 18) rfl)
theorem w2_173 : (Jvm.Cond.methodLinkNest "StandingsHall$Order" (32 : Nat) ({ cls := "StandingsHall$Entrant", name := "scoreIn", desc := "(I)I" } : Jvm.MethodName) "StandingsHall") ∈ lw_tbl := z_in2 (List.mem_of_getElem? (i := 173) rfl)
theorem w2_168 : (Jvm.Cond.code ({ cls := "StandingsHall$Order", name := "judge", desc := "(LStandingsHall$Entrant;)V" } : Jvm.MethodName) prog_4_method_7_code (3 : Nat) (Option.none : Option Jvm.ClassFile.FieldType)) ∈ lw_tbl := z_in2 (List.mem_of_getElem? (i := 168) rfl)
theorem w2_167 : (Jvm.Cond.instanceMethod ({ cls := "StandingsHall$Order", name := "judge", desc := "(LStandingsHall$Entrant;)V" } : Jvm.MethodName)) ∈ lw_tbl := z_in2 (List.mem_of_getElem? (i := 167) rfl)
theorem wS17 : (Cond.selects "StandingsHall$Order" ⟨"StandingsHall$Order", "judge", "(LStandingsHall$Entrant;)V"⟩ ⟨"StandingsHall$Order", "judge", "(LStandingsHall$Entrant;)V"⟩ : Cond) ∈ lw_tbl := z_inS (List.mem_of_getElem? (i := 17) rfl)
theorem w1_203 : (Jvm.Cond.fieldLinkNest "StandingsHall$Order" (38 : Nat) "StandingsHall$Entrant" "merits" "[I" "StandingsHall") ∈ lw_tbl := z_in1 (List.mem_of_getElem? (i := 203) rfl)
theorem w2_169 : (Jvm.Cond.methodLink "StandingsHall$Order" (41 : Nat) ({ cls := "StandingsHall$Order", name := "valueFor", desc := "(LStandingsHall$Entrant;I)I" } : Jvm.MethodName)) ∈ lw_tbl := z_in2 (List.mem_of_getElem? (i := 169) rfl)
theorem w1_3 : (Jvm.Cond.initialized "StandingsHall$OrderReader") ∈ lw_tbl := z_in1 (List.mem_of_getElem? (i := 3) rfl)
theorem w1_60 : (Jvm.Cond.code ({ cls := "StandingsHall$OrderReader", name := "<init>", desc := "(LStandingsHall$Tape;)V" } : Jvm.MethodName) prog_5_method_1_code (2 : Nat) (Option.none : Option Jvm.ClassFile.FieldType)) ∈ lw_tbl := z_in1 (List.mem_of_getElem? (i := 60) rfl)
theorem w1_59 : (Jvm.Cond.instanceMethod ({ cls := "StandingsHall$OrderReader", name := "<init>", desc := "(LStandingsHall$Tape;)V" } : Jvm.MethodName)) ∈ lw_tbl := z_in1 (List.mem_of_getElem? (i := 59) rfl)
theorem w1_61 : (Jvm.Cond.methodLink "StandingsHall$OrderReader" (3 : Nat) ({ cls := "java/lang/Object", name := "<init>", desc := "()V" } : Jvm.MethodName)) ∈ lw_tbl := z_in1 (List.mem_of_getElem? (i := 61) rfl)
theorem w1_62 : (Jvm.Cond.fieldLink "StandingsHall$OrderReader" (9 : Nat) "StandingsHall$OrderReader" "tape" "LStandingsHall$Tape;") ∈ lw_tbl := z_in1 (List.mem_of_getElem? (i := 62) rfl)
theorem w3_66 : (Jvm.Cond.code ({ cls := "StandingsHall$OrderReader", name := "readOrder", desc := "(LStandingsHall$Order;)Z" } : Jvm.MethodName) prog_5_method_2_code (3 : Nat) (Option.some Jvm.ClassFile.FieldType.boolean)) ∈ lw_tbl := z_in3 (List.mem_of_getElem? (i := 66) rfl)
theorem w3_65 : (Jvm.Cond.instanceMethod ({ cls := "StandingsHall$OrderReader", name := "readOrder", desc := "(LStandingsHall$Order;)Z" } : Jvm.MethodName)) ∈ lw_tbl := z_in3 (List.mem_of_getElem? (i := 65) rfl)
theorem wS30 : (Cond.selects "StandingsHall$OrderReader" ⟨"StandingsHall$OrderReader", "readOrder", "(LStandingsHall$Order;)Z"⟩ ⟨"StandingsHall$OrderReader", "readOrder", "(LStandingsHall$Order;)Z"⟩ : Cond) ∈ lw_tbl := z_inS (List.mem_of_getElem? (i := 30) rfl)
theorem w3_67 : (Jvm.Cond.methodLinkNest "StandingsHall$OrderReader" (15 : Nat) ({ cls := "StandingsHall$Order", name := "empty", desc := "()V" } : Jvm.MethodName) "StandingsHall") ∈ lw_tbl := z_in3 (List.mem_of_getElem? (i := 67) rfl)
theorem w1_66 : (Jvm.Cond.fieldLink "StandingsHall$OrderReader" (20 : Nat) "StandingsHall$OrderReader" "after" "I") ∈ lw_tbl := z_in1 (List.mem_of_getElem? (i := 66) rfl)
theorem w3_75 : (Jvm.Cond.code ({ cls := "StandingsHall$OrderReader", name := "readToken", desc := "()V" } : Jvm.MethodName) prog_5_method_5_code (2 : Nat) (Option.none : Option Jvm.ClassFile.FieldType)) ∈ lw_tbl := z_in3 (List.mem_of_getElem? (i := 75) rfl)
theorem w3_74 : (Jvm.Cond.instanceMethod ({ cls := "StandingsHall$OrderReader", name := "readToken", desc := "()V" } : Jvm.MethodName)) ∈ lw_tbl := z_in3 (List.mem_of_getElem? (i := 74) rfl)
theorem wS32 : (Cond.selects "StandingsHall$OrderReader" ⟨"StandingsHall$OrderReader", "readToken", "()V"⟩ ⟨"StandingsHall$OrderReader", "readToken", "()V"⟩ : Cond) ∈ lw_tbl := z_inS (List.mem_of_getElem? (i := 32) rfl)
theorem w3_72 : (Jvm.Cond.methodLink "StandingsHall$OrderReader" (24 : Nat) ({ cls := "StandingsHall$OrderReader", name := "readToken", desc := "()V" } : Jvm.MethodName)) ∈ lw_tbl := z_in3 (List.mem_of_getElem? (i := 72) rfl)
theorem w3_103 : (Jvm.Cond.code ({ cls := "StandingsHall$OrderReader", name := "readCriterion", desc := "(LStandingsHall$Order;I)Z" } : Jvm.MethodName) prog_5_method_3_code (5 : Nat) (Option.some Jvm.ClassFile.FieldType.boolean)) ∈ lw_tbl := z_in3 (List.mem_of_getElem? (i := 103) rfl)
theorem w3_102 : (Jvm.Cond.instanceMethod ({ cls := "StandingsHall$OrderReader", name := "readCriterion", desc := "(LStandingsHall$Order;I)Z" } : Jvm.MethodName)) ∈ lw_tbl := z_in3 (List.mem_of_getElem? (i := 102) rfl)
theorem wS39 : (Cond.selects "StandingsHall$OrderReader" ⟨"StandingsHall$OrderReader", "readCriterion", "(LStandingsHall$Order;I)Z"⟩ ⟨"StandingsHall$OrderReader", "readCriterion", "(LStandingsHall$Order;I)Z"⟩ : Cond) ∈ lw_tbl := z_inS (List.mem_of_getElem? (i := 39) rfl)
theorem w3_100 : (Jvm.Cond.methodLink "StandingsHall$OrderReader" (27 : Nat) ({ cls := "StandingsHall$OrderReader", name := "readCriterion", desc := "(LStandingsHall$Order;I)Z" } : Jvm.MethodName)) ∈ lw_tbl := z_in3 (List.mem_of_getElem? (i := 100) rfl)
theorem w1_63 : (Jvm.Cond.fieldLink "StandingsHall$OrderReader" (31 : Nat) "StandingsHall$OrderReader" "token" "I") ∈ lw_tbl := z_in1 (List.mem_of_getElem? (i := 63) rfl)
theorem w3_104 : (Jvm.Cond.methodLinkNest "StandingsHall$OrderReader" (34 : Nat) ({ cls := "StandingsHall$Order", name := "begin", desc := "(II)V" } : Jvm.MethodName) "StandingsHall") ∈ lw_tbl := z_in3 (List.mem_of_getElem? (i := 104) rfl)
theorem w3_108 : (Jvm.Cond.code ({ cls := "StandingsHall$OrderReader", name := "readTerm", desc := "(LStandingsHall$Order;II)Z" } : Jvm.MethodName) prog_5_method_4_code (5 : Nat) (Option.some Jvm.ClassFile.FieldType.boolean)) ∈ lw_tbl := z_in3 (List.mem_of_getElem? (i := 108) rfl)
theorem w3_107 : (Jvm.Cond.instanceMethod ({ cls := "StandingsHall$OrderReader", name := "readTerm", desc := "(LStandingsHall$Order;II)Z" } : Jvm.MethodName)) ∈ lw_tbl := z_in3 (List.mem_of_getElem? (i := 107) rfl)
theorem wS40 : (Cond.selects "StandingsHall$OrderReader" ⟨"StandingsHall$OrderReader", "readTerm", "(LStandingsHall$Order;II)Z"⟩ ⟨"StandingsHall$OrderReader", "readTerm", "(LStandingsHall$Order;II)Z"⟩ : Cond) ∈ lw_tbl := z_inS (List.mem_of_getElem? (i := 40) rfl)
theorem w3_105 : (Jvm.Cond.methodLink "StandingsHall$OrderReader" (38 : Nat) ({ cls := "StandingsHall$OrderReader", name := "readTerm", desc := "(LStandingsHall$Order;II)Z" } : Jvm.MethodName)) ∈ lw_tbl := z_in3 (List.mem_of_getElem? (i := 105) rfl)
theorem w1_67 : (Jvm.Cond.fieldLink "StandingsHall$OrderReader" (42 : Nat) "StandingsHall$OrderReader" "number" "I") ∈ lw_tbl := z_in1 (List.mem_of_getElem? (i := 67) rfl)
theorem w1_68 : (Jvm.Cond.fieldLink "StandingsHall$OrderReader" (45 : Nat) "StandingsHall$OrderReader" "kind" "I") ∈ lw_tbl := z_in1 (List.mem_of_getElem? (i := 68) rfl)
theorem w3_109 : (Jvm.Cond.methodLinkNest "StandingsHall$OrderReader" (48 : Nat) ({ cls := "StandingsHall$Order", name := "addTerm", desc := "(III)V" } : Jvm.MethodName) "StandingsHall") ∈ lw_tbl := z_in3 (List.mem_of_getElem? (i := 109) rfl)
theorem w1_65 : (Jvm.Cond.fieldLink "StandingsHall$OrderReader" (52 : Nat) "StandingsHall$OrderReader" "start" "I") ∈ lw_tbl := z_in1 (List.mem_of_getElem? (i := 65) rfl)
theorem w1_2 : (Jvm.Cond.initialized "StandingsHall$Tape") ∈ lw_tbl := z_in1 (List.mem_of_getElem? (i := 2) rfl)
theorem w3_79 : (Jvm.Cond.code ({ cls := "StandingsHall$Tape", name := "byteAt", desc := "(I)I" } : Jvm.MethodName) prog_8_method_4_code (2 : Nat) (Option.some Jvm.ClassFile.FieldType.int)) ∈ lw_tbl := z_in3 (List.mem_of_getElem? (i := 79) rfl)
theorem w3_78 : (Jvm.Cond.instanceMethod ({ cls := "StandingsHall$Tape", name := "byteAt", desc := "(I)I" } : Jvm.MethodName)) ∈ lw_tbl := z_in3 (List.mem_of_getElem? (i := 78) rfl)
theorem wS33 : (Cond.selects "StandingsHall$Tape" ⟨"StandingsHall$Tape", "byteAt", "(I)I"⟩ ⟨"StandingsHall$Tape", "byteAt", "(I)I"⟩ : Cond) ∈ lw_tbl := z_inS (List.mem_of_getElem? (i := 33) rfl)
theorem w3_76 : (Jvm.Cond.methodLinkNest "StandingsHall$OrderReader" (55 : Nat) ({ cls := "StandingsHall$Tape", name := "byteAt", desc := "(I)I" } : Jvm.MethodName) "StandingsHall") ∈ lw_tbl := z_in3 (List.mem_of_getElem? (i := 76) rfl)
theorem w3_83 : (Jvm.Cond.code ({ cls := "StandingsHall$OrderReader", name := "isBlank", desc := "(I)Z" } : Jvm.MethodName) prog_5_method_9_code (2 : Nat) (Option.some Jvm.ClassFile.FieldType.boolean)) ∈ lw_tbl := z_in3 (List.mem_of_getElem? (i := 83) rfl)
theorem w3_82 : (Jvm.Cond.instanceMethod ({ cls := "StandingsHall$OrderReader", name := "isBlank", desc := "(I)Z" } : Jvm.MethodName)) ∈ lw_tbl := z_in3 (List.mem_of_getElem? (i := 82) rfl)
theorem wS34 : (Cond.selects "StandingsHall$OrderReader" ⟨"StandingsHall$OrderReader", "isBlank", "(I)Z"⟩ ⟨"StandingsHall$OrderReader", "isBlank", "(I)Z"⟩ : Cond) ∈ lw_tbl := z_inS (List.mem_of_getElem? (i := 34) rfl)
theorem w3_80 : (Jvm.Cond.methodLink "StandingsHall$OrderReader" (61 : Nat) ({ cls := "StandingsHall$OrderReader", name := "isBlank", desc := "(I)Z" } : Jvm.MethodName)) ∈ lw_tbl := z_in3 (List.mem_of_getElem? (i := 80) rfl)
theorem w3_87 : (Jvm.Cond.code ({ cls := "StandingsHall$OrderReader", name := "isDigit", desc := "(I)Z" } : Jvm.MethodName) prog_5_method_10_code (2 : Nat) (Option.some Jvm.ClassFile.FieldType.boolean)) ∈ lw_tbl := z_in3 (List.mem_of_getElem? (i := 87) rfl)
theorem w3_86 : (Jvm.Cond.instanceMethod ({ cls := "StandingsHall$OrderReader", name := "isDigit", desc := "(I)Z" } : Jvm.MethodName)) ∈ lw_tbl := z_in3 (List.mem_of_getElem? (i := 86) rfl)
theorem wS35 : (Cond.selects "StandingsHall$OrderReader" ⟨"StandingsHall$OrderReader", "isDigit", "(I)Z"⟩ ⟨"StandingsHall$OrderReader", "isDigit", "(I)Z"⟩ : Cond) ∈ lw_tbl := z_inS (List.mem_of_getElem? (i := 35) rfl)
theorem w3_84 : (Jvm.Cond.methodLink "StandingsHall$OrderReader" (65 : Nat) ({ cls := "StandingsHall$OrderReader", name := "isDigit", desc := "(I)Z" } : Jvm.MethodName)) ∈ lw_tbl := z_in3 (List.mem_of_getElem? (i := 84) rfl)
theorem w3_91 : (Jvm.Cond.code ({ cls := "StandingsHall$OrderReader", name := "readDigits", desc := "()V" } : Jvm.MethodName) prog_5_method_7_code (2 : Nat) (Option.none : Option Jvm.ClassFile.FieldType)) ∈ lw_tbl := z_in3 (List.mem_of_getElem? (i := 91) rfl)
theorem w3_90 : (Jvm.Cond.instanceMethod ({ cls := "StandingsHall$OrderReader", name := "readDigits", desc := "()V" } : Jvm.MethodName)) ∈ lw_tbl := z_in3 (List.mem_of_getElem? (i := 90) rfl)
theorem wS36 : (Cond.selects "StandingsHall$OrderReader" ⟨"StandingsHall$OrderReader", "readDigits", "()V"⟩ ⟨"StandingsHall$OrderReader", "readDigits", "()V"⟩ : Cond) ∈ lw_tbl := z_inS (List.mem_of_getElem? (i := 36) rfl)
theorem w3_88 : (Jvm.Cond.methodLink "StandingsHall$OrderReader" (68 : Nat) ({ cls := "StandingsHall$OrderReader", name := "readDigits", desc := "()V" } : Jvm.MethodName)) ∈ lw_tbl := z_in3 (List.mem_of_getElem? (i := 88) rfl)
theorem w3_95 : (Jvm.Cond.code ({ cls := "StandingsHall$OrderReader", name := "readSign", desc := "(I)V" } : Jvm.MethodName) prog_5_method_6_code (2 : Nat) (Option.none : Option Jvm.ClassFile.FieldType)) ∈ lw_tbl := z_in3 (List.mem_of_getElem? (i := 95) rfl)
theorem w3_94 : (Jvm.Cond.instanceMethod ({ cls := "StandingsHall$OrderReader", name := "readSign", desc := "(I)V" } : Jvm.MethodName)) ∈ lw_tbl := z_in3 (List.mem_of_getElem? (i := 94) rfl)
theorem wS37 : (Cond.selects "StandingsHall$OrderReader" ⟨"StandingsHall$OrderReader", "readSign", "(I)V"⟩ ⟨"StandingsHall$OrderReader", "readSign", "(I)V"⟩ : Cond) ∈ lw_tbl := z_inS (List.mem_of_getElem? (i := 37) rfl)
theorem w3_92 : (Jvm.Cond.methodLink "StandingsHall$OrderReader" (71 : Nat) ({ cls := "StandingsHall$OrderReader", name := "readSign", desc := "(I)V" } : Jvm.MethodName)) ∈ lw_tbl := z_in3 (List.mem_of_getElem? (i := 92) rfl)
theorem w3_99 : (Jvm.Cond.code ({ cls := "StandingsHall$OrderReader", name := "isSign", desc := "(I)Z" } : Jvm.MethodName) prog_5_method_8_code (2 : Nat) (Option.some Jvm.ClassFile.FieldType.boolean)) ∈ lw_tbl := z_in3 (List.mem_of_getElem? (i := 99) rfl)
theorem w3_98 : (Jvm.Cond.instanceMethod ({ cls := "StandingsHall$OrderReader", name := "isSign", desc := "(I)Z" } : Jvm.MethodName)) ∈ lw_tbl := z_in3 (List.mem_of_getElem? (i := 98) rfl)
theorem wS38 : (Cond.selects "StandingsHall$OrderReader" ⟨"StandingsHall$OrderReader", "isSign", "(I)Z"⟩ ⟨"StandingsHall$OrderReader", "isSign", "(I)Z"⟩ : Cond) ∈ lw_tbl := z_inS (List.mem_of_getElem? (i := 38) rfl)
theorem w3_96 : (Jvm.Cond.methodLink "StandingsHall$OrderReader" (75 : Nat) ({ cls := "StandingsHall$OrderReader", name := "isSign", desc := "(I)Z" } : Jvm.MethodName)) ∈ lw_tbl := z_in3 (List.mem_of_getElem? (i := 96) rfl)
theorem w1_9 : (Jvm.Cond.initialized "StandingsHall$PointsRow") ∈ lw_tbl := z_in1 (List.mem_of_getElem? (i := 9) rfl)
theorem w1_154 : (Jvm.Cond.code ({ cls := "StandingsHall$PointsRow", name := "<init>", desc := "()V" } : Jvm.MethodName) prog_6_method_1_code (1 : Nat) (Option.none : Option Jvm.ClassFile.FieldType)) ∈ lw_tbl := z_in1 (List.mem_of_getElem? (i := 154) rfl)
theorem w1_153 : (Jvm.Cond.instanceMethod ({ cls := "StandingsHall$PointsRow", name := "<init>", desc := "()V" } : Jvm.MethodName)) ∈ lw_tbl := z_in1 (List.mem_of_getElem? (i := 153) rfl)
theorem w1_155 : (Jvm.Cond.methodLink "StandingsHall$PointsRow" (1 : Nat) ({ cls := "java/lang/Object", name := "<init>", desc := "()V" } : Jvm.MethodName)) ∈ lw_tbl := z_in1 (List.mem_of_getElem? (i := 155) rfl)
theorem w1_156 : (Jvm.Cond.classLink "StandingsHall$PointsRow" (7 : Nat) "java/util/ArrayList") ∈ lw_tbl := z_in1 (List.mem_of_getElem? (i := 156) rfl)
theorem w1_157 : (Jvm.Cond.methodLink "StandingsHall$PointsRow" (9 : Nat) ({ cls := "java/util/ArrayList", name := "<init>", desc := "()V" } : Jvm.MethodName)) ∈ lw_tbl := z_in1 (List.mem_of_getElem? (i := 157) rfl)
theorem w1_158 : (Jvm.Cond.fieldLink "StandingsHall$PointsRow" (10 : Nat) "StandingsHall$PointsRow" "row" "Ljava/util/ArrayList;") ∈ lw_tbl := z_in1 (List.mem_of_getElem? (i := 158) rfl)
theorem w5_17 : (Jvm.Cond.code ({ cls := "StandingsHall$PointsRow", name := "put", desc := "(LStandingsHall$Entrant;)V" } : Jvm.MethodName) prog_6_method_2_code (2 : Nat) (Option.none : Option Jvm.ClassFile.FieldType)) ∈ lw_tbl := z_in5 (List.mem_of_getElem? (i := 17) rfl)
theorem w5_16 : (Jvm.Cond.instanceMethod ({ cls := "StandingsHall$PointsRow", name := "put", desc := "(LStandingsHall$Entrant;)V" } : Jvm.MethodName)) ∈ lw_tbl := z_in5 (List.mem_of_getElem? (i := 16) rfl)
theorem wS51 : (Cond.selects "StandingsHall$PointsRow" ⟨"StandingsHall$PointsRow", "put", "(LStandingsHall$Entrant;)V"⟩ ⟨"StandingsHall$PointsRow", "put", "(LStandingsHall$Entrant;)V"⟩ : Cond) ∈ lw_tbl := z_inS (List.mem_of_getElem? (i := 51) rfl)
theorem w2_120 : (Jvm.Cond.methodLinkNest "StandingsHall$PointsRow" (16 : Nat) ({ cls := "StandingsHall$Entrant", name := "points", desc := "()I" } : Jvm.MethodName) "StandingsHall") ∈ lw_tbl := z_in2 (List.mem_of_getElem? (i := 120) rfl)
theorem w2_116 : (Jvm.Cond.code ({ cls := "StandingsHall$PointsRow", name := "countUpTo", desc := "(I)I" } : Jvm.MethodName) prog_6_method_5_code (4 : Nat) (Option.some Jvm.ClassFile.FieldType.int)) ∈ lw_tbl := z_in2 (List.mem_of_getElem? (i := 116) rfl)
theorem w2_115 : (Jvm.Cond.instanceMethod ({ cls := "StandingsHall$PointsRow", name := "countUpTo", desc := "(I)I" } : Jvm.MethodName)) ∈ lw_tbl := z_in2 (List.mem_of_getElem? (i := 115) rfl)
theorem wS10 : (Cond.selects "StandingsHall$PointsRow" ⟨"StandingsHall$PointsRow", "countUpTo", "(I)I"⟩ ⟨"StandingsHall$PointsRow", "countUpTo", "(I)I"⟩ : Cond) ∈ lw_tbl := z_inS (List.mem_of_getElem? (i := 10) rfl)
theorem w5_18 : (Jvm.Cond.methodLink "StandingsHall$PointsRow" (22 : Nat) ({ cls := "StandingsHall$PointsRow", name := "countUpTo", desc := "(I)I" } : Jvm.MethodName)) ∈ lw_tbl := z_in5 (List.mem_of_getElem? (i := 18) rfl)
theorem w5_19 : (Jvm.Cond.methodLink "StandingsHall$PointsRow" (26 : Nat) ({ cls := "java/util/ArrayList", name := "add", desc := "(ILjava/lang/Object;)V" } : Jvm.MethodName)) ∈ lw_tbl := z_in5 (List.mem_of_getElem? (i := 19) rfl)
theorem w5_42 : (Jvm.Cond.code ({ cls := "StandingsHall$PointsRow", name := "take", desc := "(LStandingsHall$Entrant;)V" } : Jvm.MethodName) prog_6_method_3_code (3 : Nat) (Option.none : Option Jvm.ClassFile.FieldType)) ∈ lw_tbl := z_in5 (List.mem_of_getElem? (i := 42) rfl)
theorem w5_41 : (Jvm.Cond.instanceMethod ({ cls := "StandingsHall$PointsRow", name := "take", desc := "(LStandingsHall$Entrant;)V" } : Jvm.MethodName)) ∈ lw_tbl := z_in5 (List.mem_of_getElem? (i := 41) rfl)
theorem wS54 : (Cond.selects "StandingsHall$PointsRow" ⟨"StandingsHall$PointsRow", "take", "(LStandingsHall$Entrant;)V"⟩ ⟨"StandingsHall$PointsRow", "take", "(LStandingsHall$Entrant;)V"⟩ : Cond) ∈ lw_tbl := z_inS (List.mem_of_getElem? (i := 54) rfl)
theorem w2_117 : (Jvm.Cond.methodLink "StandingsHall$PointsRow" (30 : Nat) ({ cls := "java/util/ArrayList", name := "size", desc := "()I" } : Jvm.MethodName)) ∈ lw_tbl := z_in2 (List.mem_of_getElem? (i := 117) rfl)
theorem w2_118 : (Jvm.Cond.methodLink "StandingsHall$PointsRow" (33 : Nat) ({ cls := "java/util/ArrayList", name := "get", desc := "(I)Ljava/lang/Object;" } : Jvm.MethodName)) ∈ lw_tbl := z_in2 (List.mem_of_getElem? (i := 118) rfl)
theorem w5_43 : (Jvm.Cond.methodLink "StandingsHall$PointsRow" (37 : Nat) ({ cls := "java/util/ArrayList", name := "remove", desc := "(I)Ljava/lang/Object;" } : Jvm.MethodName)) ∈ lw_tbl := z_in5 (List.mem_of_getElem? (i := 43) rfl)
theorem w2_131 : (Jvm.Cond.code ({ cls := "StandingsHall$PointsRow", name := "countBelow", desc := "(I)I" } : Jvm.MethodName) prog_6_method_4_code (4 : Nat) (Option.some Jvm.ClassFile.FieldType.int)) ∈ lw_tbl := z_in2 (List.mem_of_getElem? (i := 131) rfl)
theorem w2_130 : (Jvm.Cond.instanceMethod ({ cls := "StandingsHall$PointsRow", name := "countBelow", desc := "(I)I" } : Jvm.MethodName)) ∈ lw_tbl := z_in2 (List.mem_of_getElem? (i := 130) rfl)
theorem wS12 : (Cond.selects "StandingsHall$PointsRow" ⟨"StandingsHall$PointsRow", "countBelow", "(I)I"⟩ ⟨"StandingsHall$PointsRow", "countBelow", "(I)I"⟩ : Cond) ∈ lw_tbl := z_inS (List.mem_of_getElem? (i := 12) rfl)
theorem w2_119 : (Jvm.Cond.classLink "StandingsHall$PointsRow" (17 : Nat) "StandingsHall$Entrant") ∈ lw_tbl := z_in2 (List.mem_of_getElem? (i := 119) rfl)
theorem w2_209 : (Jvm.Cond.code ({ cls := "StandingsHall$PointsRow", name := "pointsAt", desc := "(I)I" } : Jvm.MethodName) prog_6_method_6_code (2 : Nat) (Option.some Jvm.ClassFile.FieldType.int)) ∈ lw_tbl := z_in2 (List.mem_of_getElem? (i := 209) rfl)
theorem w2_208 : (Jvm.Cond.instanceMethod ({ cls := "StandingsHall$PointsRow", name := "pointsAt", desc := "(I)I" } : Jvm.MethodName)) ∈ lw_tbl := z_in2 (List.mem_of_getElem? (i := 208) rfl)
theorem wS26 : (Cond.selects "StandingsHall$PointsRow" ⟨"StandingsHall$PointsRow", "pointsAt", "(I)I"⟩ ⟨"StandingsHall$PointsRow", "pointsAt", "(I)I"⟩ : Cond) ∈ lw_tbl := z_inS (List.mem_of_getElem? (i := 26) rfl)
theorem w1_8 : (Jvm.Cond.initialized "StandingsHall$Standing") ∈ lw_tbl := z_in1 (List.mem_of_getElem? (i := 8) rfl)
theorem w1_141 : (Jvm.Cond.code ({ cls := "StandingsHall$Standing", name := "<init>", desc := "()V" } : Jvm.MethodName) prog_7_method_1_code (1 : Nat) (Option.none : Option Jvm.ClassFile.FieldType)) ∈ lw_tbl := z_in1 (List.mem_of_getElem? (i := 141) rfl)
theorem w1_140 : (Jvm.Cond.instanceMethod ({ cls := "StandingsHall$Standing", name := "<init>", desc := "()V" } : Jvm.MethodName)) ∈ lw_tbl := z_in1 (List.mem_of_getElem? (i := 140) rfl)
theorem w1_142 : (Jvm.Cond.methodLink "StandingsHall$Standing" (3 : Nat) ({ cls := "java/lang/Object", name := "<init>", desc := "()V" } : Jvm.MethodName)) ∈ lw_tbl := z_in1 (List.mem_of_getElem? (i := 142) rfl)
theorem w1_143 : (Jvm.Cond.classLink "StandingsHall$Standing" (9 : Nat) "java/util/ArrayList") ∈ lw_tbl := z_in1 (List.mem_of_getElem? (i := 143) rfl)
theorem w1_144 : (Jvm.Cond.methodLink "StandingsHall$Standing" (11 : Nat) ({ cls := "java/util/ArrayList", name := "<init>", desc := "()V" } : Jvm.MethodName)) ∈ lw_tbl := z_in1 (List.mem_of_getElem? (i := 144) rfl)
theorem w1_145 : (Jvm.Cond.fieldLink "StandingsHall$Standing" (12 : Nat) "StandingsHall$Standing" "row" "Ljava/util/ArrayList;") ∈ lw_tbl := z_in1 (List.mem_of_getElem? (i := 145) rfl)
theorem w3_137 : (Jvm.Cond.code ({ cls := "StandingsHall$Standing", name := "put", desc := "(LStandingsHall$Entrant;)V" } : Jvm.MethodName) prog_7_method_2_code (4 : Nat) (Option.none : Option Jvm.ClassFile.FieldType)) ∈ lw_tbl := z_in3 (List.mem_of_getElem? (i := 137) rfl)
theorem w3_136 : (Jvm.Cond.instanceMethod ({ cls := "StandingsHall$Standing", name := "put", desc := "(LStandingsHall$Entrant;)V" } : Jvm.MethodName)) ∈ lw_tbl := z_in3 (List.mem_of_getElem? (i := 136) rfl)
theorem wS42 : (Cond.selects "StandingsHall$Standing" ⟨"StandingsHall$Standing", "put", "(LStandingsHall$Entrant;)V"⟩ ⟨"StandingsHall$Standing", "put", "(LStandingsHall$Entrant;)V"⟩ : Cond) ∈ lw_tbl := z_inS (List.mem_of_getElem? (i := 42) rfl)
theorem w2_63 : (Jvm.Cond.methodLink "StandingsHall$Standing" (18 : Nat) ({ cls := "java/util/ArrayList", name := "size", desc := "()I" } : Jvm.MethodName)) ∈ lw_tbl := z_in2 (List.mem_of_getElem? (i := 63) rfl)
theorem w2_68 : (Jvm.Cond.methodLink "StandingsHall$Standing" (22 : Nat) ({ cls := "java/util/ArrayList", name := "get", desc := "(I)Ljava/lang/Object;" } : Jvm.MethodName)) ∈ lw_tbl := z_in2 (List.mem_of_getElem? (i := 68) rfl)
theorem w2_82 : (Jvm.Cond.classLink "StandingsHall$Standing" (26 : Nat) "StandingsHall$Entrant") ∈ lw_tbl := z_in2 (List.mem_of_getElem? (i := 82) rfl)
theorem w2_178 : (Jvm.Cond.methodLinkNest "StandingsHall$Standing" (28 : Nat) ({ cls := "StandingsHall$Entrant", name := "isAheadOf", desc := "(LStandingsHall$Entrant;)Z" } : Jvm.MethodName) "StandingsHall") ∈ lw_tbl := z_in2 (List.mem_of_getElem? (i := 178) rfl)
theorem w3_138 : (Jvm.Cond.methodLink "StandingsHall$Standing" (32 : Nat) ({ cls := "java/util/ArrayList", name := "add", desc := "(ILjava/lang/Object;)V" } : Jvm.MethodName)) ∈ lw_tbl := z_in3 (List.mem_of_getElem? (i := 138) rfl)
theorem w4_215 : (Jvm.Cond.code ({ cls := "StandingsHall$Standing", name := "numberPlaces", desc := "()V" } : Jvm.MethodName) prog_7_method_4_code (2 : Nat) (Option.none : Option Jvm.ClassFile.FieldType)) ∈ lw_tbl := z_in4 (List.mem_of_getElem? (i := 215) rfl)
theorem w4_214 : (Jvm.Cond.instanceMethod ({ cls := "StandingsHall$Standing", name := "numberPlaces", desc := "()V" } : Jvm.MethodName)) ∈ lw_tbl := z_in4 (List.mem_of_getElem? (i := 214) rfl)
theorem wS47 : (Cond.selects "StandingsHall$Standing" ⟨"StandingsHall$Standing", "numberPlaces", "()V"⟩ ⟨"StandingsHall$Standing", "numberPlaces", "()V"⟩ : Cond) ∈ lw_tbl := z_inS (List.mem_of_getElem? (i := 47) rfl)
theorem w4_212 : (Jvm.Cond.methodLink "StandingsHall$Standing" (36 : Nat) ({ cls := "StandingsHall$Standing", name := "numberPlaces", desc := "()V" } : Jvm.MethodName)) ∈ lw_tbl := z_in4 (List.mem_of_getElem? (i := 212) rfl)
theorem w5_30 : (Jvm.Cond.code ({ cls := "StandingsHall$Standing", name := "take", desc := "(LStandingsHall$Entrant;)V" } : Jvm.MethodName) prog_7_method_3_code (3 : Nat) (Option.none : Option Jvm.ClassFile.FieldType)) ∈ lw_tbl := z_in5 (List.mem_of_getElem? (i := 30) rfl)
theorem w5_29 : (Jvm.Cond.instanceMethod ({ cls := "StandingsHall$Standing", name := "take", desc := "(LStandingsHall$Entrant;)V" } : Jvm.MethodName)) ∈ lw_tbl := z_in5 (List.mem_of_getElem? (i := 29) rfl)
theorem wS52 : (Cond.selects "StandingsHall$Standing" ⟨"StandingsHall$Standing", "take", "(LStandingsHall$Entrant;)V"⟩ ⟨"StandingsHall$Standing", "take", "(LStandingsHall$Entrant;)V"⟩ : Cond) ∈ lw_tbl := z_inS (List.mem_of_getElem? (i := 52) rfl)
theorem w1_205 : (Jvm.Cond.fieldLinkNest "StandingsHall$Standing" (39 : Nat) "StandingsHall$Entrant" "place" "I" "StandingsHall") ∈ lw_tbl := z_in1 (List.mem_of_getElem? (i := 205) rfl)
theorem w5_31 : (Jvm.Cond.methodLink "StandingsHall$Standing" (43 : Nat) ({ cls := "java/util/ArrayList", name := "remove", desc := "(I)Ljava/lang/Object;" } : Jvm.MethodName)) ∈ lw_tbl := z_in5 (List.mem_of_getElem? (i := 31) rfl)
theorem w2_103 : (Jvm.Cond.code ({ cls := "StandingsHall$Standing", name := "sharedRank", desc := "(LStandingsHall$Entrant;)I" } : Jvm.MethodName) prog_7_method_5_code (5 : Nat) (Option.some Jvm.ClassFile.FieldType.int)) ∈ lw_tbl := z_in2 (List.mem_of_getElem? (i := 103) rfl)
theorem w2_102 : (Jvm.Cond.instanceMethod ({ cls := "StandingsHall$Standing", name := "sharedRank", desc := "(LStandingsHall$Entrant;)I" } : Jvm.MethodName)) ∈ lw_tbl := z_in2 (List.mem_of_getElem? (i := 102) rfl)
theorem wS8 : (Cond.selects "StandingsHall$Standing" ⟨"StandingsHall$Standing", "sharedRank", "(LStandingsHall$Entrant;)I"⟩ ⟨"StandingsHall$Standing", "sharedRank", "(LStandingsHall$Entrant;)I"⟩ : Cond) ∈ lw_tbl := z_inS (List.mem_of_getElem? (i := 8) rfl)
theorem w1_194 : (Jvm.Cond.fieldLinkNest "StandingsHall$Standing" (46 : Nat) "StandingsHall$Entrant" "number" "I" "StandingsHall") ∈ lw_tbl := z_in1 (List.mem_of_getElem? (i := 194) rfl)
theorem w2_104 : (Jvm.Cond.methodLinkNest "StandingsHall$Standing" (49 : Nat) ({ cls := "StandingsHall$Entrant", name := "isBetterThan", desc := "(LStandingsHall$Entrant;)Z" } : Jvm.MethodName) "StandingsHall") ∈ lw_tbl := z_in2 (List.mem_of_getElem? (i := 104) rfl)
theorem w2_177 : (Jvm.Cond.code ({ cls := "StandingsHall$Standing", name := "countAhead", desc := "(LStandingsHall$Entrant;)I" } : Jvm.MethodName) prog_7_method_6_code (5 : Nat) (Option.some Jvm.ClassFile.FieldType.int)) ∈ lw_tbl := z_in2 (List.mem_of_getElem? (i := 177) rfl)
theorem w2_176 : (Jvm.Cond.instanceMethod ({ cls := "StandingsHall$Standing", name := "countAhead", desc := "(LStandingsHall$Entrant;)I" } : Jvm.MethodName)) ∈ lw_tbl := z_in2 (List.mem_of_getElem? (i := 176) rfl)
theorem wS19 : (Cond.selects "StandingsHall$Standing" ⟨"StandingsHall$Standing", "countAhead", "(LStandingsHall$Entrant;)I"⟩ ⟨"StandingsHall$Standing", "countAhead", "(LStandingsHall$Entrant;)I"⟩ : Cond) ∈ lw_tbl := z_inS (List.mem_of_getElem? (i := 19) rfl)
theorem w5_130 : (Jvm.Cond.code ({ cls := "StandingsHall$Standing", name := "denseRank", desc := "(LStandingsHall$Entrant;)I" } : Jvm.MethodName) prog_7_method_7_code (4 : Nat) (Option.some Jvm.ClassFile.FieldType.int)) ∈ lw_tbl := z_in5 (List.mem_of_getElem? (i := 130) rfl)
theorem w5_129 : (Jvm.Cond.instanceMethod ({ cls := "StandingsHall$Standing", name := "denseRank", desc := "(LStandingsHall$Entrant;)I" } : Jvm.MethodName)) ∈ lw_tbl := z_in5 (List.mem_of_getElem? (i := 129) rfl)
theorem wS61 : (Cond.selects "StandingsHall$Standing" ⟨"StandingsHall$Standing", "denseRank", "(LStandingsHall$Entrant;)I"⟩ ⟨"StandingsHall$Standing", "denseRank", "(LStandingsHall$Entrant;)I"⟩ : Cond) ∈ lw_tbl := z_inS (List.mem_of_getElem? (i := 61) rfl)
theorem w2_67 : (Jvm.Cond.code ({ cls := "StandingsHall$Standing", name := "beginsResult", desc := "(I)Z" } : Jvm.MethodName) prog_7_method_12_code (2 : Nat) (Option.some Jvm.ClassFile.FieldType.boolean)) ∈ lw_tbl := z_in2 (List.mem_of_getElem? (i := 67) rfl)
theorem w2_66 : (Jvm.Cond.instanceMethod ({ cls := "StandingsHall$Standing", name := "beginsResult", desc := "(I)Z" } : Jvm.MethodName)) ∈ lw_tbl := z_in2 (List.mem_of_getElem? (i := 66) rfl)
theorem wS4 : (Cond.selects "StandingsHall$Standing" ⟨"StandingsHall$Standing", "beginsResult", "(I)Z"⟩ ⟨"StandingsHall$Standing", "beginsResult", "(I)Z"⟩ : Cond) ∈ lw_tbl := z_inS (List.mem_of_getElem? (i := 4) rfl)
theorem w2_64 : (Jvm.Cond.methodLink "StandingsHall$Standing" (52 : Nat) ({ cls := "StandingsHall$Standing", name := "beginsResult", desc := "(I)Z" } : Jvm.MethodName)) ∈ lw_tbl := z_in2 (List.mem_of_getElem? (i := 64) rfl)
theorem w2_99 : (Jvm.Cond.code ({ cls := "StandingsHall$Standing", name := "twiceMeanRank", desc := "(LStandingsHall$Entrant;)I" } : Jvm.MethodName) prog_7_method_8_code (2 : Nat) (Option.some Jvm.ClassFile.FieldType.int)) ∈ lw_tbl := z_in2 (List.mem_of_getElem? (i := 99) rfl)
theorem w2_98 : (Jvm.Cond.instanceMethod ({ cls := "StandingsHall$Standing", name := "twiceMeanRank", desc := "(LStandingsHall$Entrant;)I" } : Jvm.MethodName)) ∈ lw_tbl := z_in2 (List.mem_of_getElem? (i := 98) rfl)
theorem wS7 : (Cond.selects "StandingsHall$Standing" ⟨"StandingsHall$Standing", "twiceMeanRank", "(LStandingsHall$Entrant;)I"⟩ ⟨"StandingsHall$Standing", "twiceMeanRank", "(LStandingsHall$Entrant;)I"⟩ : Cond) ∈ lw_tbl := z_inS (List.mem_of_getElem? (i := 7) rfl)
theorem w2_100 : (Jvm.Cond.methodLink "StandingsHall$Standing" (56 : Nat) ({ cls := "StandingsHall$Standing", name := "sharedRank", desc := "(LStandingsHall$Entrant;)I" } : Jvm.MethodName)) ∈ lw_tbl := z_in2 (List.mem_of_getElem? (i := 100) rfl)
theorem w2_108 : (Jvm.Cond.code ({ cls := "StandingsHall$Standing", name := "countAlike", desc := "(LStandingsHall$Entrant;)I" } : Jvm.MethodName) prog_7_method_9_code (4 : Nat) (Option.some Jvm.ClassFile.FieldType.int)) ∈ lw_tbl := z_in2 (List.mem_of_getElem? (i := 108) rfl)
theorem w2_107 : (Jvm.Cond.instanceMethod ({ cls := "StandingsHall$Standing", name := "countAlike", desc := "(LStandingsHall$Entrant;)I" } : Jvm.MethodName)) ∈ lw_tbl := z_in2 (List.mem_of_getElem? (i := 107) rfl)
theorem wS9 : (Cond.selects "StandingsHall$Standing" ⟨"StandingsHall$Standing", "countAlike", "(LStandingsHall$Entrant;)I"⟩ ⟨"StandingsHall$Standing", "countAlike", "(LStandingsHall$Entrant;)I"⟩ : Cond) ∈ lw_tbl := z_inS (List.mem_of_getElem? (i := 9) rfl)
theorem w2_105 : (Jvm.Cond.methodLink "StandingsHall$Standing" (60 : Nat) ({ cls := "StandingsHall$Standing", name := "countAlike", desc := "(LStandingsHall$Entrant;)I" } : Jvm.MethodName)) ∈ lw_tbl := z_in2 (List.mem_of_getElem? (i := 105) rfl)
theorem w2_83 : (Jvm.Cond.methodLinkNest "StandingsHall$Standing" (63 : Nat) ({ cls := "StandingsHall$Entrant", name := "isAlikeWith", desc := "(LStandingsHall$Entrant;)Z" } : Jvm.MethodName) "StandingsHall") ∈ lw_tbl := z_in2 (List.mem_of_getElem? (i := 83) rfl)
theorem w6_212 : (Jvm.Cond.code ({ cls := "StandingsHall$Standing", name := "countWorse", desc := "(LStandingsHall$Entrant;)I" } : Jvm.MethodName) prog_7_method_10_code (4 : Nat) (Option.some Jvm.ClassFile.FieldType.int)) ∈ lw_tbl := z_in6 (List.mem_of_getElem? (i := 212) rfl)
theorem w6_211 : (Jvm.Cond.instanceMethod ({ cls := "StandingsHall$Standing", name := "countWorse", desc := "(LStandingsHall$Entrant;)I" } : Jvm.MethodName)) ∈ lw_tbl := z_in6 (List.mem_of_getElem? (i := 211) rfl)
theorem wS83 : (Cond.selects "StandingsHall$Standing" ⟨"StandingsHall$Standing", "countWorse", "(LStandingsHall$Entrant;)I"⟩ ⟨"StandingsHall$Standing", "countWorse", "(LStandingsHall$Entrant;)I"⟩ : Cond) ∈ lw_tbl := z_inS (List.mem_of_getElem? (i := 83) rfl)
theorem w2_62 : (Jvm.Cond.code ({ cls := "StandingsHall$Standing", name := "countResults", desc := "()I" } : Jvm.MethodName) prog_7_method_11_code (3 : Nat) (Option.some Jvm.ClassFile.FieldType.int)) ∈ lw_tbl := z_in2 (List.mem_of_getElem? (i := 62) rfl)
theorem w2_61 : (Jvm.Cond.instanceMethod ({ cls := "StandingsHall$Standing", name := "countResults", desc := "()I" } : Jvm.MethodName)) ∈ lw_tbl := z_in2 (List.mem_of_getElem? (i := 61) rfl)
theorem wS3 : (Cond.selects "StandingsHall$Standing" ⟨"StandingsHall$Standing", "countResults", "()I"⟩ ⟨"StandingsHall$Standing", "countResults", "()I"⟩ : Cond) ∈ lw_tbl := z_inS (List.mem_of_getElem? (i := 3) rfl)
theorem w6_133 : (Jvm.Cond.code ({ cls := "StandingsHall$Standing", name := "firstPlaceOf", desc := "(I)I" } : Jvm.MethodName) prog_7_method_13_code (3 : Nat) (Option.some Jvm.ClassFile.FieldType.int)) ∈ lw_tbl := z_in6 (List.mem_of_getElem? (i := 133) rfl)
theorem w6_132 : (Jvm.Cond.instanceMethod ({ cls := "StandingsHall$Standing", name := "firstPlaceOf", desc := "(I)I" } : Jvm.MethodName)) ∈ lw_tbl := z_in6 (List.mem_of_getElem? (i := 132) rfl)
theorem wS74 : (Cond.selects "StandingsHall$Standing" ⟨"StandingsHall$Standing", "firstPlaceOf", "(I)I"⟩ ⟨"StandingsHall$Standing", "firstPlaceOf", "(I)I"⟩ : Cond) ∈ lw_tbl := z_inS (List.mem_of_getElem? (i := 74) rfl)
theorem w1_198 : (Jvm.Cond.fieldLinkNest "StandingsHall$Standing" (66 : Nat) "StandingsHall$Entrant" "group" "I" "StandingsHall") ∈ lw_tbl := z_in1 (List.mem_of_getElem? (i := 198) rfl)
theorem w6_144 : (Jvm.Cond.code ({ cls := "StandingsHall$Standing", name := "countOf", desc := "(I)I" } : Jvm.MethodName) prog_7_method_14_code (4 : Nat) (Option.some Jvm.ClassFile.FieldType.int)) ∈ lw_tbl := z_in6 (List.mem_of_getElem? (i := 144) rfl)
theorem w6_143 : (Jvm.Cond.instanceMethod ({ cls := "StandingsHall$Standing", name := "countOf", desc := "(I)I" } : Jvm.MethodName)) ∈ lw_tbl := z_in6 (List.mem_of_getElem? (i := 143) rfl)
theorem wS75 : (Cond.selects "StandingsHall$Standing" ⟨"StandingsHall$Standing", "countOf", "(I)I"⟩ ⟨"StandingsHall$Standing", "countOf", "(I)I"⟩ : Cond) ∈ lw_tbl := z_inS (List.mem_of_getElem? (i := 75) rfl)
theorem w6_155 : (Jvm.Cond.code ({ cls := "StandingsHall$Standing", name := "teamSum", desc := "(I)I" } : Jvm.MethodName) prog_7_method_15_code (5 : Nat) (Option.some Jvm.ClassFile.FieldType.int)) ∈ lw_tbl := z_in6 (List.mem_of_getElem? (i := 155) rfl)
theorem w6_154 : (Jvm.Cond.instanceMethod ({ cls := "StandingsHall$Standing", name := "teamSum", desc := "(I)I" } : Jvm.MethodName)) ∈ lw_tbl := z_in6 (List.mem_of_getElem? (i := 154) rfl)
theorem wS76 : (Cond.selects "StandingsHall$Standing" ⟨"StandingsHall$Standing", "teamSum", "(I)I"⟩ ⟨"StandingsHall$Standing", "teamSum", "(I)I"⟩ : Cond) ∈ lw_tbl := z_inS (List.mem_of_getElem? (i := 76) rfl)
theorem w1_45 : (Jvm.Cond.code ({ cls := "StandingsHall$Tape", name := "<init>", desc := "()V" } : Jvm.MethodName) prog_8_method_1_code (1 : Nat) (Option.none : Option Jvm.ClassFile.FieldType)) ∈ lw_tbl := z_in1 (List.mem_of_getElem? (i := 45) rfl)
theorem w1_44 : (Jvm.Cond.instanceMethod ({ cls := "StandingsHall$Tape", name := "<init>", desc := "()V" } : Jvm.MethodName)) ∈ lw_tbl := z_in1 (List.mem_of_getElem? (i := 44) rfl)
theorem w1_46 : (Jvm.Cond.methodLink "StandingsHall$Tape" (3 : Nat) ({ cls := "java/lang/Object", name := "<init>", desc := "()V" } : Jvm.MethodName)) ∈ lw_tbl := z_in1 (List.mem_of_getElem? (i := 46) rfl)
theorem w1_47 : (Jvm.Cond.fieldLink "StandingsHall$Tape" (9 : Nat) "StandingsHall$Tape" "bytes" "[I") ∈ lw_tbl := z_in1 (List.mem_of_getElem? (i := 47) rfl)
theorem w2_221 : (Jvm.Cond.code ({ cls := "StandingsHall$Tape", name := "bytesIn", desc := "(I)I" } : Jvm.MethodName) prog_8_method_2_code (4 : Nat) (Option.some Jvm.ClassFile.FieldType.int)) ∈ lw_tbl := z_in2 (List.mem_of_getElem? (i := 221) rfl)
theorem w2_220 : (Jvm.Cond.instanceMethod ({ cls := "StandingsHall$Tape", name := "bytesIn", desc := "(I)I" } : Jvm.MethodName)) ∈ lw_tbl := z_in2 (List.mem_of_getElem? (i := 220) rfl)
theorem wS27 : (Cond.selects "StandingsHall$Tape" ⟨"StandingsHall$Tape", "bytesIn", "(I)I"⟩ ⟨"StandingsHall$Tape", "bytesIn", "(I)I"⟩ : Cond) ∈ lw_tbl := z_inS (List.mem_of_getElem? (i := 27) rfl)
theorem w3_54 : (Jvm.Cond.code ({ cls := "StandingsHall$Tape", name := "addWord", desc := "(I)V" } : Jvm.MethodName) prog_8_method_3_code (4 : Nat) (Option.none : Option Jvm.ClassFile.FieldType)) ∈ lw_tbl := z_in3 (List.mem_of_getElem? (i := 54) rfl)
theorem w3_53 : (Jvm.Cond.instanceMethod ({ cls := "StandingsHall$Tape", name := "addWord", desc := "(I)V" } : Jvm.MethodName)) ∈ lw_tbl := z_in3 (List.mem_of_getElem? (i := 53) rfl)
theorem wS29 : (Cond.selects "StandingsHall$Tape" ⟨"StandingsHall$Tape", "addWord", "(I)V"⟩ ⟨"StandingsHall$Tape", "addWord", "(I)V"⟩ : Cond) ∈ lw_tbl := z_inS (List.mem_of_getElem? (i := 29) rfl)
theorem w1_49 : (Jvm.Cond.fieldLink "StandingsHall$Tape" (15 : Nat) "StandingsHall$Tape" "length" "I") ∈ lw_tbl := z_in1 (List.mem_of_getElem? (i := 49) rfl)
theorem w1_1 : (Jvm.Cond.initialized "StandingsHall") ∈ lw_tbl := z_in1 (List.mem_of_getElem? (i := 1) rfl)
theorem w1_37 : (Jvm.Cond.code ({ cls := "StandingsHall", name := "<init>", desc := "()V" } : Jvm.MethodName) prog_1_method_1_code (1 : Nat) (Option.none : Option Jvm.ClassFile.FieldType)) ∈ lw_tbl := z_in1 (List.mem_of_getElem? (i := 37) rfl)
theorem w1_36 : (Jvm.Cond.instanceMethod ({ cls := "StandingsHall", name := "<init>", desc := "()V" } : Jvm.MethodName)) ∈ lw_tbl := z_in1 (List.mem_of_getElem? (i := 36) rfl)
theorem w1_38 : (Jvm.Cond.methodLink "StandingsHall" (1 : Nat) ({ cls := "java/lang/Object", name := "<init>", desc := "()V" } : Jvm.MethodName)) ∈ lw_tbl := z_in1 (List.mem_of_getElem? (i := 38) rfl)
theorem w1_41 : (Jvm.Cond.classLink "StandingsHall" (7 : Nat) "StandingsHall$Tape") ∈ lw_tbl := z_in1 (List.mem_of_getElem? (i := 41) rfl)
theorem w1_42 : (Jvm.Cond.instantiable "StandingsHall$Tape" (2 : Nat)) ∈ lw_tbl := z_in1 (List.mem_of_getElem? (i := 42) rfl)
theorem w1_43 : (Jvm.Cond.methodLinkNest "StandingsHall" (9 : Nat) ({ cls := "StandingsHall$Tape", name := "<init>", desc := "()V" } : Jvm.MethodName) "StandingsHall") ∈ lw_tbl := z_in1 (List.mem_of_getElem? (i := 43) rfl)
theorem w1_239 : (Jvm.Cond.fieldLink "StandingsHall" (10 : Nat) "StandingsHall" "tape" "LStandingsHall$Tape;") ∈ lw_tbl := z_in1 (List.mem_of_getElem? (i := 239) rfl)
theorem w1_56 : (Jvm.Cond.classLink "StandingsHall" (16 : Nat) "StandingsHall$OrderReader") ∈ lw_tbl := z_in1 (List.mem_of_getElem? (i := 56) rfl)
theorem w1_57 : (Jvm.Cond.instantiable "StandingsHall$OrderReader" (6 : Nat)) ∈ lw_tbl := z_in1 (List.mem_of_getElem? (i := 57) rfl)
theorem w1_58 : (Jvm.Cond.methodLinkNest "StandingsHall" (18 : Nat) ({ cls := "StandingsHall$OrderReader", name := "<init>", desc := "(LStandingsHall$Tape;)V" } : Jvm.MethodName) "StandingsHall") ∈ lw_tbl := z_in1 (List.mem_of_getElem? (i := 58) rfl)
theorem w2_0 : (Jvm.Cond.fieldLink "StandingsHall" (21 : Nat) "StandingsHall" "reader" "LStandingsHall$OrderReader;") ∈ lw_tbl := z_in2 (List.mem_of_getElem? (i := 0) rfl)
theorem w1_82 : (Jvm.Cond.classLink "StandingsHall" (25 : Nat) "StandingsHall$Order") ∈ lw_tbl := z_in1 (List.mem_of_getElem? (i := 82) rfl)
theorem w1_83 : (Jvm.Cond.instantiable "StandingsHall$Order" (3 : Nat)) ∈ lw_tbl := z_in1 (List.mem_of_getElem? (i := 83) rfl)
theorem w1_84 : (Jvm.Cond.methodLinkNest "StandingsHall" (27 : Nat) ({ cls := "StandingsHall$Order", name := "<init>", desc := "()V" } : Jvm.MethodName) "StandingsHall") ∈ lw_tbl := z_in1 (List.mem_of_getElem? (i := 84) rfl)
theorem w2_1 : (Jvm.Cond.fieldLink "StandingsHall" (28 : Nat) "StandingsHall" "order" "LStandingsHall$Order;") ∈ lw_tbl := z_in2 (List.mem_of_getElem? (i := 1) rfl)
theorem w2_2 : (Jvm.Cond.fieldLink "StandingsHall" (32 : Nat) "StandingsHall" "draft" "LStandingsHall$Order;") ∈ lw_tbl := z_in2 (List.mem_of_getElem? (i := 2) rfl)
theorem w1_99 : (Jvm.Cond.methodLinkNest "StandingsHall" (35 : Nat) ({ cls := "StandingsHall$Order", name := "begin", desc := "(II)V" } : Jvm.MethodName) "StandingsHall") ∈ lw_tbl := z_in1 (List.mem_of_getElem? (i := 99) rfl)
theorem w1_107 : (Jvm.Cond.methodLinkNest "StandingsHall" (39 : Nat) ({ cls := "StandingsHall$Order", name := "addTerm", desc := "(III)V" } : Jvm.MethodName) "StandingsHall") ∈ lw_tbl := z_in1 (List.mem_of_getElem? (i := 107) rfl)
theorem w2_3 : (Jvm.Cond.fieldLink "StandingsHall" (43 : Nat) "StandingsHall" "errorPosition" "I") ∈ lw_tbl := z_in2 (List.mem_of_getElem? (i := 3) rfl)
theorem w1_111 : (Jvm.Cond.classLink "StandingsHall" (47 : Nat) "java/util/ArrayList") ∈ lw_tbl := z_in1 (List.mem_of_getElem? (i := 111) rfl)
theorem w1_113 : (Jvm.Cond.methodLink "StandingsHall" (49 : Nat) ({ cls := "java/util/ArrayList", name := "<init>", desc := "()V" } : Jvm.MethodName)) ∈ lw_tbl := z_in1 (List.mem_of_getElem? (i := 113) rfl)
theorem w2_4 : (Jvm.Cond.fieldLink "StandingsHall" (50 : Nat) "StandingsHall" "come" "Ljava/util/ArrayList;") ∈ lw_tbl := z_in2 (List.mem_of_getElem? (i := 4) rfl)
theorem w1_137 : (Jvm.Cond.classLink "StandingsHall" (54 : Nat) "StandingsHall$Standing") ∈ lw_tbl := z_in1 (List.mem_of_getElem? (i := 137) rfl)
theorem w1_138 : (Jvm.Cond.instantiable "StandingsHall$Standing" (1 : Nat)) ∈ lw_tbl := z_in1 (List.mem_of_getElem? (i := 138) rfl)
theorem w1_139 : (Jvm.Cond.methodLinkNest "StandingsHall" (56 : Nat) ({ cls := "StandingsHall$Standing", name := "<init>", desc := "()V" } : Jvm.MethodName) "StandingsHall") ∈ lw_tbl := z_in1 (List.mem_of_getElem? (i := 139) rfl)
theorem w2_5 : (Jvm.Cond.fieldLink "StandingsHall" (57 : Nat) "StandingsHall" "standing" "LStandingsHall$Standing;") ∈ lw_tbl := z_in2 (List.mem_of_getElem? (i := 5) rfl)
theorem w1_150 : (Jvm.Cond.classLink "StandingsHall" (61 : Nat) "StandingsHall$PointsRow") ∈ lw_tbl := z_in1 (List.mem_of_getElem? (i := 150) rfl)
theorem w1_151 : (Jvm.Cond.instantiable "StandingsHall$PointsRow" (1 : Nat)) ∈ lw_tbl := z_in1 (List.mem_of_getElem? (i := 151) rfl)
theorem w1_152 : (Jvm.Cond.methodLinkNest "StandingsHall" (63 : Nat) ({ cls := "StandingsHall$PointsRow", name := "<init>", desc := "()V" } : Jvm.MethodName) "StandingsHall") ∈ lw_tbl := z_in1 (List.mem_of_getElem? (i := 152) rfl)
theorem w2_6 : (Jvm.Cond.fieldLink "StandingsHall" (64 : Nat) "StandingsHall" "pointsRow" "LStandingsHall$PointsRow;") ∈ lw_tbl := z_in2 (List.mem_of_getElem? (i := 6) rfl)
theorem w1_163 : (Jvm.Cond.classLink "StandingsHall" (68 : Nat) "StandingsHall$Ladder") ∈ lw_tbl := z_in1 (List.mem_of_getElem? (i := 163) rfl)
theorem w1_164 : (Jvm.Cond.instantiable "StandingsHall$Ladder" (3 : Nat)) ∈ lw_tbl := z_in1 (List.mem_of_getElem? (i := 164) rfl)
theorem w1_165 : (Jvm.Cond.methodLinkNest "StandingsHall" (70 : Nat) ({ cls := "StandingsHall$Ladder", name := "<init>", desc := "()V" } : Jvm.MethodName) "StandingsHall") ∈ lw_tbl := z_in1 (List.mem_of_getElem? (i := 165) rfl)
theorem w2_7 : (Jvm.Cond.fieldLink "StandingsHall" (71 : Nat) "StandingsHall" "ladder" "LStandingsHall$Ladder;") ∈ lw_tbl := z_in2 (List.mem_of_getElem? (i := 7) rfl)
theorem w1_184 : (Jvm.Cond.classLink "StandingsHall" (75 : Nat) "StandingsHall$Entrant") ∈ lw_tbl := z_in1 (List.mem_of_getElem? (i := 184) rfl)
theorem w1_185 : (Jvm.Cond.instantiable "StandingsHall$Entrant" (11 : Nat)) ∈ lw_tbl := z_in1 (List.mem_of_getElem? (i := 185) rfl)
theorem w1_186 : (Jvm.Cond.methodLinkNest "StandingsHall" (77 : Nat) ({ cls := "StandingsHall$Entrant", name := "<init>", desc := "(II)V" } : Jvm.MethodName) "StandingsHall") ∈ lw_tbl := z_in1 (List.mem_of_getElem? (i := 186) rfl)
theorem w2_9 : (Jvm.Cond.fieldLink "StandingsHall" (79 : Nat) "StandingsHall" "trial" "LStandingsHall$Entrant;") ∈ lw_tbl := z_in2 (List.mem_of_getElem? (i := 9) rfl)
theorem w2_10 : (Jvm.Cond.fieldLink "StandingsHall" (83 : Nat) "StandingsHall" "latest" "[I") ∈ lw_tbl := z_in2 (List.mem_of_getElem? (i := 10) rfl)
theorem w2_11 : (Jvm.Cond.fieldLink "StandingsHall" (87 : Nat) "StandingsHall" "slots" "[I") ∈ lw_tbl := z_in2 (List.mem_of_getElem? (i := 11) rfl)
theorem w2_217 : (Jvm.Cond.code ({ cls := "StandingsHall", name := "append", desc := "(IIIII)I" } : Jvm.MethodName) prog_1_method_2_code (7 : Nat) (Option.some Jvm.ClassFile.FieldType.int)) ∈ lw_tbl := z_in2 (List.mem_of_getElem? (i := 217) rfl)
theorem w2_215 : (Jvm.Cond.instanceMethod ({ cls := "StandingsHall", name := "append", desc := "(IIIII)I" } : Jvm.MethodName)) ∈ lw_tbl := z_in2 (List.mem_of_getElem? (i := 215) rfl)
theorem w2_216 : (Jvm.Cond.selects "StandingsHall" ({ cls := "StandingsHall", name := "append", desc := "(IIIII)I" } : Jvm.MethodName) ({ cls := "StandingsHall", name := "append", desc := "(IIIII)I" } : Jvm.MethodName)) ∈ lw_tbl := z_in2 (List.mem_of_getElem? (i := 216) rfl)
theorem w2_218 : (Jvm.Cond.methodLinkNest "StandingsHall" (90 : Nat) ({ cls := "StandingsHall$Tape", name := "bytesIn", desc := "(I)I" } : Jvm.MethodName) "StandingsHall") ∈ lw_tbl := z_in2 (List.mem_of_getElem? (i := 218) rfl)
theorem w1_48 : (Jvm.Cond.fieldLinkNest "StandingsHall" (94 : Nat) "StandingsHall$Tape" "length" "I" "StandingsHall") ∈ lw_tbl := z_in1 (List.mem_of_getElem? (i := 48) rfl)
theorem w3_51 : (Jvm.Cond.methodLinkNest "StandingsHall" (104 : Nat) ({ cls := "StandingsHall$Tape", name := "addWord", desc := "(I)V" } : Jvm.MethodName) "StandingsHall") ∈ lw_tbl := z_in3 (List.mem_of_getElem? (i := 51) rfl)
theorem w3_24 : (Jvm.Cond.stringRef "StandingsHall" (99 : Nat) "the tape is full") ∈ lw_tbl := z_in3 (List.mem_of_getElem? (i := 24) rfl)
theorem w2_42 : (Jvm.Cond.code ({ cls := "StandingsHall", name := "clearTape", desc := "()I" } : Jvm.MethodName) prog_1_method_3_code (2 : Nat) (Option.some Jvm.ClassFile.FieldType.int)) ∈ lw_tbl := z_in2 (List.mem_of_getElem? (i := 42) rfl)
theorem w2_40 : (Jvm.Cond.instanceMethod ({ cls := "StandingsHall", name := "clearTape", desc := "()I" } : Jvm.MethodName)) ∈ lw_tbl := z_in2 (List.mem_of_getElem? (i := 40) rfl)
theorem w2_41 : (Jvm.Cond.selects "StandingsHall" ({ cls := "StandingsHall", name := "clearTape", desc := "()I" } : Jvm.MethodName) ({ cls := "StandingsHall", name := "clearTape", desc := "()I" } : Jvm.MethodName)) ∈ lw_tbl := z_in2 (List.mem_of_getElem? (i := 41) rfl)
theorem w3_62 : (Jvm.Cond.code ({ cls := "StandingsHall", name := "setOrder", desc := "()I" } : Jvm.MethodName) prog_1_method_4_code (2 : Nat) (Option.some Jvm.ClassFile.FieldType.int)) ∈ lw_tbl := z_in3 (List.mem_of_getElem? (i := 62) rfl)
theorem w3_60 : (Jvm.Cond.instanceMethod ({ cls := "StandingsHall", name := "setOrder", desc := "()I" } : Jvm.MethodName)) ∈ lw_tbl := z_in3 (List.mem_of_getElem? (i := 60) rfl)
theorem w3_61 : (Jvm.Cond.selects "StandingsHall" ({ cls := "StandingsHall", name := "setOrder", desc := "()I" } : Jvm.MethodName) ({ cls := "StandingsHall", name := "setOrder", desc := "()I" } : Jvm.MethodName)) ∈ lw_tbl := z_in3 (List.mem_of_getElem? (i := 61) rfl)
theorem w3_63 : (Jvm.Cond.methodLinkNest "StandingsHall" (108 : Nat) ({ cls := "StandingsHall$OrderReader", name := "readOrder", desc := "(LStandingsHall$Order;)Z" } : Jvm.MethodName) "StandingsHall") ∈ lw_tbl := z_in3 (List.mem_of_getElem? (i := 63) rfl)
theorem w1_64 : (Jvm.Cond.fieldLinkNest "StandingsHall" (112 : Nat) "StandingsHall$OrderReader" "start" "I" "StandingsHall") ∈ lw_tbl := z_in1 (List.mem_of_getElem? (i := 64) rfl)
theorem w3_129 : (Jvm.Cond.code ({ cls := "StandingsHall", name := "makeStandingAnew", desc := "()V" } : Jvm.MethodName) prog_1_method_62_code (3 : Nat) (Option.none : Option Jvm.ClassFile.FieldType)) ∈ lw_tbl := z_in3 (List.mem_of_getElem? (i := 129) rfl)
theorem w3_128 : (Jvm.Cond.instanceMethod ({ cls := "StandingsHall", name := "makeStandingAnew", desc := "()V" } : Jvm.MethodName)) ∈ lw_tbl := z_in3 (List.mem_of_getElem? (i := 128) rfl)
theorem wS41 : (Cond.selects "StandingsHall" ⟨"StandingsHall", "makeStandingAnew", "()V"⟩ ⟨"StandingsHall", "makeStandingAnew", "()V"⟩ : Cond) ∈ lw_tbl := z_inS (List.mem_of_getElem? (i := 41) rfl)
theorem w3_126 : (Jvm.Cond.methodLink "StandingsHall" (120 : Nat) ({ cls := "StandingsHall", name := "makeStandingAnew", desc := "()V" } : Jvm.MethodName)) ∈ lw_tbl := z_in3 (List.mem_of_getElem? (i := 126) rfl)
theorem w1_91 : (Jvm.Cond.fieldLinkNest "StandingsHall" (123 : Nat) "StandingsHall$Order" "count" "I" "StandingsHall") ∈ lw_tbl := z_in1 (List.mem_of_getElem? (i := 91) rfl)
theorem w3_119 : (Jvm.Cond.stringRef "StandingsHall" (117 : Nat) "the text has an error") ∈ lw_tbl := z_in3 (List.mem_of_getElem? (i := 119) rfl)
theorem w2_46 : (Jvm.Cond.code ({ cls := "StandingsHall", name := "errorPosition", desc := "()I" } : Jvm.MethodName) prog_1_method_5_code (1 : Nat) (Option.some Jvm.ClassFile.FieldType.int)) ∈ lw_tbl := z_in2 (List.mem_of_getElem? (i := 46) rfl)
theorem w2_44 : (Jvm.Cond.instanceMethod ({ cls := "StandingsHall", name := "errorPosition", desc := "()I" } : Jvm.MethodName)) ∈ lw_tbl := z_in2 (List.mem_of_getElem? (i := 44) rfl)
theorem w2_45 : (Jvm.Cond.selects "StandingsHall" ({ cls := "StandingsHall", name := "errorPosition", desc := "()I" } : Jvm.MethodName) ({ cls := "StandingsHall", name := "errorPosition", desc := "()I" } : Jvm.MethodName)) ∈ lw_tbl := z_in2 (List.mem_of_getElem? (i := 45) rfl)
theorem w4_223 : (Jvm.Cond.code ({ cls := "StandingsHall", name := "criterion", desc := "(II)I" } : Jvm.MethodName) prog_1_method_6_code (4 : Nat) (Option.some Jvm.ClassFile.FieldType.int)) ∈ lw_tbl := z_in4 (List.mem_of_getElem? (i := 223) rfl)
theorem w4_221 : (Jvm.Cond.instanceMethod ({ cls := "StandingsHall", name := "criterion", desc := "(II)I" } : Jvm.MethodName)) ∈ lw_tbl := z_in4 (List.mem_of_getElem? (i := 221) rfl)
theorem w4_222 : (Jvm.Cond.selects "StandingsHall" ({ cls := "StandingsHall", name := "criterion", desc := "(II)I" } : Jvm.MethodName) ({ cls := "StandingsHall", name := "criterion", desc := "(II)I" } : Jvm.MethodName)) ∈ lw_tbl := z_in4 (List.mem_of_getElem? (i := 222) rfl)
theorem w4_227 : (Jvm.Cond.code ({ cls := "StandingsHall", name := "presentOne", desc := "(I)LStandingsHall$Entrant;" } : Jvm.MethodName) prog_1_method_52_code (2 : Nat) (Option.some (Jvm.ClassFile.FieldType.object "StandingsHall$Entrant"))) ∈ lw_tbl := z_in4 (List.mem_of_getElem? (i := 227) rfl)
theorem w4_226 : (Jvm.Cond.instanceMethod ({ cls := "StandingsHall", name := "presentOne", desc := "(I)LStandingsHall$Entrant;" } : Jvm.MethodName)) ∈ lw_tbl := z_in4 (List.mem_of_getElem? (i := 226) rfl)
theorem wS48 : (Cond.selects "StandingsHall" ⟨"StandingsHall", "presentOne", "(I)LStandingsHall$Entrant;"⟩ ⟨"StandingsHall", "presentOne", "(I)LStandingsHall$Entrant;"⟩ : Cond) ∈ lw_tbl := z_inS (List.mem_of_getElem? (i := 48) rfl)
theorem w4_224 : (Jvm.Cond.methodLink "StandingsHall" (126 : Nat) ({ cls := "StandingsHall", name := "presentOne", desc := "(I)LStandingsHall$Entrant;" } : Jvm.MethodName)) ∈ lw_tbl := z_in4 (List.mem_of_getElem? (i := 224) rfl)
theorem w4_232 : (Jvm.Cond.methodLinkNest "StandingsHall" (132 : Nat) ({ cls := "StandingsHall$Order", name := "valueFor", desc := "(LStandingsHall$Entrant;I)I" } : Jvm.MethodName) "StandingsHall") ∈ lw_tbl := z_in4 (List.mem_of_getElem? (i := 232) rfl)
theorem w4_231 : (Jvm.Cond.stringRef "StandingsHall" (130 : Nat) "there is no such criterion") ∈ lw_tbl := z_in4 (List.mem_of_getElem? (i := 231) rfl)
theorem w4_239 : (Jvm.Cond.code ({ cls := "StandingsHall", name := "come", desc := "(I)I" } : Jvm.MethodName) prog_1_method_7_code (4 : Nat) (Option.some Jvm.ClassFile.FieldType.int)) ∈ lw_tbl := z_in4 (List.mem_of_getElem? (i := 239) rfl)
theorem w4_237 : (Jvm.Cond.instanceMethod ({ cls := "StandingsHall", name := "come", desc := "(I)I" } : Jvm.MethodName)) ∈ lw_tbl := z_in4 (List.mem_of_getElem? (i := 237) rfl)
theorem w4_238 : (Jvm.Cond.selects "StandingsHall" ({ cls := "StandingsHall", name := "come", desc := "(I)I" } : Jvm.MethodName) ({ cls := "StandingsHall", name := "come", desc := "(I)I" } : Jvm.MethodName)) ∈ lw_tbl := z_in4 (List.mem_of_getElem? (i := 238) rfl)
theorem w5_3 : (Jvm.Cond.code ({ cls := "StandingsHall", name := "checkGroup", desc := "(I)V" } : Jvm.MethodName) prog_1_method_53_code (2 : Nat) (Option.none : Option Jvm.ClassFile.FieldType)) ∈ lw_tbl := z_in5 (List.mem_of_getElem? (i := 3) rfl)
theorem w5_2 : (Jvm.Cond.instanceMethod ({ cls := "StandingsHall", name := "checkGroup", desc := "(I)V" } : Jvm.MethodName)) ∈ lw_tbl := z_in5 (List.mem_of_getElem? (i := 2) rfl)
theorem wS49 : (Cond.selects "StandingsHall" ⟨"StandingsHall", "checkGroup", "(I)V"⟩ ⟨"StandingsHall", "checkGroup", "(I)V"⟩ : Cond) ∈ lw_tbl := z_inS (List.mem_of_getElem? (i := 49) rfl)
theorem w5_0 : (Jvm.Cond.methodLink "StandingsHall" (136 : Nat) ({ cls := "StandingsHall", name := "checkGroup", desc := "(I)V" } : Jvm.MethodName)) ∈ lw_tbl := z_in5 (List.mem_of_getElem? (i := 0) rfl)
theorem w2_51 : (Jvm.Cond.methodLink "StandingsHall" (139 : Nat) ({ cls := "java/util/ArrayList", name := "size", desc := "()I" } : Jvm.MethodName)) ∈ lw_tbl := z_in2 (List.mem_of_getElem? (i := 51) rfl)
theorem w5_6 : (Jvm.Cond.methodLink "StandingsHall" (145 : Nat) ({ cls := "java/util/ArrayList", name := "add", desc := "(Ljava/lang/Object;)Z" } : Jvm.MethodName)) ∈ lw_tbl := z_in5 (List.mem_of_getElem? (i := 6) rfl)
theorem w2_165 : (Jvm.Cond.methodLinkNest "StandingsHall" (149 : Nat) ({ cls := "StandingsHall$Order", name := "judge", desc := "(LStandingsHall$Entrant;)V" } : Jvm.MethodName) "StandingsHall") ∈ lw_tbl := z_in2 (List.mem_of_getElem? (i := 165) rfl)
theorem w3_134 : (Jvm.Cond.methodLinkNest "StandingsHall" (153 : Nat) ({ cls := "StandingsHall$Standing", name := "put", desc := "(LStandingsHall$Entrant;)V" } : Jvm.MethodName) "StandingsHall") ∈ lw_tbl := z_in3 (List.mem_of_getElem? (i := 134) rfl)
theorem w5_14 : (Jvm.Cond.methodLinkNest "StandingsHall" (156 : Nat) ({ cls := "StandingsHall$PointsRow", name := "put", desc := "(LStandingsHall$Entrant;)V" } : Jvm.MethodName) "StandingsHall") ∈ lw_tbl := z_in5 (List.mem_of_getElem? (i := 14) rfl)
theorem w5_5 : (Jvm.Cond.stringRef "StandingsHall" (143 : Nat) "no more can come") ∈ lw_tbl := z_in5 (List.mem_of_getElem? (i := 5) rfl)
theorem w5_26 : (Jvm.Cond.code ({ cls := "StandingsHall", name := "leave", desc := "(I)I" } : Jvm.MethodName) prog_1_method_8_code (4 : Nat) (Option.some Jvm.ClassFile.FieldType.int)) ∈ lw_tbl := z_in5 (List.mem_of_getElem? (i := 26) rfl)
theorem w5_24 : (Jvm.Cond.instanceMethod ({ cls := "StandingsHall", name := "leave", desc := "(I)I" } : Jvm.MethodName)) ∈ lw_tbl := z_in5 (List.mem_of_getElem? (i := 24) rfl)
theorem w5_25 : (Jvm.Cond.selects "StandingsHall" ({ cls := "StandingsHall", name := "leave", desc := "(I)I" } : Jvm.MethodName) ({ cls := "StandingsHall", name := "leave", desc := "(I)I" } : Jvm.MethodName)) ∈ lw_tbl := z_in5 (List.mem_of_getElem? (i := 25) rfl)
theorem w1_206 : (Jvm.Cond.fieldLinkNest "StandingsHall" (157 : Nat) "StandingsHall$Entrant" "place" "I" "StandingsHall") ∈ lw_tbl := z_in1 (List.mem_of_getElem? (i := 206) rfl)
theorem w5_27 : (Jvm.Cond.methodLinkNest "StandingsHall" (160 : Nat) ({ cls := "StandingsHall$Standing", name := "take", desc := "(LStandingsHall$Entrant;)V" } : Jvm.MethodName) "StandingsHall") ∈ lw_tbl := z_in5 (List.mem_of_getElem? (i := 27) rfl)
theorem w5_39 : (Jvm.Cond.methodLinkNest "StandingsHall" (163 : Nat) ({ cls := "StandingsHall$PointsRow", name := "take", desc := "(LStandingsHall$Entrant;)V" } : Jvm.MethodName) "StandingsHall") ∈ lw_tbl := z_in5 (List.mem_of_getElem? (i := 39) rfl)
theorem w5_44 : (Jvm.Cond.methodLinkNest "StandingsHall" (164 : Nat) ({ cls := "StandingsHall$Ladder", name := "take", desc := "(LStandingsHall$Entrant;)V" } : Jvm.MethodName) "StandingsHall") ∈ lw_tbl := z_in5 (List.mem_of_getElem? (i := 44) rfl)
theorem w1_200 : (Jvm.Cond.fieldLinkNest "StandingsHall" (165 : Nat) "StandingsHall$Entrant" "isThere" "Z" "StandingsHall") ∈ lw_tbl := z_in1 (List.mem_of_getElem? (i := 200) rfl)
theorem w5_61 : (Jvm.Cond.code ({ cls := "StandingsHall", name := "score", desc := "(III)I" } : Jvm.MethodName) prog_1_method_9_code (6 : Nat) (Option.some Jvm.ClassFile.FieldType.int)) ∈ lw_tbl := z_in5 (List.mem_of_getElem? (i := 61) rfl)
theorem w5_59 : (Jvm.Cond.instanceMethod ({ cls := "StandingsHall", name := "score", desc := "(III)I" } : Jvm.MethodName)) ∈ lw_tbl := z_in5 (List.mem_of_getElem? (i := 59) rfl)
theorem w5_60 : (Jvm.Cond.selects "StandingsHall" ({ cls := "StandingsHall", name := "score", desc := "(III)I" } : Jvm.MethodName) ({ cls := "StandingsHall", name := "score", desc := "(III)I" } : Jvm.MethodName)) ∈ lw_tbl := z_in5 (List.mem_of_getElem? (i := 60) rfl)
theorem w5_65 : (Jvm.Cond.code ({ cls := "StandingsHall", name := "raisedScore", desc := "(LStandingsHall$Entrant;II)I" } : Jvm.MethodName) prog_1_method_60_code (6 : Nat) (Option.some Jvm.ClassFile.FieldType.int)) ∈ lw_tbl := z_in5 (List.mem_of_getElem? (i := 65) rfl)
theorem w5_64 : (Jvm.Cond.instanceMethod ({ cls := "StandingsHall", name := "raisedScore", desc := "(LStandingsHall$Entrant;II)I" } : Jvm.MethodName)) ∈ lw_tbl := z_in5 (List.mem_of_getElem? (i := 64) rfl)
theorem wS57 : (Cond.selects "StandingsHall" ⟨"StandingsHall", "raisedScore", "(LStandingsHall$Entrant;II)I"⟩ ⟨"StandingsHall", "raisedScore", "(LStandingsHall$Entrant;II)I"⟩ : Cond) ∈ lw_tbl := z_inS (List.mem_of_getElem? (i := 57) rfl)
theorem w5_62 : (Jvm.Cond.methodLink "StandingsHall" (169 : Nat) ({ cls := "StandingsHall", name := "raisedScore", desc := "(LStandingsHall$Entrant;II)I" } : Jvm.MethodName)) ∈ lw_tbl := z_in5 (List.mem_of_getElem? (i := 62) rfl)
theorem w5_81 : (Jvm.Cond.code ({ cls := "StandingsHall", name := "changeScore", desc := "(LStandingsHall$Entrant;II)V" } : Jvm.MethodName) prog_1_method_61_code (4 : Nat) (Option.none : Option Jvm.ClassFile.FieldType)) ∈ lw_tbl := z_in5 (List.mem_of_getElem? (i := 81) rfl)
theorem w5_80 : (Jvm.Cond.instanceMethod ({ cls := "StandingsHall", name := "changeScore", desc := "(LStandingsHall$Entrant;II)V" } : Jvm.MethodName)) ∈ lw_tbl := z_in5 (List.mem_of_getElem? (i := 80) rfl)
theorem wS60 : (Cond.selects "StandingsHall" ⟨"StandingsHall", "changeScore", "(LStandingsHall$Entrant;II)V"⟩ ⟨"StandingsHall", "changeScore", "(LStandingsHall$Entrant;II)V"⟩ : Cond) ∈ lw_tbl := z_inS (List.mem_of_getElem? (i := 60) rfl)
theorem w5_78 : (Jvm.Cond.methodLink "StandingsHall" (173 : Nat) ({ cls := "StandingsHall", name := "changeScore", desc := "(LStandingsHall$Entrant;II)V" } : Jvm.MethodName)) ∈ lw_tbl := z_in5 (List.mem_of_getElem? (i := 78) rfl)
theorem w5_88 : (Jvm.Cond.code ({ cls := "StandingsHall", name := "setScore", desc := "(III)I" } : Jvm.MethodName) prog_1_method_10_code (6 : Nat) (Option.some Jvm.ClassFile.FieldType.int)) ∈ lw_tbl := z_in5 (List.mem_of_getElem? (i := 88) rfl)
theorem w5_86 : (Jvm.Cond.instanceMethod ({ cls := "StandingsHall", name := "setScore", desc := "(III)I" } : Jvm.MethodName)) ∈ lw_tbl := z_in5 (List.mem_of_getElem? (i := 86) rfl)
theorem w5_87 : (Jvm.Cond.selects "StandingsHall" ({ cls := "StandingsHall", name := "setScore", desc := "(III)I" } : Jvm.MethodName) ({ cls := "StandingsHall", name := "setScore", desc := "(III)I" } : Jvm.MethodName)) ∈ lw_tbl := z_in5 (List.mem_of_getElem? (i := 87) rfl)
theorem w5_69 : (Jvm.Cond.code ({ cls := "StandingsHall", name := "checkKind", desc := "(I)V" } : Jvm.MethodName) prog_1_method_54_code (2 : Nat) (Option.none : Option Jvm.ClassFile.FieldType)) ∈ lw_tbl := z_in5 (List.mem_of_getElem? (i := 69) rfl)
theorem w5_68 : (Jvm.Cond.instanceMethod ({ cls := "StandingsHall", name := "checkKind", desc := "(I)V" } : Jvm.MethodName)) ∈ lw_tbl := z_in5 (List.mem_of_getElem? (i := 68) rfl)
theorem wS58 : (Cond.selects "StandingsHall" ⟨"StandingsHall", "checkKind", "(I)V"⟩ ⟨"StandingsHall", "checkKind", "(I)V"⟩ : Cond) ∈ lw_tbl := z_inS (List.mem_of_getElem? (i := 58) rfl)
theorem w5_66 : (Jvm.Cond.methodLink "StandingsHall" (177 : Nat) ({ cls := "StandingsHall", name := "checkKind", desc := "(I)V" } : Jvm.MethodName)) ∈ lw_tbl := z_in5 (List.mem_of_getElem? (i := 66) rfl)
theorem w5_74 : (Jvm.Cond.code ({ cls := "StandingsHall", name := "checkScore", desc := "(J)V" } : Jvm.MethodName) prog_1_method_55_code (3 : Nat) (Option.none : Option Jvm.ClassFile.FieldType)) ∈ lw_tbl := z_in5 (List.mem_of_getElem? (i := 74) rfl)
theorem w5_73 : (Jvm.Cond.instanceMethod ({ cls := "StandingsHall", name := "checkScore", desc := "(J)V" } : Jvm.MethodName)) ∈ lw_tbl := z_in5 (List.mem_of_getElem? (i := 73) rfl)
theorem wS59 : (Cond.selects "StandingsHall" ⟨"StandingsHall", "checkScore", "(J)V"⟩ ⟨"StandingsHall", "checkScore", "(J)V"⟩ : Cond) ∈ lw_tbl := z_inS (List.mem_of_getElem? (i := 59) rfl)
theorem w5_71 : (Jvm.Cond.methodLink "StandingsHall" (180 : Nat) ({ cls := "StandingsHall", name := "checkScore", desc := "(J)V" } : Jvm.MethodName)) ∈ lw_tbl := z_in5 (List.mem_of_getElem? (i := 71) rfl)
theorem w2_157 : (Jvm.Cond.methodLinkNest "StandingsHall" (184 : Nat) ({ cls := "StandingsHall$Entrant", name := "scoreIn", desc := "(I)I" } : Jvm.MethodName) "StandingsHall") ∈ lw_tbl := z_in2 (List.mem_of_getElem? (i := 157) rfl)
theorem w5_95 : (Jvm.Cond.code ({ cls := "StandingsHall", name := "scoreOf", desc := "(II)I" } : Jvm.MethodName) prog_1_method_11_code (4 : Nat) (Option.some Jvm.ClassFile.FieldType.int)) ∈ lw_tbl := z_in5 (List.mem_of_getElem? (i := 95) rfl)
theorem w5_93 : (Jvm.Cond.instanceMethod ({ cls := "StandingsHall", name := "scoreOf", desc := "(II)I" } : Jvm.MethodName)) ∈ lw_tbl := z_in5 (List.mem_of_getElem? (i := 93) rfl)
theorem w5_94 : (Jvm.Cond.selects "StandingsHall" ({ cls := "StandingsHall", name := "scoreOf", desc := "(II)I" } : Jvm.MethodName) ({ cls := "StandingsHall", name := "scoreOf", desc := "(II)I" } : Jvm.MethodName)) ∈ lw_tbl := z_in5 (List.mem_of_getElem? (i := 94) rfl)
theorem w5_102 : (Jvm.Cond.code ({ cls := "StandingsHall", name := "groupOf", desc := "(I)I" } : Jvm.MethodName) prog_1_method_12_code (2 : Nat) (Option.some Jvm.ClassFile.FieldType.int)) ∈ lw_tbl := z_in5 (List.mem_of_getElem? (i := 102) rfl)
theorem w5_100 : (Jvm.Cond.instanceMethod ({ cls := "StandingsHall", name := "groupOf", desc := "(I)I" } : Jvm.MethodName)) ∈ lw_tbl := z_in5 (List.mem_of_getElem? (i := 100) rfl)
theorem w5_101 : (Jvm.Cond.selects "StandingsHall" ({ cls := "StandingsHall", name := "groupOf", desc := "(I)I" } : Jvm.MethodName) ({ cls := "StandingsHall", name := "groupOf", desc := "(I)I" } : Jvm.MethodName)) ∈ lw_tbl := z_in5 (List.mem_of_getElem? (i := 101) rfl)
theorem w1_197 : (Jvm.Cond.fieldLinkNest "StandingsHall" (187 : Nat) "StandingsHall$Entrant" "group" "I" "StandingsHall") ∈ lw_tbl := z_in1 (List.mem_of_getElem? (i := 197) rfl)
theorem w2_50 : (Jvm.Cond.code ({ cls := "StandingsHall", name := "entrants", desc := "()I" } : Jvm.MethodName) prog_1_method_13_code (1 : Nat) (Option.some Jvm.ClassFile.FieldType.int)) ∈ lw_tbl := z_in2 (List.mem_of_getElem? (i := 50) rfl)
theorem w2_48 : (Jvm.Cond.instanceMethod ({ cls := "StandingsHall", name := "entrants", desc := "()I" } : Jvm.MethodName)) ∈ lw_tbl := z_in2 (List.mem_of_getElem? (i := 48) rfl)
theorem w2_49 : (Jvm.Cond.selects "StandingsHall" ({ cls := "StandingsHall", name := "entrants", desc := "()I" } : Jvm.MethodName) ({ cls := "StandingsHall", name := "entrants", desc := "()I" } : Jvm.MethodName)) ∈ lw_tbl := z_in2 (List.mem_of_getElem? (i := 49) rfl)
theorem w1_146 : (Jvm.Cond.fieldLinkNest "StandingsHall" (190 : Nat) "StandingsHall$Standing" "row" "Ljava/util/ArrayList;" "StandingsHall") ∈ lw_tbl := z_in1 (List.mem_of_getElem? (i := 146) rfl)
theorem w5_109 : (Jvm.Cond.code ({ cls := "StandingsHall", name := "at", desc := "(I)I" } : Jvm.MethodName) prog_1_method_14_code (2 : Nat) (Option.some Jvm.ClassFile.FieldType.int)) ∈ lw_tbl := z_in5 (List.mem_of_getElem? (i := 109) rfl)
theorem w5_107 : (Jvm.Cond.instanceMethod ({ cls := "StandingsHall", name := "at", desc := "(I)I" } : Jvm.MethodName)) ∈ lw_tbl := z_in5 (List.mem_of_getElem? (i := 107) rfl)
theorem w5_108 : (Jvm.Cond.selects "StandingsHall" ({ cls := "StandingsHall", name := "at", desc := "(I)I" } : Jvm.MethodName) ({ cls := "StandingsHall", name := "at", desc := "(I)I" } : Jvm.MethodName)) ∈ lw_tbl := z_in5 (List.mem_of_getElem? (i := 108) rfl)
theorem w2_95 : (Jvm.Cond.methodLink "StandingsHall" (198 : Nat) ({ cls := "java/util/ArrayList", name := "get", desc := "(I)Ljava/lang/Object;" } : Jvm.MethodName)) ∈ lw_tbl := z_in2 (List.mem_of_getElem? (i := 95) rfl)
theorem w1_195 : (Jvm.Cond.fieldLinkNest "StandingsHall" (202 : Nat) "StandingsHall$Entrant" "number" "I" "StandingsHall") ∈ lw_tbl := z_in1 (List.mem_of_getElem? (i := 195) rfl)
theorem w5_110 : (Jvm.Cond.stringRef "StandingsHall" (195 : Nat) "there is no such place") ∈ lw_tbl := z_in5 (List.mem_of_getElem? (i := 110) rfl)
theorem w5_117 : (Jvm.Cond.code ({ cls := "StandingsHall", name := "place", desc := "(I)I" } : Jvm.MethodName) prog_1_method_15_code (2 : Nat) (Option.some Jvm.ClassFile.FieldType.int)) ∈ lw_tbl := z_in5 (List.mem_of_getElem? (i := 117) rfl)
theorem w5_115 : (Jvm.Cond.instanceMethod ({ cls := "StandingsHall", name := "place", desc := "(I)I" } : Jvm.MethodName)) ∈ lw_tbl := z_in5 (List.mem_of_getElem? (i := 115) rfl)
theorem w5_116 : (Jvm.Cond.selects "StandingsHall" ({ cls := "StandingsHall", name := "place", desc := "(I)I" } : Jvm.MethodName) ({ cls := "StandingsHall", name := "place", desc := "(I)I" } : Jvm.MethodName)) ∈ lw_tbl := z_in5 (List.mem_of_getElem? (i := 116) rfl)
theorem w5_124 : (Jvm.Cond.code ({ cls := "StandingsHall", name := "rank", desc := "(II)I" } : Jvm.MethodName) prog_1_method_16_code (4 : Nat) (Option.some Jvm.ClassFile.FieldType.int)) ∈ lw_tbl := z_in5 (List.mem_of_getElem? (i := 124) rfl)
theorem w5_122 : (Jvm.Cond.instanceMethod ({ cls := "StandingsHall", name := "rank", desc := "(II)I" } : Jvm.MethodName)) ∈ lw_tbl := z_in5 (List.mem_of_getElem? (i := 122) rfl)
theorem w5_123 : (Jvm.Cond.selects "StandingsHall" ({ cls := "StandingsHall", name := "rank", desc := "(II)I" } : Jvm.MethodName) ({ cls := "StandingsHall", name := "rank", desc := "(II)I" } : Jvm.MethodName)) ∈ lw_tbl := z_in5 (List.mem_of_getElem? (i := 123) rfl)
theorem w5_126 : (Jvm.Cond.methodLinkNest "StandingsHall" (207 : Nat) ({ cls := "StandingsHall$Standing", name := "sharedRank", desc := "(LStandingsHall$Entrant;)I" } : Jvm.MethodName) "StandingsHall") ∈ lw_tbl := z_in5 (List.mem_of_getElem? (i := 126) rfl)
theorem w5_127 : (Jvm.Cond.methodLinkNest "StandingsHall" (211 : Nat) ({ cls := "StandingsHall$Standing", name := "denseRank", desc := "(LStandingsHall$Entrant;)I" } : Jvm.MethodName) "StandingsHall") ∈ lw_tbl := z_in5 (List.mem_of_getElem? (i := 127) rfl)
theorem w2_96 : (Jvm.Cond.methodLinkNest "StandingsHall" (214 : Nat) ({ cls := "StandingsHall$Standing", name := "twiceMeanRank", desc := "(LStandingsHall$Entrant;)I" } : Jvm.MethodName) "StandingsHall") ∈ lw_tbl := z_in2 (List.mem_of_getElem? (i := 96) rfl)
theorem w5_125 : (Jvm.Cond.stringRef "StandingsHall" (205 : Nat) "there is no such sort of rank") ∈ lw_tbl := z_in5 (List.mem_of_getElem? (i := 125) rfl)
theorem w5_137 : (Jvm.Cond.code ({ cls := "StandingsHall", name := "alike", desc := "(I)I" } : Jvm.MethodName) prog_1_method_17_code (2 : Nat) (Option.some Jvm.ClassFile.FieldType.int)) ∈ lw_tbl := z_in5 (List.mem_of_getElem? (i := 137) rfl)
theorem w5_135 : (Jvm.Cond.instanceMethod ({ cls := "StandingsHall", name := "alike", desc := "(I)I" } : Jvm.MethodName)) ∈ lw_tbl := z_in5 (List.mem_of_getElem? (i := 135) rfl)
theorem w5_136 : (Jvm.Cond.selects "StandingsHall" ({ cls := "StandingsHall", name := "alike", desc := "(I)I" } : Jvm.MethodName) ({ cls := "StandingsHall", name := "alike", desc := "(I)I" } : Jvm.MethodName)) ∈ lw_tbl := z_in5 (List.mem_of_getElem? (i := 136) rfl)
theorem w5_138 : (Jvm.Cond.methodLinkNest "StandingsHall" (217 : Nat) ({ cls := "StandingsHall$Standing", name := "countAlike", desc := "(LStandingsHall$Entrant;)I" } : Jvm.MethodName) "StandingsHall") ∈ lw_tbl := z_in5 (List.mem_of_getElem? (i := 138) rfl)
theorem w2_58 : (Jvm.Cond.code ({ cls := "StandingsHall", name := "results", desc := "()I" } : Jvm.MethodName) prog_1_method_18_code (1 : Nat) (Option.some Jvm.ClassFile.FieldType.int)) ∈ lw_tbl := z_in2 (List.mem_of_getElem? (i := 58) rfl)
theorem w2_56 : (Jvm.Cond.instanceMethod ({ cls := "StandingsHall", name := "results", desc := "()I" } : Jvm.MethodName)) ∈ lw_tbl := z_in2 (List.mem_of_getElem? (i := 56) rfl)
theorem w2_57 : (Jvm.Cond.selects "StandingsHall" ({ cls := "StandingsHall", name := "results", desc := "()I" } : Jvm.MethodName) ({ cls := "StandingsHall", name := "results", desc := "()I" } : Jvm.MethodName)) ∈ lw_tbl := z_in2 (List.mem_of_getElem? (i := 57) rfl)
theorem w2_59 : (Jvm.Cond.methodLinkNest "StandingsHall" (220 : Nat) ({ cls := "StandingsHall$Standing", name := "countResults", desc := "()I" } : Jvm.MethodName) "StandingsHall") ∈ lw_tbl := z_in2 (List.mem_of_getElem? (i := 59) rfl)
theorem w2_94 : (Jvm.Cond.code ({ cls := "StandingsHall", name := "rankSum", desc := "()I" } : Jvm.MethodName) prog_1_method_19_code (3 : Nat) (Option.some Jvm.ClassFile.FieldType.int)) ∈ lw_tbl := z_in2 (List.mem_of_getElem? (i := 94) rfl)
theorem w2_92 : (Jvm.Cond.instanceMethod ({ cls := "StandingsHall", name := "rankSum", desc := "()I" } : Jvm.MethodName)) ∈ lw_tbl := z_in2 (List.mem_of_getElem? (i := 92) rfl)
theorem w2_93 : (Jvm.Cond.selects "StandingsHall" ({ cls := "StandingsHall", name := "rankSum", desc := "()I" } : Jvm.MethodName) ({ cls := "StandingsHall", name := "rankSum", desc := "()I" } : Jvm.MethodName)) ∈ lw_tbl := z_in2 (List.mem_of_getElem? (i := 93) rfl)
theorem w5_145 : (Jvm.Cond.code ({ cls := "StandingsHall", name := "wouldGain", desc := "(III)I" } : Jvm.MethodName) prog_1_method_20_code (6 : Nat) (Option.some Jvm.ClassFile.FieldType.int)) ∈ lw_tbl := z_in5 (List.mem_of_getElem? (i := 145) rfl)
theorem w5_143 : (Jvm.Cond.instanceMethod ({ cls := "StandingsHall", name := "wouldGain", desc := "(III)I" } : Jvm.MethodName)) ∈ lw_tbl := z_in5 (List.mem_of_getElem? (i := 143) rfl)
theorem w5_144 : (Jvm.Cond.selects "StandingsHall" ({ cls := "StandingsHall", name := "wouldGain", desc := "(III)I" } : Jvm.MethodName) ({ cls := "StandingsHall", name := "wouldGain", desc := "(III)I" } : Jvm.MethodName)) ∈ lw_tbl := z_in5 (List.mem_of_getElem? (i := 144) rfl)
theorem w2_156 : (Jvm.Cond.code ({ cls := "StandingsHall", name := "tryWith", desc := "(LStandingsHall$Entrant;II)V" } : Jvm.MethodName) prog_1_method_63_code (5 : Nat) (Option.none : Option Jvm.ClassFile.FieldType)) ∈ lw_tbl := z_in2 (List.mem_of_getElem? (i := 156) rfl)
theorem w2_155 : (Jvm.Cond.instanceMethod ({ cls := "StandingsHall", name := "tryWith", desc := "(LStandingsHall$Entrant;II)V" } : Jvm.MethodName)) ∈ lw_tbl := z_in2 (List.mem_of_getElem? (i := 155) rfl)
theorem wS14 : (Cond.selects "StandingsHall" ⟨"StandingsHall", "tryWith", "(LStandingsHall$Entrant;II)V"⟩ ⟨"StandingsHall", "tryWith", "(LStandingsHall$Entrant;II)V"⟩ : Cond) ∈ lw_tbl := z_inS (List.mem_of_getElem? (i := 14) rfl)
theorem w2_153 : (Jvm.Cond.methodLink "StandingsHall" (223 : Nat) ({ cls := "StandingsHall", name := "tryWith", desc := "(LStandingsHall$Entrant;II)V" } : Jvm.MethodName)) ∈ lw_tbl := z_in2 (List.mem_of_getElem? (i := 153) rfl)
theorem w2_174 : (Jvm.Cond.methodLinkNest "StandingsHall" (226 : Nat) ({ cls := "StandingsHall$Standing", name := "countAhead", desc := "(LStandingsHall$Entrant;)I" } : Jvm.MethodName) "StandingsHall") ∈ lw_tbl := z_in2 (List.mem_of_getElem? (i := 174) rfl)
theorem w5_152 : (Jvm.Cond.code ({ cls := "StandingsHall", name := "needed", desc := "(II)I" } : Jvm.MethodName) prog_1_method_21_code (5 : Nat) (Option.some Jvm.ClassFile.FieldType.int)) ∈ lw_tbl := z_in5 (List.mem_of_getElem? (i := 152) rfl)
theorem w5_150 : (Jvm.Cond.instanceMethod ({ cls := "StandingsHall", name := "needed", desc := "(II)I" } : Jvm.MethodName)) ∈ lw_tbl := z_in5 (List.mem_of_getElem? (i := 150) rfl)
theorem w5_151 : (Jvm.Cond.selects "StandingsHall" ({ cls := "StandingsHall", name := "needed", desc := "(II)I" } : Jvm.MethodName) ({ cls := "StandingsHall", name := "needed", desc := "(II)I" } : Jvm.MethodName)) ∈ lw_tbl := z_in5 (List.mem_of_getElem? (i := 151) rfl)
theorem w5_154 : (Jvm.Cond.constant "StandingsHall" (231 : Nat) (100000 : Int32)) ∈ lw_tbl := z_in5 (List.mem_of_getElem? (i := 154) rfl)
theorem w2_144 : (Jvm.Cond.methodLinkNest "StandingsHall" (232 : Nat) ({ cls := "StandingsHall$Entrant", name := "points", desc := "()I" } : Jvm.MethodName) "StandingsHall") ∈ lw_tbl := z_in2 (List.mem_of_getElem? (i := 144) rfl)
theorem w5_155 : (Jvm.Cond.methodLink "StandingsHall" (235 : Nat) ({ cls := "java/lang/Math", name := "min", desc := "(II)I" } : Jvm.MethodName)) ∈ lw_tbl := z_in5 (List.mem_of_getElem? (i := 155) rfl)
theorem w5_159 : (Jvm.Cond.code ({ cls := "StandingsHall", name := "rankWith", desc := "(LStandingsHall$Entrant;I)I" } : Jvm.MethodName) prog_1_method_64_code (3 : Nat) (Option.some Jvm.ClassFile.FieldType.int)) ∈ lw_tbl := z_in5 (List.mem_of_getElem? (i := 159) rfl)
theorem w5_158 : (Jvm.Cond.instanceMethod ({ cls := "StandingsHall", name := "rankWith", desc := "(LStandingsHall$Entrant;I)I" } : Jvm.MethodName)) ∈ lw_tbl := z_in5 (List.mem_of_getElem? (i := 158) rfl)
theorem wS62 : (Cond.selects "StandingsHall" ⟨"StandingsHall", "rankWith", "(LStandingsHall$Entrant;I)I"⟩ ⟨"StandingsHall", "rankWith", "(LStandingsHall$Entrant;I)I"⟩ : Cond) ∈ lw_tbl := z_inS (List.mem_of_getElem? (i := 62) rfl)
theorem w5_156 : (Jvm.Cond.methodLink "StandingsHall" (241 : Nat) ({ cls := "StandingsHall", name := "rankWith", desc := "(LStandingsHall$Entrant;I)I" } : Jvm.MethodName)) ∈ lw_tbl := z_in5 (List.mem_of_getElem? (i := 156) rfl)
theorem w5_163 : (Jvm.Cond.code ({ cls := "StandingsHall", name := "leastNeeded", desc := "(LStandingsHall$Entrant;II)I" } : Jvm.MethodName) prog_1_method_65_code (8 : Nat) (Option.some Jvm.ClassFile.FieldType.int)) ∈ lw_tbl := z_in5 (List.mem_of_getElem? (i := 163) rfl)
theorem w5_162 : (Jvm.Cond.instanceMethod ({ cls := "StandingsHall", name := "leastNeeded", desc := "(LStandingsHall$Entrant;II)I" } : Jvm.MethodName)) ∈ lw_tbl := z_in5 (List.mem_of_getElem? (i := 162) rfl)
theorem wS63 : (Cond.selects "StandingsHall" ⟨"StandingsHall", "leastNeeded", "(LStandingsHall$Entrant;II)I"⟩ ⟨"StandingsHall", "leastNeeded", "(LStandingsHall$Entrant;II)I"⟩ : Cond) ∈ lw_tbl := z_inS (List.mem_of_getElem? (i := 63) rfl)
theorem w5_160 : (Jvm.Cond.methodLink "StandingsHall" (244 : Nat) ({ cls := "StandingsHall", name := "leastNeeded", desc := "(LStandingsHall$Entrant;II)I" } : Jvm.MethodName)) ∈ lw_tbl := z_in5 (List.mem_of_getElem? (i := 160) rfl)
theorem w5_153 : (Jvm.Cond.stringRef "StandingsHall" (229 : Nat) "there is no such rank") ∈ lw_tbl := z_in5 (List.mem_of_getElem? (i := 153) rfl)
theorem w2_112 : (Jvm.Cond.code ({ cls := "StandingsHall", name := "above", desc := "(I)I" } : Jvm.MethodName) prog_1_method_22_code (2 : Nat) (Option.some Jvm.ClassFile.FieldType.int)) ∈ lw_tbl := z_in2 (List.mem_of_getElem? (i := 112) rfl)
theorem w2_110 : (Jvm.Cond.instanceMethod ({ cls := "StandingsHall", name := "above", desc := "(I)I" } : Jvm.MethodName)) ∈ lw_tbl := z_in2 (List.mem_of_getElem? (i := 110) rfl)
theorem w2_111 : (Jvm.Cond.selects "StandingsHall" ({ cls := "StandingsHall", name := "above", desc := "(I)I" } : Jvm.MethodName) ({ cls := "StandingsHall", name := "above", desc := "(I)I" } : Jvm.MethodName)) ∈ lw_tbl := z_in2 (List.mem_of_getElem? (i := 111) rfl)
theorem w1_159 : (Jvm.Cond.fieldLinkNest "StandingsHall" (247 : Nat) "StandingsHall$PointsRow" "row" "Ljava/util/ArrayList;" "StandingsHall") ∈ lw_tbl := z_in1 (List.mem_of_getElem? (i := 159) rfl)
theorem w2_113 : (Jvm.Cond.methodLinkNest "StandingsHall" (248 : Nat) ({ cls := "StandingsHall$PointsRow", name := "countUpTo", desc := "(I)I" } : Jvm.MethodName) "StandingsHall") ∈ lw_tbl := z_in2 (List.mem_of_getElem? (i := 113) rfl)
theorem w2_127 : (Jvm.Cond.code ({ cls := "StandingsHall", name := "with", desc := "(I)I" } : Jvm.MethodName) prog_1_method_23_code (2 : Nat) (Option.some Jvm.ClassFile.FieldType.int)) ∈ lw_tbl := z_in2 (List.mem_of_getElem? (i := 127) rfl)
theorem w2_125 : (Jvm.Cond.instanceMethod ({ cls := "StandingsHall", name := "with", desc := "(I)I" } : Jvm.MethodName)) ∈ lw_tbl := z_in2 (List.mem_of_getElem? (i := 125) rfl)
theorem w2_126 : (Jvm.Cond.selects "StandingsHall" ({ cls := "StandingsHall", name := "with", desc := "(I)I" } : Jvm.MethodName) ({ cls := "StandingsHall", name := "with", desc := "(I)I" } : Jvm.MethodName)) ∈ lw_tbl := z_in2 (List.mem_of_getElem? (i := 126) rfl)
theorem w2_128 : (Jvm.Cond.methodLinkNest "StandingsHall" (251 : Nat) ({ cls := "StandingsHall$PointsRow", name := "countBelow", desc := "(I)I" } : Jvm.MethodName) "StandingsHall") ∈ lw_tbl := z_in2 (List.mem_of_getElem? (i := 128) rfl)
theorem w2_135 : (Jvm.Cond.code ({ cls := "StandingsHall", name := "withAt", desc := "(II)I" } : Jvm.MethodName) prog_1_method_24_code (5 : Nat) (Option.some Jvm.ClassFile.FieldType.int)) ∈ lw_tbl := z_in2 (List.mem_of_getElem? (i := 135) rfl)
theorem w2_133 : (Jvm.Cond.instanceMethod ({ cls := "StandingsHall", name := "withAt", desc := "(II)I" } : Jvm.MethodName)) ∈ lw_tbl := z_in2 (List.mem_of_getElem? (i := 133) rfl)
theorem w2_134 : (Jvm.Cond.selects "StandingsHall" ({ cls := "StandingsHall", name := "withAt", desc := "(II)I" } : Jvm.MethodName) ({ cls := "StandingsHall", name := "withAt", desc := "(II)I" } : Jvm.MethodName)) ∈ lw_tbl := z_in2 (List.mem_of_getElem? (i := 134) rfl)
theorem w5_171 : (Jvm.Cond.code ({ cls := "StandingsHall", name := "next", desc := "(I)I" } : Jvm.MethodName) prog_1_method_25_code (3 : Nat) (Option.some Jvm.ClassFile.FieldType.int)) ∈ lw_tbl := z_in5 (List.mem_of_getElem? (i := 171) rfl)
theorem w5_169 : (Jvm.Cond.instanceMethod ({ cls := "StandingsHall", name := "next", desc := "(I)I" } : Jvm.MethodName)) ∈ lw_tbl := z_in5 (List.mem_of_getElem? (i := 169) rfl)
theorem w5_170 : (Jvm.Cond.selects "StandingsHall" ({ cls := "StandingsHall", name := "next", desc := "(I)I" } : Jvm.MethodName) ({ cls := "StandingsHall", name := "next", desc := "(I)I" } : Jvm.MethodName)) ∈ lw_tbl := z_in5 (List.mem_of_getElem? (i := 170) rfl)
theorem w5_181 : (Jvm.Cond.stringRef "StandingsHall" (256 : Nat) "nobody has more points") ∈ lw_tbl := z_in5 (List.mem_of_getElem? (i := 181) rfl)
theorem w5_194 : (Jvm.Cond.code ({ cls := "StandingsHall", name := "between", desc := "(II)I" } : Jvm.MethodName) prog_1_method_26_code (3 : Nat) (Option.some Jvm.ClassFile.FieldType.int)) ∈ lw_tbl := z_in5 (List.mem_of_getElem? (i := 194) rfl)
theorem w5_192 : (Jvm.Cond.instanceMethod ({ cls := "StandingsHall", name := "between", desc := "(II)I" } : Jvm.MethodName)) ∈ lw_tbl := z_in5 (List.mem_of_getElem? (i := 192) rfl)
theorem w5_193 : (Jvm.Cond.selects "StandingsHall" ({ cls := "StandingsHall", name := "between", desc := "(II)I" } : Jvm.MethodName) ({ cls := "StandingsHall", name := "between", desc := "(II)I" } : Jvm.MethodName)) ∈ lw_tbl := z_in5 (List.mem_of_getElem? (i := 193) rfl)
theorem w5_195 : (Jvm.Cond.stringRef "StandingsHall" (259 : Nat) "from is greater than to") ∈ lw_tbl := z_in5 (List.mem_of_getElem? (i := 195) rfl)
theorem w5_202 : (Jvm.Cond.code ({ cls := "StandingsHall", name := "median", desc := "(Z)I" } : Jvm.MethodName) prog_1_method_27_code (2 : Nat) (Option.some Jvm.ClassFile.FieldType.int)) ∈ lw_tbl := z_in5 (List.mem_of_getElem? (i := 202) rfl)
theorem w5_200 : (Jvm.Cond.instanceMethod ({ cls := "StandingsHall", name := "median", desc := "(Z)I" } : Jvm.MethodName)) ∈ lw_tbl := z_in5 (List.mem_of_getElem? (i := 200) rfl)
theorem w5_201 : (Jvm.Cond.selects "StandingsHall" ({ cls := "StandingsHall", name := "median", desc := "(Z)I" } : Jvm.MethodName) ({ cls := "StandingsHall", name := "median", desc := "(Z)I" } : Jvm.MethodName)) ∈ lw_tbl := z_in5 (List.mem_of_getElem? (i := 201) rfl)
theorem w5_206 : (Jvm.Cond.code ({ cls := "StandingsHall", name := "checkSomebodyIsThere", desc := "()V" } : Jvm.MethodName) prog_1_method_56_code (1 : Nat) (Option.none : Option Jvm.ClassFile.FieldType)) ∈ lw_tbl := z_in5 (List.mem_of_getElem? (i := 206) rfl)
theorem w5_205 : (Jvm.Cond.instanceMethod ({ cls := "StandingsHall", name := "checkSomebodyIsThere", desc := "()V" } : Jvm.MethodName)) ∈ lw_tbl := z_in5 (List.mem_of_getElem? (i := 205) rfl)
theorem wS64 : (Cond.selects "StandingsHall" ⟨"StandingsHall", "checkSomebodyIsThere", "()V"⟩ ⟨"StandingsHall", "checkSomebodyIsThere", "()V"⟩ : Cond) ∈ lw_tbl := z_inS (List.mem_of_getElem? (i := 64) rfl)
theorem w5_203 : (Jvm.Cond.methodLink "StandingsHall" (261 : Nat) ({ cls := "StandingsHall", name := "checkSomebodyIsThere", desc := "()V" } : Jvm.MethodName)) ∈ lw_tbl := z_in5 (List.mem_of_getElem? (i := 203) rfl)
theorem w2_205 : (Jvm.Cond.code ({ cls := "StandingsHall", name := "medianPlace", desc := "(Z)I" } : Jvm.MethodName) prog_1_method_66_code (3 : Nat) (Option.some Jvm.ClassFile.FieldType.int)) ∈ lw_tbl := z_in2 (List.mem_of_getElem? (i := 205) rfl)
theorem w2_204 : (Jvm.Cond.instanceMethod ({ cls := "StandingsHall", name := "medianPlace", desc := "(Z)I" } : Jvm.MethodName)) ∈ lw_tbl := z_in2 (List.mem_of_getElem? (i := 204) rfl)
theorem wS25 : (Cond.selects "StandingsHall" ⟨"StandingsHall", "medianPlace", "(Z)I"⟩ ⟨"StandingsHall", "medianPlace", "(Z)I"⟩ : Cond) ∈ lw_tbl := z_inS (List.mem_of_getElem? (i := 25) rfl)
theorem w2_202 : (Jvm.Cond.methodLink "StandingsHall" (264 : Nat) ({ cls := "StandingsHall", name := "medianPlace", desc := "(Z)I" } : Jvm.MethodName)) ∈ lw_tbl := z_in2 (List.mem_of_getElem? (i := 202) rfl)
theorem w2_206 : (Jvm.Cond.methodLinkNest "StandingsHall" (268 : Nat) ({ cls := "StandingsHall$PointsRow", name := "pointsAt", desc := "(I)I" } : Jvm.MethodName) "StandingsHall") ∈ lw_tbl := z_in2 (List.mem_of_getElem? (i := 206) rfl)
theorem w5_214 : (Jvm.Cond.code ({ cls := "StandingsHall", name := "quantile", desc := "(II)I" } : Jvm.MethodName) prog_1_method_28_code (4 : Nat) (Option.some Jvm.ClassFile.FieldType.int)) ∈ lw_tbl := z_in5 (List.mem_of_getElem? (i := 214) rfl)
theorem w5_212 : (Jvm.Cond.instanceMethod ({ cls := "StandingsHall", name := "quantile", desc := "(II)I" } : Jvm.MethodName)) ∈ lw_tbl := z_in5 (List.mem_of_getElem? (i := 212) rfl)
theorem w5_213 : (Jvm.Cond.selects "StandingsHall" ({ cls := "StandingsHall", name := "quantile", desc := "(II)I" } : Jvm.MethodName) ({ cls := "StandingsHall", name := "quantile", desc := "(II)I" } : Jvm.MethodName)) ∈ lw_tbl := z_in5 (List.mem_of_getElem? (i := 213) rfl)
theorem w5_216 : (Jvm.Cond.methodLink "StandingsHall" (273 : Nat) ({ cls := "java/lang/Math", name := "max", desc := "(II)I" } : Jvm.MethodName)) ∈ lw_tbl := z_in5 (List.mem_of_getElem? (i := 216) rfl)
theorem w5_215 : (Jvm.Cond.stringRef "StandingsHall" (271 : Nat) "p or q is out of range") ∈ lw_tbl := z_in5 (List.mem_of_getElem? (i := 215) rfl)
theorem w5_223 : (Jvm.Cond.code ({ cls := "StandingsHall", name := "enter", desc := "(I)I" } : Jvm.MethodName) prog_1_method_29_code (3 : Nat) (Option.some Jvm.ClassFile.FieldType.int)) ∈ lw_tbl := z_in5 (List.mem_of_getElem? (i := 223) rfl)
theorem w5_221 : (Jvm.Cond.instanceMethod ({ cls := "StandingsHall", name := "enter", desc := "(I)I" } : Jvm.MethodName)) ∈ lw_tbl := z_in5 (List.mem_of_getElem? (i := 221) rfl)
theorem w5_222 : (Jvm.Cond.selects "StandingsHall" ({ cls := "StandingsHall", name := "enter", desc := "(I)I" } : Jvm.MethodName) ({ cls := "StandingsHall", name := "enter", desc := "(I)I" } : Jvm.MethodName)) ∈ lw_tbl := z_in5 (List.mem_of_getElem? (i := 222) rfl)
theorem w5_224 : (Jvm.Cond.methodLinkNest "StandingsHall" (276 : Nat) ({ cls := "StandingsHall$Ladder", name := "placeIn", desc := "(LStandingsHall$Entrant;)I" } : Jvm.MethodName) "StandingsHall") ∈ lw_tbl := z_in5 (List.mem_of_getElem? (i := 224) rfl)
theorem w2_8 : (Jvm.Cond.fieldLink "StandingsHall" (281 : Nat) "StandingsHall" "over" "I") ∈ lw_tbl := z_in2 (List.mem_of_getElem? (i := 8) rfl)
theorem w5_226 : (Jvm.Cond.methodLinkNest "StandingsHall" (284 : Nat) ({ cls := "StandingsHall$Ladder", name := "put", desc := "(LStandingsHall$Entrant;I)V" } : Jvm.MethodName) "StandingsHall") ∈ lw_tbl := z_in5 (List.mem_of_getElem? (i := 226) rfl)
theorem w1_172 : (Jvm.Cond.fieldLinkNest "StandingsHall" (287 : Nat) "StandingsHall$Ladder" "row" "Ljava/util/ArrayList;" "StandingsHall") ∈ lw_tbl := z_in1 (List.mem_of_getElem? (i := 172) rfl)
theorem w5_225 : (Jvm.Cond.stringRef "StandingsHall" (279 : Nat) "it is in the ladder already") ∈ lw_tbl := z_in5 (List.mem_of_getElem? (i := 225) rfl)
theorem w5_237 : (Jvm.Cond.code ({ cls := "StandingsHall", name := "challenge", desc := "(IIZ)I" } : Jvm.MethodName) prog_1_method_30_code (8 : Nat) (Option.some Jvm.ClassFile.FieldType.int)) ∈ lw_tbl := z_in5 (List.mem_of_getElem? (i := 237) rfl)
theorem w5_235 : (Jvm.Cond.instanceMethod ({ cls := "StandingsHall", name := "challenge", desc := "(IIZ)I" } : Jvm.MethodName)) ∈ lw_tbl := z_in5 (List.mem_of_getElem? (i := 235) rfl)
theorem w5_236 : (Jvm.Cond.selects "StandingsHall" ({ cls := "StandingsHall", name := "challenge", desc := "(IIZ)I" } : Jvm.MethodName) ({ cls := "StandingsHall", name := "challenge", desc := "(IIZ)I" } : Jvm.MethodName)) ∈ lw_tbl := z_in5 (List.mem_of_getElem? (i := 236) rfl)
theorem w1_174 : (Jvm.Cond.fieldLinkNest "StandingsHall" (288 : Nat) "StandingsHall$Ladder" "reach" "I" "StandingsHall") ∈ lw_tbl := z_in1 (List.mem_of_getElem? (i := 174) rfl)
theorem w1_215 : (Jvm.Cond.fieldLinkNest "StandingsHall" (293 : Nat) "StandingsHall$Entrant" "played" "I" "StandingsHall") ∈ lw_tbl := z_in1 (List.mem_of_getElem? (i := 215) rfl)
theorem w5_239 : (Jvm.Cond.methodLinkNest "StandingsHall" (296 : Nat) ({ cls := "StandingsHall$Ladder", name := "raise", desc := "(II)V" } : Jvm.MethodName) "StandingsHall") ∈ lw_tbl := z_in5 (List.mem_of_getElem? (i := 239) rfl)
theorem w5_238 : (Jvm.Cond.stringRef "StandingsHall" (291 : Nat) "this challenge is not allowed") ∈ lw_tbl := z_in5 (List.mem_of_getElem? (i := 238) rfl)
theorem w6_11 : (Jvm.Cond.code ({ cls := "StandingsHall", name := "mayChallenge", desc := "(I)I" } : Jvm.MethodName) prog_1_method_31_code (3 : Nat) (Option.some Jvm.ClassFile.FieldType.int)) ∈ lw_tbl := z_in6 (List.mem_of_getElem? (i := 11) rfl)
theorem w6_9 : (Jvm.Cond.instanceMethod ({ cls := "StandingsHall", name := "mayChallenge", desc := "(I)I" } : Jvm.MethodName)) ∈ lw_tbl := z_in6 (List.mem_of_getElem? (i := 9) rfl)
theorem w6_10 : (Jvm.Cond.selects "StandingsHall" ({ cls := "StandingsHall", name := "mayChallenge", desc := "(I)I" } : Jvm.MethodName) ({ cls := "StandingsHall", name := "mayChallenge", desc := "(I)I" } : Jvm.MethodName)) ∈ lw_tbl := z_in6 (List.mem_of_getElem? (i := 10) rfl)
theorem w6_18 : (Jvm.Cond.code ({ cls := "StandingsHall", name := "setReach", desc := "(I)I" } : Jvm.MethodName) prog_1_method_32_code (3 : Nat) (Option.some Jvm.ClassFile.FieldType.int)) ∈ lw_tbl := z_in6 (List.mem_of_getElem? (i := 18) rfl)
theorem w6_16 : (Jvm.Cond.instanceMethod ({ cls := "StandingsHall", name := "setReach", desc := "(I)I" } : Jvm.MethodName)) ∈ lw_tbl := z_in6 (List.mem_of_getElem? (i := 16) rfl)
theorem w6_17 : (Jvm.Cond.selects "StandingsHall" ({ cls := "StandingsHall", name := "setReach", desc := "(I)I" } : Jvm.MethodName) ({ cls := "StandingsHall", name := "setReach", desc := "(I)I" } : Jvm.MethodName)) ∈ lw_tbl := z_in6 (List.mem_of_getElem? (i := 17) rfl)
theorem w6_19 : (Jvm.Cond.stringRef "StandingsHall" (299 : Nat) "the reach is out of range") ∈ lw_tbl := z_in6 (List.mem_of_getElem? (i := 19) rfl)
theorem w6_26 : (Jvm.Cond.code ({ cls := "StandingsHall", name := "setPatience", desc := "(I)I" } : Jvm.MethodName) prog_1_method_33_code (3 : Nat) (Option.some Jvm.ClassFile.FieldType.int)) ∈ lw_tbl := z_in6 (List.mem_of_getElem? (i := 26) rfl)
theorem w6_24 : (Jvm.Cond.instanceMethod ({ cls := "StandingsHall", name := "setPatience", desc := "(I)I" } : Jvm.MethodName)) ∈ lw_tbl := z_in6 (List.mem_of_getElem? (i := 24) rfl)
theorem w6_25 : (Jvm.Cond.selects "StandingsHall" ({ cls := "StandingsHall", name := "setPatience", desc := "(I)I" } : Jvm.MethodName) ({ cls := "StandingsHall", name := "setPatience", desc := "(I)I" } : Jvm.MethodName)) ∈ lw_tbl := z_in6 (List.mem_of_getElem? (i := 25) rfl)
theorem w1_176 : (Jvm.Cond.fieldLinkNest "StandingsHall" (303 : Nat) "StandingsHall$Ladder" "patience" "I" "StandingsHall") ∈ lw_tbl := z_in1 (List.mem_of_getElem? (i := 176) rfl)
theorem w6_27 : (Jvm.Cond.stringRef "StandingsHall" (301 : Nat) "the patience is out of range") ∈ lw_tbl := z_in6 (List.mem_of_getElem? (i := 27) rfl)
theorem w6_34 : (Jvm.Cond.code ({ cls := "StandingsHall", name := "ladderAt", desc := "(I)I" } : Jvm.MethodName) prog_1_method_34_code (2 : Nat) (Option.some Jvm.ClassFile.FieldType.int)) ∈ lw_tbl := z_in6 (List.mem_of_getElem? (i := 34) rfl)
theorem w6_32 : (Jvm.Cond.instanceMethod ({ cls := "StandingsHall", name := "ladderAt", desc := "(I)I" } : Jvm.MethodName)) ∈ lw_tbl := z_in6 (List.mem_of_getElem? (i := 32) rfl)
theorem w6_33 : (Jvm.Cond.selects "StandingsHall" ({ cls := "StandingsHall", name := "ladderAt", desc := "(I)I" } : Jvm.MethodName) ({ cls := "StandingsHall", name := "ladderAt", desc := "(I)I" } : Jvm.MethodName)) ∈ lw_tbl := z_in6 (List.mem_of_getElem? (i := 33) rfl)
theorem w6_41 : (Jvm.Cond.code ({ cls := "StandingsHall", name := "ladderPlace", desc := "(I)I" } : Jvm.MethodName) prog_1_method_35_code (2 : Nat) (Option.some Jvm.ClassFile.FieldType.int)) ∈ lw_tbl := z_in6 (List.mem_of_getElem? (i := 41) rfl)
theorem w6_39 : (Jvm.Cond.instanceMethod ({ cls := "StandingsHall", name := "ladderPlace", desc := "(I)I" } : Jvm.MethodName)) ∈ lw_tbl := z_in6 (List.mem_of_getElem? (i := 39) rfl)
theorem w6_40 : (Jvm.Cond.selects "StandingsHall" ({ cls := "StandingsHall", name := "ladderPlace", desc := "(I)I" } : Jvm.MethodName) ({ cls := "StandingsHall", name := "ladderPlace", desc := "(I)I" } : Jvm.MethodName)) ∈ lw_tbl := z_in6 (List.mem_of_getElem? (i := 40) rfl)
theorem w6_48 : (Jvm.Cond.code ({ cls := "StandingsHall", name := "endRound", desc := "()I" } : Jvm.MethodName) prog_1_method_36_code (2 : Nat) (Option.some Jvm.ClassFile.FieldType.int)) ∈ lw_tbl := z_in6 (List.mem_of_getElem? (i := 48) rfl)
theorem w6_46 : (Jvm.Cond.instanceMethod ({ cls := "StandingsHall", name := "endRound", desc := "()I" } : Jvm.MethodName)) ∈ lw_tbl := z_in6 (List.mem_of_getElem? (i := 46) rfl)
theorem w6_47 : (Jvm.Cond.selects "StandingsHall" ({ cls := "StandingsHall", name := "endRound", desc := "()I" } : Jvm.MethodName) ({ cls := "StandingsHall", name := "endRound", desc := "()I" } : Jvm.MethodName)) ∈ lw_tbl := z_in6 (List.mem_of_getElem? (i := 47) rfl)
theorem w6_50 : (Jvm.Cond.methodLinkNest "StandingsHall" (308 : Nat) ({ cls := "StandingsHall$Ladder", name := "letFall", desc := "(I)V" } : Jvm.MethodName) "StandingsHall") ∈ lw_tbl := z_in6 (List.mem_of_getElem? (i := 50) rfl)
theorem w6_58 : (Jvm.Cond.methodLinkNest "StandingsHall" (311 : Nat) ({ cls := "StandingsHall$Entrant", name := "keepRound", desc := "(I)V" } : Jvm.MethodName) "StandingsHall") ∈ lw_tbl := z_in6 (List.mem_of_getElem? (i := 58) rfl)
theorem w6_49 : (Jvm.Cond.stringRef "StandingsHall" (306 : Nat) "all rounds are over") ∈ lw_tbl := z_in6 (List.mem_of_getElem? (i := 49) rfl)
theorem w2_139 : (Jvm.Cond.code ({ cls := "StandingsHall", name := "round", desc := "()I" } : Jvm.MethodName) prog_1_method_37_code (1 : Nat) (Option.some Jvm.ClassFile.FieldType.int)) ∈ lw_tbl := z_in2 (List.mem_of_getElem? (i := 139) rfl)
theorem w2_137 : (Jvm.Cond.instanceMethod ({ cls := "StandingsHall", name := "round", desc := "()I" } : Jvm.MethodName)) ∈ lw_tbl := z_in2 (List.mem_of_getElem? (i := 137) rfl)
theorem w2_138 : (Jvm.Cond.selects "StandingsHall" ({ cls := "StandingsHall", name := "round", desc := "()I" } : Jvm.MethodName) ({ cls := "StandingsHall", name := "round", desc := "()I" } : Jvm.MethodName)) ∈ lw_tbl := z_in2 (List.mem_of_getElem? (i := 138) rfl)
theorem w6_71 : (Jvm.Cond.code ({ cls := "StandingsHall", name := "gain", desc := "(I)I" } : Jvm.MethodName) prog_1_method_38_code (2 : Nat) (Option.some Jvm.ClassFile.FieldType.int)) ∈ lw_tbl := z_in6 (List.mem_of_getElem? (i := 71) rfl)
theorem w6_69 : (Jvm.Cond.instanceMethod ({ cls := "StandingsHall", name := "gain", desc := "(I)I" } : Jvm.MethodName)) ∈ lw_tbl := z_in6 (List.mem_of_getElem? (i := 69) rfl)
theorem w6_70 : (Jvm.Cond.selects "StandingsHall" ({ cls := "StandingsHall", name := "gain", desc := "(I)I" } : Jvm.MethodName) ({ cls := "StandingsHall", name := "gain", desc := "(I)I" } : Jvm.MethodName)) ∈ lw_tbl := z_in6 (List.mem_of_getElem? (i := 70) rfl)
theorem w1_208 : (Jvm.Cond.fieldLinkNest "StandingsHall" (314 : Nat) "StandingsHall$Entrant" "gained" "I" "StandingsHall") ∈ lw_tbl := z_in1 (List.mem_of_getElem? (i := 208) rfl)
theorem w6_78 : (Jvm.Cond.code ({ cls := "StandingsHall", name := "form", desc := "(III)I" } : Jvm.MethodName) prog_1_method_39_code (5 : Nat) (Option.some Jvm.ClassFile.FieldType.int)) ∈ lw_tbl := z_in6 (List.mem_of_getElem? (i := 78) rfl)
theorem w6_76 : (Jvm.Cond.instanceMethod ({ cls := "StandingsHall", name := "form", desc := "(III)I" } : Jvm.MethodName)) ∈ lw_tbl := z_in6 (List.mem_of_getElem? (i := 76) rfl)
theorem w6_77 : (Jvm.Cond.selects "StandingsHall" ({ cls := "StandingsHall", name := "form", desc := "(III)I" } : Jvm.MethodName) ({ cls := "StandingsHall", name := "form", desc := "(III)I" } : Jvm.MethodName)) ∈ lw_tbl := z_in6 (List.mem_of_getElem? (i := 77) rfl)
theorem w6_82 : (Jvm.Cond.code ({ cls := "StandingsHall", name := "checkForm", desc := "(II)V" } : Jvm.MethodName) prog_1_method_57_code (3 : Nat) (Option.none : Option Jvm.ClassFile.FieldType)) ∈ lw_tbl := z_in6 (List.mem_of_getElem? (i := 82) rfl)
theorem w6_81 : (Jvm.Cond.instanceMethod ({ cls := "StandingsHall", name := "checkForm", desc := "(II)V" } : Jvm.MethodName)) ∈ lw_tbl := z_in6 (List.mem_of_getElem? (i := 81) rfl)
theorem wS69 : (Cond.selects "StandingsHall" ⟨"StandingsHall", "checkForm", "(II)V"⟩ ⟨"StandingsHall", "checkForm", "(II)V"⟩ : Cond) ∈ lw_tbl := z_inS (List.mem_of_getElem? (i := 69) rfl)
theorem w6_79 : (Jvm.Cond.methodLink "StandingsHall" (317 : Nat) ({ cls := "StandingsHall", name := "checkForm", desc := "(II)V" } : Jvm.MethodName)) ∈ lw_tbl := z_in6 (List.mem_of_getElem? (i := 79) rfl)
theorem w6_87 : (Jvm.Cond.code ({ cls := "StandingsHall", name := "formBy", desc := "(LStandingsHall$Entrant;II)I" } : Jvm.MethodName) prog_1_method_67_code (9 : Nat) (Option.some Jvm.ClassFile.FieldType.int)) ∈ lw_tbl := z_in6 (List.mem_of_getElem? (i := 87) rfl)
theorem w6_86 : (Jvm.Cond.instanceMethod ({ cls := "StandingsHall", name := "formBy", desc := "(LStandingsHall$Entrant;II)I" } : Jvm.MethodName)) ∈ lw_tbl := z_in6 (List.mem_of_getElem? (i := 86) rfl)
theorem wS70 : (Cond.selects "StandingsHall" ⟨"StandingsHall", "formBy", "(LStandingsHall$Entrant;II)I"⟩ ⟨"StandingsHall", "formBy", "(LStandingsHall$Entrant;II)I"⟩ : Cond) ∈ lw_tbl := z_inS (List.mem_of_getElem? (i := 70) rfl)
theorem w6_84 : (Jvm.Cond.methodLink "StandingsHall" (320 : Nat) ({ cls := "StandingsHall", name := "formBy", desc := "(LStandingsHall$Entrant;II)I" } : Jvm.MethodName)) ∈ lw_tbl := z_in6 (List.mem_of_getElem? (i := 84) rfl)
theorem w6_98 : (Jvm.Cond.code ({ cls := "StandingsHall", name := "inForm", desc := "(II)I" } : Jvm.MethodName) prog_1_method_40_code (8 : Nat) (Option.some Jvm.ClassFile.FieldType.int)) ∈ lw_tbl := z_in6 (List.mem_of_getElem? (i := 98) rfl)
theorem w6_96 : (Jvm.Cond.instanceMethod ({ cls := "StandingsHall", name := "inForm", desc := "(II)I" } : Jvm.MethodName)) ∈ lw_tbl := z_in6 (List.mem_of_getElem? (i := 96) rfl)
theorem w6_97 : (Jvm.Cond.selects "StandingsHall" ({ cls := "StandingsHall", name := "inForm", desc := "(II)I" } : Jvm.MethodName) ({ cls := "StandingsHall", name := "inForm", desc := "(II)I" } : Jvm.MethodName)) ∈ lw_tbl := z_in6 (List.mem_of_getElem? (i := 97) rfl)
theorem w6_105 : (Jvm.Cond.code ({ cls := "StandingsHall", name := "placeThen", desc := "(II)I" } : Jvm.MethodName) prog_1_method_41_code (3 : Nat) (Option.some Jvm.ClassFile.FieldType.int)) ∈ lw_tbl := z_in6 (List.mem_of_getElem? (i := 105) rfl)
theorem w6_103 : (Jvm.Cond.instanceMethod ({ cls := "StandingsHall", name := "placeThen", desc := "(II)I" } : Jvm.MethodName)) ∈ lw_tbl := z_in6 (List.mem_of_getElem? (i := 103) rfl)
theorem w6_104 : (Jvm.Cond.selects "StandingsHall" ({ cls := "StandingsHall", name := "placeThen", desc := "(II)I" } : Jvm.MethodName) ({ cls := "StandingsHall", name := "placeThen", desc := "(II)I" } : Jvm.MethodName)) ∈ lw_tbl := z_in6 (List.mem_of_getElem? (i := 104) rfl)
theorem w6_109 : (Jvm.Cond.code ({ cls := "StandingsHall", name := "checkKept", desc := "(I)V" } : Jvm.MethodName) prog_1_method_58_code (2 : Nat) (Option.none : Option Jvm.ClassFile.FieldType)) ∈ lw_tbl := z_in6 (List.mem_of_getElem? (i := 109) rfl)
theorem w6_108 : (Jvm.Cond.instanceMethod ({ cls := "StandingsHall", name := "checkKept", desc := "(I)V" } : Jvm.MethodName)) ∈ lw_tbl := z_in6 (List.mem_of_getElem? (i := 108) rfl)
theorem wS72 : (Cond.selects "StandingsHall" ⟨"StandingsHall", "checkKept", "(I)V"⟩ ⟨"StandingsHall", "checkKept", "(I)V"⟩ : Cond) ∈ lw_tbl := z_inS (List.mem_of_getElem? (i := 72) rfl)
theorem w6_106 : (Jvm.Cond.methodLink "StandingsHall" (323 : Nat) ({ cls := "StandingsHall", name := "checkKept", desc := "(I)V" } : Jvm.MethodName)) ∈ lw_tbl := z_in6 (List.mem_of_getElem? (i := 106) rfl)
theorem w6_112 : (Jvm.Cond.methodLinkNest "StandingsHall" (328 : Nat) ({ cls := "StandingsHall$Entrant", name := "placeIn", desc := "(I)I" } : Jvm.MethodName) "StandingsHall") ∈ lw_tbl := z_in6 (List.mem_of_getElem? (i := 112) rfl)
theorem w6_111 : (Jvm.Cond.stringRef "StandingsHall" (326 : Nat) "there is no such entrant") ∈ lw_tbl := z_in6 (List.mem_of_getElem? (i := 111) rfl)
theorem w6_122 : (Jvm.Cond.code ({ cls := "StandingsHall", name := "climb", desc := "(I)I" } : Jvm.MethodName) prog_1_method_42_code (7 : Nat) (Option.some Jvm.ClassFile.FieldType.int)) ∈ lw_tbl := z_in6 (List.mem_of_getElem? (i := 122) rfl)
theorem w6_120 : (Jvm.Cond.instanceMethod ({ cls := "StandingsHall", name := "climb", desc := "(I)I" } : Jvm.MethodName)) ∈ lw_tbl := z_in6 (List.mem_of_getElem? (i := 120) rfl)
theorem w6_121 : (Jvm.Cond.selects "StandingsHall" ({ cls := "StandingsHall", name := "climb", desc := "(I)I" } : Jvm.MethodName) ({ cls := "StandingsHall", name := "climb", desc := "(I)I" } : Jvm.MethodName)) ∈ lw_tbl := z_in6 (List.mem_of_getElem? (i := 121) rfl)
theorem w6_129 : (Jvm.Cond.code ({ cls := "StandingsHall", name := "best", desc := "(I)I" } : Jvm.MethodName) prog_1_method_43_code (3 : Nat) (Option.some Jvm.ClassFile.FieldType.int)) ∈ lw_tbl := z_in6 (List.mem_of_getElem? (i := 129) rfl)
theorem w6_127 : (Jvm.Cond.instanceMethod ({ cls := "StandingsHall", name := "best", desc := "(I)I" } : Jvm.MethodName)) ∈ lw_tbl := z_in6 (List.mem_of_getElem? (i := 127) rfl)
theorem w6_128 : (Jvm.Cond.selects "StandingsHall" ({ cls := "StandingsHall", name := "best", desc := "(I)I" } : Jvm.MethodName) ({ cls := "StandingsHall", name := "best", desc := "(I)I" } : Jvm.MethodName)) ∈ lw_tbl := z_in6 (List.mem_of_getElem? (i := 128) rfl)
theorem w6_130 : (Jvm.Cond.methodLinkNest "StandingsHall" (330 : Nat) ({ cls := "StandingsHall$Standing", name := "firstPlaceOf", desc := "(I)I" } : Jvm.MethodName) "StandingsHall") ∈ lw_tbl := z_in6 (List.mem_of_getElem? (i := 130) rfl)
theorem w6_140 : (Jvm.Cond.code ({ cls := "StandingsHall", name := "members", desc := "(I)I" } : Jvm.MethodName) prog_1_method_44_code (2 : Nat) (Option.some Jvm.ClassFile.FieldType.int)) ∈ lw_tbl := z_in6 (List.mem_of_getElem? (i := 140) rfl)
theorem w6_138 : (Jvm.Cond.instanceMethod ({ cls := "StandingsHall", name := "members", desc := "(I)I" } : Jvm.MethodName)) ∈ lw_tbl := z_in6 (List.mem_of_getElem? (i := 138) rfl)
theorem w6_139 : (Jvm.Cond.selects "StandingsHall" ({ cls := "StandingsHall", name := "members", desc := "(I)I" } : Jvm.MethodName) ({ cls := "StandingsHall", name := "members", desc := "(I)I" } : Jvm.MethodName)) ∈ lw_tbl := z_in6 (List.mem_of_getElem? (i := 139) rfl)
theorem w6_141 : (Jvm.Cond.methodLinkNest "StandingsHall" (333 : Nat) ({ cls := "StandingsHall$Standing", name := "countOf", desc := "(I)I" } : Jvm.MethodName) "StandingsHall") ∈ lw_tbl := z_in6 (List.mem_of_getElem? (i := 141) rfl)
theorem w6_151 : (Jvm.Cond.code ({ cls := "StandingsHall", name := "teamScore", desc := "(I)I" } : Jvm.MethodName) prog_1_method_45_code (2 : Nat) (Option.some Jvm.ClassFile.FieldType.int)) ∈ lw_tbl := z_in6 (List.mem_of_getElem? (i := 151) rfl)
theorem w6_149 : (Jvm.Cond.instanceMethod ({ cls := "StandingsHall", name := "teamScore", desc := "(I)I" } : Jvm.MethodName)) ∈ lw_tbl := z_in6 (List.mem_of_getElem? (i := 149) rfl)
theorem w6_150 : (Jvm.Cond.selects "StandingsHall" ({ cls := "StandingsHall", name := "teamScore", desc := "(I)I" } : Jvm.MethodName) ({ cls := "StandingsHall", name := "teamScore", desc := "(I)I" } : Jvm.MethodName)) ∈ lw_tbl := z_in6 (List.mem_of_getElem? (i := 150) rfl)
theorem w6_152 : (Jvm.Cond.methodLinkNest "StandingsHall" (336 : Nat) ({ cls := "StandingsHall$Standing", name := "teamSum", desc := "(I)I" } : Jvm.MethodName) "StandingsHall") ∈ lw_tbl := z_in6 (List.mem_of_getElem? (i := 152) rfl)
theorem w6_162 : (Jvm.Cond.code ({ cls := "StandingsHall", name := "groupAt", desc := "(I)I" } : Jvm.MethodName) prog_1_method_46_code (3 : Nat) (Option.some Jvm.ClassFile.FieldType.int)) ∈ lw_tbl := z_in6 (List.mem_of_getElem? (i := 162) rfl)
theorem w6_160 : (Jvm.Cond.instanceMethod ({ cls := "StandingsHall", name := "groupAt", desc := "(I)I" } : Jvm.MethodName)) ∈ lw_tbl := z_in6 (List.mem_of_getElem? (i := 160) rfl)
theorem w6_161 : (Jvm.Cond.selects "StandingsHall" ({ cls := "StandingsHall", name := "groupAt", desc := "(I)I" } : Jvm.MethodName) ({ cls := "StandingsHall", name := "groupAt", desc := "(I)I" } : Jvm.MethodName)) ∈ lw_tbl := z_in6 (List.mem_of_getElem? (i := 161) rfl)
theorem w6_166 : (Jvm.Cond.code ({ cls := "StandingsHall", name := "groupRankedAt", desc := "(I)I" } : Jvm.MethodName) prog_1_method_68_code (3 : Nat) (Option.some Jvm.ClassFile.FieldType.int)) ∈ lw_tbl := z_in6 (List.mem_of_getElem? (i := 166) rfl)
theorem w6_165 : (Jvm.Cond.instanceMethod ({ cls := "StandingsHall", name := "groupRankedAt", desc := "(I)I" } : Jvm.MethodName)) ∈ lw_tbl := z_in6 (List.mem_of_getElem? (i := 165) rfl)
theorem wS77 : (Cond.selects "StandingsHall" ⟨"StandingsHall", "groupRankedAt", "(I)I"⟩ ⟨"StandingsHall", "groupRankedAt", "(I)I"⟩ : Cond) ∈ lw_tbl := z_inS (List.mem_of_getElem? (i := 77) rfl)
theorem w6_163 : (Jvm.Cond.methodLink "StandingsHall" (339 : Nat) ({ cls := "StandingsHall", name := "groupRankedAt", desc := "(I)I" } : Jvm.MethodName)) ∈ lw_tbl := z_in6 (List.mem_of_getElem? (i := 163) rfl)
theorem w6_177 : (Jvm.Cond.code ({ cls := "StandingsHall", name := "inversions", desc := "(II)I" } : Jvm.MethodName) prog_1_method_47_code (7 : Nat) (Option.some Jvm.ClassFile.FieldType.int)) ∈ lw_tbl := z_in6 (List.mem_of_getElem? (i := 177) rfl)
theorem w6_175 : (Jvm.Cond.instanceMethod ({ cls := "StandingsHall", name := "inversions", desc := "(II)I" } : Jvm.MethodName)) ∈ lw_tbl := z_in6 (List.mem_of_getElem? (i := 175) rfl)
theorem w6_176 : (Jvm.Cond.selects "StandingsHall" ({ cls := "StandingsHall", name := "inversions", desc := "(II)I" } : Jvm.MethodName) ({ cls := "StandingsHall", name := "inversions", desc := "(II)I" } : Jvm.MethodName)) ∈ lw_tbl := z_in6 (List.mem_of_getElem? (i := 176) rfl)
theorem w6_181 : (Jvm.Cond.code ({ cls := "StandingsHall", name := "checkTold", desc := "(I)V" } : Jvm.MethodName) prog_1_method_59_code (2 : Nat) (Option.none : Option Jvm.ClassFile.FieldType)) ∈ lw_tbl := z_in6 (List.mem_of_getElem? (i := 181) rfl)
theorem w6_180 : (Jvm.Cond.instanceMethod ({ cls := "StandingsHall", name := "checkTold", desc := "(I)V" } : Jvm.MethodName)) ∈ lw_tbl := z_in6 (List.mem_of_getElem? (i := 180) rfl)
theorem wS79 : (Cond.selects "StandingsHall" ⟨"StandingsHall", "checkTold", "(I)V"⟩ ⟨"StandingsHall", "checkTold", "(I)V"⟩ : Cond) ∈ lw_tbl := z_inS (List.mem_of_getElem? (i := 79) rfl)
theorem w6_178 : (Jvm.Cond.methodLink "StandingsHall" (342 : Nat) ({ cls := "StandingsHall", name := "checkTold", desc := "(I)V" } : Jvm.MethodName)) ∈ lw_tbl := z_in6 (List.mem_of_getElem? (i := 178) rfl)
theorem w6_185 : (Jvm.Cond.code ({ cls := "StandingsHall", name := "lineUp", desc := "(II)I" } : Jvm.MethodName) prog_1_method_70_code (7 : Nat) (Option.some Jvm.ClassFile.FieldType.int)) ∈ lw_tbl := z_in6 (List.mem_of_getElem? (i := 185) rfl)
theorem w6_184 : (Jvm.Cond.instanceMethod ({ cls := "StandingsHall", name := "lineUp", desc := "(II)I" } : Jvm.MethodName)) ∈ lw_tbl := z_in6 (List.mem_of_getElem? (i := 184) rfl)
theorem wS80 : (Cond.selects "StandingsHall" ⟨"StandingsHall", "lineUp", "(II)I"⟩ ⟨"StandingsHall", "lineUp", "(II)I"⟩ : Cond) ∈ lw_tbl := z_inS (List.mem_of_getElem? (i := 80) rfl)
theorem w6_182 : (Jvm.Cond.methodLink "StandingsHall" (345 : Nat) ({ cls := "StandingsHall", name := "lineUp", desc := "(II)I" } : Jvm.MethodName)) ∈ lw_tbl := z_in6 (List.mem_of_getElem? (i := 182) rfl)
theorem w6_197 : (Jvm.Cond.code ({ cls := "StandingsHall", name := "swaps", desc := "(II)I" } : Jvm.MethodName) prog_1_method_48_code (6 : Nat) (Option.some Jvm.ClassFile.FieldType.int)) ∈ lw_tbl := z_in6 (List.mem_of_getElem? (i := 197) rfl)
theorem w6_195 : (Jvm.Cond.instanceMethod ({ cls := "StandingsHall", name := "swaps", desc := "(II)I" } : Jvm.MethodName)) ∈ lw_tbl := z_in6 (List.mem_of_getElem? (i := 195) rfl)
theorem w6_196 : (Jvm.Cond.selects "StandingsHall" ({ cls := "StandingsHall", name := "swaps", desc := "(II)I" } : Jvm.MethodName) ({ cls := "StandingsHall", name := "swaps", desc := "(II)I" } : Jvm.MethodName)) ∈ lw_tbl := z_in6 (List.mem_of_getElem? (i := 196) rfl)
theorem w6_201 : (Jvm.Cond.code ({ cls := "StandingsHall", name := "swapNeighbours", desc := "(I)I" } : Jvm.MethodName) prog_1_method_72_code (5 : Nat) (Option.some Jvm.ClassFile.FieldType.int)) ∈ lw_tbl := z_in6 (List.mem_of_getElem? (i := 201) rfl)
theorem w6_200 : (Jvm.Cond.instanceMethod ({ cls := "StandingsHall", name := "swapNeighbours", desc := "(I)I" } : Jvm.MethodName)) ∈ lw_tbl := z_in6 (List.mem_of_getElem? (i := 200) rfl)
theorem wS82 : (Cond.selects "StandingsHall" ⟨"StandingsHall", "swapNeighbours", "(I)I"⟩ ⟨"StandingsHall", "swapNeighbours", "(I)I"⟩ : Cond) ∈ lw_tbl := z_inS (List.mem_of_getElem? (i := 82) rfl)
theorem w6_198 : (Jvm.Cond.methodLink "StandingsHall" (348 : Nat) ({ cls := "StandingsHall", name := "swapNeighbours", desc := "(I)I" } : Jvm.MethodName)) ∈ lw_tbl := z_in6 (List.mem_of_getElem? (i := 198) rfl)
theorem w2_143 : (Jvm.Cond.code ({ cls := "StandingsHall", name := "meanPoints", desc := "()D" } : Jvm.MethodName) prog_1_method_49_code (4 : Nat) (Option.some Jvm.ClassFile.FieldType.double)) ∈ lw_tbl := z_in2 (List.mem_of_getElem? (i := 143) rfl)
theorem w2_141 : (Jvm.Cond.instanceMethod ({ cls := "StandingsHall", name := "meanPoints", desc := "()D" } : Jvm.MethodName)) ∈ lw_tbl := z_in2 (List.mem_of_getElem? (i := 141) rfl)
theorem w2_142 : (Jvm.Cond.selects "StandingsHall" ({ cls := "StandingsHall", name := "meanPoints", desc := "()D" } : Jvm.MethodName) ({ cls := "StandingsHall", name := "meanPoints", desc := "()D" } : Jvm.MethodName)) ∈ lw_tbl := z_in2 (List.mem_of_getElem? (i := 142) rfl)
theorem w6_208 : (Jvm.Cond.code ({ cls := "StandingsHall", name := "beats", desc := "(I)F" } : Jvm.MethodName) prog_1_method_50_code (4 : Nat) (Option.some Jvm.ClassFile.FieldType.float)) ∈ lw_tbl := z_in6 (List.mem_of_getElem? (i := 208) rfl)
theorem w6_206 : (Jvm.Cond.instanceMethod ({ cls := "StandingsHall", name := "beats", desc := "(I)F" } : Jvm.MethodName)) ∈ lw_tbl := z_in6 (List.mem_of_getElem? (i := 206) rfl)
theorem w6_207 : (Jvm.Cond.selects "StandingsHall" ({ cls := "StandingsHall", name := "beats", desc := "(I)F" } : Jvm.MethodName) ({ cls := "StandingsHall", name := "beats", desc := "(I)F" } : Jvm.MethodName)) ∈ lw_tbl := z_in6 (List.mem_of_getElem? (i := 207) rfl)
theorem w6_209 : (Jvm.Cond.methodLinkNest "StandingsHall" (351 : Nat) ({ cls := "StandingsHall$Standing", name := "countWorse", desc := "(LStandingsHall$Entrant;)I" } : Jvm.MethodName) "StandingsHall") ∈ lw_tbl := z_in6 (List.mem_of_getElem? (i := 209) rfl)
theorem w2_148 : (Jvm.Cond.code ({ cls := "StandingsHall", name := "errors", desc := "()I" } : Jvm.MethodName) prog_1_method_51_code (1 : Nat) (Option.some Jvm.ClassFile.FieldType.int)) ∈ lw_tbl := z_in2 (List.mem_of_getElem? (i := 148) rfl)
theorem w2_146 : (Jvm.Cond.instanceMethod ({ cls := "StandingsHall", name := "errors", desc := "()I" } : Jvm.MethodName)) ∈ lw_tbl := z_in2 (List.mem_of_getElem? (i := 146) rfl)
theorem w2_147 : (Jvm.Cond.selects "StandingsHall" ({ cls := "StandingsHall", name := "errors", desc := "()I" } : Jvm.MethodName) ({ cls := "StandingsHall", name := "errors", desc := "()I" } : Jvm.MethodName)) ∈ lw_tbl := z_in2 (List.mem_of_getElem? (i := 147) rfl)
theorem w2_152 : (Jvm.Cond.code ({ cls := "StandingsHall", name := "wrongPlaces", desc := "()I" } : Jvm.MethodName) prog_1_method_73_code (4 : Nat) (Option.some Jvm.ClassFile.FieldType.int)) ∈ lw_tbl := z_in2 (List.mem_of_getElem? (i := 152) rfl)
theorem w2_151 : (Jvm.Cond.instanceMethod ({ cls := "StandingsHall", name := "wrongPlaces", desc := "()I" } : Jvm.MethodName)) ∈ lw_tbl := z_in2 (List.mem_of_getElem? (i := 151) rfl)
theorem wS13 : (Cond.selects "StandingsHall" ⟨"StandingsHall", "wrongPlaces", "()I"⟩ ⟨"StandingsHall", "wrongPlaces", "()I"⟩ : Cond) ∈ lw_tbl := z_inS (List.mem_of_getElem? (i := 13) rfl)
theorem w2_149 : (Jvm.Cond.methodLink "StandingsHall" (354 : Nat) ({ cls := "StandingsHall", name := "wrongPlaces", desc := "()I" } : Jvm.MethodName)) ∈ lw_tbl := z_in2 (List.mem_of_getElem? (i := 149) rfl)
theorem w2_185 : (Jvm.Cond.code ({ cls := "StandingsHall", name := "wrongPoints", desc := "()I" } : Jvm.MethodName) prog_1_method_74_code (4 : Nat) (Option.some Jvm.ClassFile.FieldType.int)) ∈ lw_tbl := z_in2 (List.mem_of_getElem? (i := 185) rfl)
theorem w2_184 : (Jvm.Cond.instanceMethod ({ cls := "StandingsHall", name := "wrongPoints", desc := "()I" } : Jvm.MethodName)) ∈ lw_tbl := z_in2 (List.mem_of_getElem? (i := 184) rfl)
theorem wS21 : (Cond.selects "StandingsHall" ⟨"StandingsHall", "wrongPoints", "()I"⟩ ⟨"StandingsHall", "wrongPoints", "()I"⟩ : Cond) ∈ lw_tbl := z_inS (List.mem_of_getElem? (i := 21) rfl)
theorem w2_182 : (Jvm.Cond.methodLink "StandingsHall" (357 : Nat) ({ cls := "StandingsHall", name := "wrongPoints", desc := "()I" } : Jvm.MethodName)) ∈ lw_tbl := z_in2 (List.mem_of_getElem? (i := 182) rfl)
theorem w2_197 : (Jvm.Cond.code ({ cls := "StandingsHall", name := "wrongMedian", desc := "(Z)I" } : Jvm.MethodName) prog_1_method_77_code (4 : Nat) (Option.some Jvm.ClassFile.FieldType.int)) ∈ lw_tbl := z_in2 (List.mem_of_getElem? (i := 197) rfl)
theorem w2_196 : (Jvm.Cond.instanceMethod ({ cls := "StandingsHall", name := "wrongMedian", desc := "(Z)I" } : Jvm.MethodName)) ∈ lw_tbl := z_in2 (List.mem_of_getElem? (i := 196) rfl)
theorem wS24 : (Cond.selects "StandingsHall" ⟨"StandingsHall", "wrongMedian", "(Z)I"⟩ ⟨"StandingsHall", "wrongMedian", "(Z)I"⟩ : Cond) ∈ lw_tbl := z_inS (List.mem_of_getElem? (i := 24) rfl)
theorem w2_194 : (Jvm.Cond.methodLink "StandingsHall" (360 : Nat) ({ cls := "StandingsHall", name := "wrongMedian", desc := "(Z)I" } : Jvm.MethodName)) ∈ lw_tbl := z_in2 (List.mem_of_getElem? (i := 194) rfl)
theorem w4_229 : (Jvm.Cond.stringRef "StandingsHall" (363 : Nat) "this entrant is not there") ∈ lw_tbl := z_in4 (List.mem_of_getElem? (i := 229) rfl)
theorem w5_4 : (Jvm.Cond.stringRef "StandingsHall" (365 : Nat) "there is no such group") ∈ lw_tbl := z_in5 (List.mem_of_getElem? (i := 4) rfl)
theorem w5_70 : (Jvm.Cond.stringRef "StandingsHall" (367 : Nat) "there is no such kind") ∈ lw_tbl := z_in5 (List.mem_of_getElem? (i := 70) rfl)
theorem w5_75 : (Jvm.Cond.constantLong "StandingsHall" (369 : Nat) (-100000 : Int64)) ∈ lw_tbl := z_in5 (List.mem_of_getElem? (i := 75) rfl)
theorem w5_76 : (Jvm.Cond.constantLong "StandingsHall" (371 : Nat) (100000 : Int64)) ∈ lw_tbl := z_in5 (List.mem_of_getElem? (i := 76) rfl)
theorem w5_77 : (Jvm.Cond.stringRef "StandingsHall" (373 : Nat) "the score is out of range") ∈ lw_tbl := z_in5 (List.mem_of_getElem? (i := 77) rfl)
theorem w2_198 : (Jvm.Cond.methodLink "StandingsHall" (375 : Nat) ({ cls := "java/util/ArrayList", name := "isEmpty", desc := "()Z" } : Jvm.MethodName)) ∈ lw_tbl := z_in2 (List.mem_of_getElem? (i := 198) rfl)
theorem w5_207 : (Jvm.Cond.stringRef "StandingsHall" (379 : Nat) "nobody is there") ∈ lw_tbl := z_in5 (List.mem_of_getElem? (i := 207) rfl)
theorem w6_83 : (Jvm.Cond.stringRef "StandingsHall" (381 : Nat) "k or n is out of range") ∈ lw_tbl := z_in6 (List.mem_of_getElem? (i := 83) rfl)
theorem w6_110 : (Jvm.Cond.stringRef "StandingsHall" (383 : Nat) "no standing of this round is kept") ∈ lw_tbl := z_in6 (List.mem_of_getElem? (i := 110) rfl)
theorem w2_161 : (Jvm.Cond.methodLinkNest "StandingsHall" (385 : Nat) ({ cls := "StandingsHall$Entrant", name := "putScore", desc := "(II)V" } : Jvm.MethodName) "StandingsHall") ∈ lw_tbl := z_in2 (List.mem_of_getElem? (i := 161) rfl)
theorem w3_130 : (Jvm.Cond.methodLink "StandingsHall" (388 : Nat) ({ cls := "java/util/ArrayList", name := "clear", desc := "()V" } : Jvm.MethodName)) ∈ lw_tbl := z_in3 (List.mem_of_getElem? (i := 130) rfl)
theorem w6_88 : (Jvm.Cond.methodLinkNest "StandingsHall" (391 : Nat) ({ cls := "StandingsHall$Entrant", name := "gainIn", desc := "(I)I" } : Jvm.MethodName) "StandingsHall") ∈ lw_tbl := z_in6 (List.mem_of_getElem? (i := 88) rfl)
theorem w6_170 : (Jvm.Cond.code ({ cls := "StandingsHall", name := "countGroupsAhead", desc := "(I)I" } : Jvm.MethodName) prog_1_method_69_code (7 : Nat) (Option.some Jvm.ClassFile.FieldType.int)) ∈ lw_tbl := z_in6 (List.mem_of_getElem? (i := 170) rfl)
theorem w6_169 : (Jvm.Cond.instanceMethod ({ cls := "StandingsHall", name := "countGroupsAhead", desc := "(I)I" } : Jvm.MethodName)) ∈ lw_tbl := z_in6 (List.mem_of_getElem? (i := 169) rfl)
theorem wS78 : (Cond.selects "StandingsHall" ⟨"StandingsHall", "countGroupsAhead", "(I)I"⟩ ⟨"StandingsHall", "countGroupsAhead", "(I)I"⟩ : Cond) ∈ lw_tbl := z_inS (List.mem_of_getElem? (i := 78) rfl)
theorem w6_167 : (Jvm.Cond.methodLink "StandingsHall" (394 : Nat) ({ cls := "StandingsHall", name := "countGroupsAhead", desc := "(I)I" } : Jvm.MethodName)) ∈ lw_tbl := z_in6 (List.mem_of_getElem? (i := 167) rfl)
theorem w6_186 : (Jvm.Cond.methodLink "StandingsHall" (397 : Nat) ({ cls := "java/util/Arrays", name := "fill", desc := "([II)V" } : Jvm.MethodName)) ∈ lw_tbl := z_in6 (List.mem_of_getElem? (i := 186) rfl)
theorem w6_190 : (Jvm.Cond.code ({ cls := "StandingsHall", name := "placeAt", desc := "(LStandingsHall$Entrant;I)I" } : Jvm.MethodName) prog_1_method_71_code (3 : Nat) (Option.some Jvm.ClassFile.FieldType.int)) ∈ lw_tbl := z_in6 (List.mem_of_getElem? (i := 190) rfl)
theorem w6_189 : (Jvm.Cond.instanceMethod ({ cls := "StandingsHall", name := "placeAt", desc := "(LStandingsHall$Entrant;I)I" } : Jvm.MethodName)) ∈ lw_tbl := z_in6 (List.mem_of_getElem? (i := 189) rfl)
theorem wS81 : (Cond.selects "StandingsHall" ⟨"StandingsHall", "placeAt", "(LStandingsHall$Entrant;I)I"⟩ ⟨"StandingsHall", "placeAt", "(LStandingsHall$Entrant;I)I"⟩ : Cond) ∈ lw_tbl := z_inS (List.mem_of_getElem? (i := 81) rfl)
theorem w6_187 : (Jvm.Cond.methodLink "StandingsHall" (403 : Nat) ({ cls := "StandingsHall", name := "placeAt", desc := "(LStandingsHall$Entrant;I)I" } : Jvm.MethodName)) ∈ lw_tbl := z_in6 (List.mem_of_getElem? (i := 187) rfl)
theorem w2_189 : (Jvm.Cond.code ({ cls := "StandingsHall", name := "isFirstWithItsPoints", desc := "(LStandingsHall$Entrant;)Z" } : Jvm.MethodName) prog_1_method_75_code (3 : Nat) (Option.some Jvm.ClassFile.FieldType.boolean)) ∈ lw_tbl := z_in2 (List.mem_of_getElem? (i := 189) rfl)
theorem w2_188 : (Jvm.Cond.instanceMethod ({ cls := "StandingsHall", name := "isFirstWithItsPoints", desc := "(LStandingsHall$Entrant;)Z" } : Jvm.MethodName)) ∈ lw_tbl := z_in2 (List.mem_of_getElem? (i := 188) rfl)
theorem wS22 : (Cond.selects "StandingsHall" ⟨"StandingsHall", "isFirstWithItsPoints", "(LStandingsHall$Entrant;)Z"⟩ ⟨"StandingsHall", "isFirstWithItsPoints", "(LStandingsHall$Entrant;)Z"⟩ : Cond) ∈ lw_tbl := z_inS (List.mem_of_getElem? (i := 22) rfl)
theorem w2_186 : (Jvm.Cond.methodLink "StandingsHall" (406 : Nat) ({ cls := "StandingsHall", name := "isFirstWithItsPoints", desc := "(LStandingsHall$Entrant;)Z" } : Jvm.MethodName)) ∈ lw_tbl := z_in2 (List.mem_of_getElem? (i := 186) rfl)
theorem w2_193 : (Jvm.Cond.code ({ cls := "StandingsHall", name := "countPresentUpTo", desc := "(I)I" } : Jvm.MethodName) prog_1_method_76_code (4 : Nat) (Option.some Jvm.ClassFile.FieldType.int)) ∈ lw_tbl := z_in2 (List.mem_of_getElem? (i := 193) rfl)
theorem w2_192 : (Jvm.Cond.instanceMethod ({ cls := "StandingsHall", name := "countPresentUpTo", desc := "(I)I" } : Jvm.MethodName)) ∈ lw_tbl := z_in2 (List.mem_of_getElem? (i := 192) rfl)
theorem wS23 : (Cond.selects "StandingsHall" ⟨"StandingsHall", "countPresentUpTo", "(I)I"⟩ ⟨"StandingsHall", "countPresentUpTo", "(I)I"⟩ : Cond) ∈ lw_tbl := z_inS (List.mem_of_getElem? (i := 23) rfl)
theorem w2_190 : (Jvm.Cond.methodLink "StandingsHall" (410 : Nat) ({ cls := "StandingsHall", name := "countPresentUpTo", desc := "(I)I" } : Jvm.MethodName)) ∈ lw_tbl := z_in2 (List.mem_of_getElem? (i := 190) rfl)
theorem w1_13 : (Jvm.Cond.initialized "StandingsHallModel") ∈ lw_tbl := z_in1 (List.mem_of_getElem? (i := 13) rfl)
theorem w6_216 : (Jvm.Cond.code ({ cls := "StandingsHallModel", name := "thrown", desc := "()I" } : Jvm.MethodName) prog_10_method_1_code (1 : Nat) (Option.some Jvm.ClassFile.FieldType.int)) ∈ lw_tbl := z_in6 (List.mem_of_getElem? (i := 216) rfl)
theorem w6_214 : (Jvm.Cond.instanceMethod ({ cls := "StandingsHallModel", name := "thrown", desc := "()I" } : Jvm.MethodName)) ∈ lw_tbl := z_in6 (List.mem_of_getElem? (i := 214) rfl)
theorem w6_215 : (Jvm.Cond.selects "StandingsHallModel" ({ cls := "StandingsHallModel", name := "thrown", desc := "()I" } : Jvm.MethodName) ({ cls := "StandingsHallModel", name := "thrown", desc := "()I" } : Jvm.MethodName)) ∈ lw_tbl := z_in6 (List.mem_of_getElem? (i := 215) rfl)
theorem w6_223 : (Jvm.Cond.fieldLink "StandingsHallModel" (1 : Nat) "StandingsHallModel" "thrown" "I") ∈ lw_tbl := z_in6 (List.mem_of_getElem? (i := 223) rfl)
theorem w7_114 : (Jvm.Cond.code ({ cls := "StandingsHallModel", name := "in", desc := "(III)Z" } : Jvm.MethodName) prog_10_method_2_code (3 : Nat) (Option.some Jvm.ClassFile.FieldType.boolean)) ∈ lw_tbl := z_in7 (List.mem_of_getElem? (i := 114) rfl)
theorem w7_113 : (Jvm.Cond.static ({ cls := "StandingsHallModel", name := "in", desc := "(III)Z" } : Jvm.MethodName)) ∈ lw_tbl := z_in7 (List.mem_of_getElem? (i := 113) rfl)
theorem w7_91 : (Jvm.Cond.code ({ cls := "StandingsHallModel", name := "fails", desc := "(ZI)Z" } : Jvm.MethodName) prog_10_method_3_code (3 : Nat) (Option.some Jvm.ClassFile.FieldType.boolean)) ∈ lw_tbl := z_in7 (List.mem_of_getElem? (i := 91) rfl)
theorem w7_90 : (Jvm.Cond.instanceMethod ({ cls := "StandingsHallModel", name := "fails", desc := "(ZI)Z" } : Jvm.MethodName)) ∈ lw_tbl := z_in7 (List.mem_of_getElem? (i := 90) rfl)
theorem wS84 : (Cond.selects "StandingsHallModel" ⟨"StandingsHallModel", "fails", "(ZI)Z"⟩ ⟨"StandingsHallModel", "fails", "(ZI)Z"⟩ : Cond) ∈ lw_tbl := z_inS (List.mem_of_getElem? (i := 84) rfl)
theorem w6_221 : (Jvm.Cond.code ({ cls := "StandingsHallModel", name := "<init>", desc := "()V" } : Jvm.MethodName) prog_10_method_4_code (1 : Nat) (Option.none : Option Jvm.ClassFile.FieldType)) ∈ lw_tbl := z_in6 (List.mem_of_getElem? (i := 221) rfl)
theorem w6_220 : (Jvm.Cond.instanceMethod ({ cls := "StandingsHallModel", name := "<init>", desc := "()V" } : Jvm.MethodName)) ∈ lw_tbl := z_in6 (List.mem_of_getElem? (i := 220) rfl)
theorem w6_222 : (Jvm.Cond.methodLink "StandingsHallModel" (7 : Nat) ({ cls := "java/lang/Object", name := "<init>", desc := "()V" } : Jvm.MethodName)) ∈ lw_tbl := z_in6 (List.mem_of_getElem? (i := 222) rfl)
theorem w6_224 : (Jvm.Cond.fieldLink "StandingsHallModel" (13 : Nat) "StandingsHallModel" "tape" "[I") ∈ lw_tbl := z_in6 (List.mem_of_getElem? (i := 224) rfl)
theorem w6_226 : (Jvm.Cond.fieldLink "StandingsHallModel" (17 : Nat) "StandingsHallModel" "errorAt" "I") ∈ lw_tbl := z_in6 (List.mem_of_getElem? (i := 226) rfl)
theorem w6_231 : (Jvm.Cond.fieldLink "StandingsHallModel" (20 : Nat) "StandingsHallModel" "factor" "[I") ∈ lw_tbl := z_in6 (List.mem_of_getElem? (i := 231) rfl)
theorem w6_232 : (Jvm.Cond.fieldLink "StandingsHallModel" (23 : Nat) "StandingsHallModel" "newFactor" "[I") ∈ lw_tbl := z_in6 (List.mem_of_getElem? (i := 232) rfl)
theorem w6_233 : (Jvm.Cond.fieldLink "StandingsHallModel" (26 : Nat) "StandingsHallModel" "isGreater" "[Z") ∈ lw_tbl := z_in6 (List.mem_of_getElem? (i := 233) rfl)
theorem w6_234 : (Jvm.Cond.fieldLink "StandingsHallModel" (30 : Nat) "StandingsHallModel" "isNewGreater" "[Z") ∈ lw_tbl := z_in6 (List.mem_of_getElem? (i := 234) rfl)
theorem w6_237 : (Jvm.Cond.fieldLink "StandingsHallModel" (33 : Nat) "StandingsHallModel" "score" "[I") ∈ lw_tbl := z_in6 (List.mem_of_getElem? (i := 237) rfl)
theorem w6_238 : (Jvm.Cond.fieldLink "StandingsHallModel" (36 : Nat) "StandingsHallModel" "group" "[I") ∈ lw_tbl := z_in6 (List.mem_of_getElem? (i := 238) rfl)
theorem w6_239 : (Jvm.Cond.fieldLink "StandingsHallModel" (39 : Nat) "StandingsHallModel" "since" "[I") ∈ lw_tbl := z_in6 (List.mem_of_getElem? (i := 239) rfl)
theorem w7_0 : (Jvm.Cond.fieldLink "StandingsHallModel" (42 : Nat) "StandingsHallModel" "begun" "[I") ∈ lw_tbl := z_in7 (List.mem_of_getElem? (i := 0) rfl)
theorem w7_1 : (Jvm.Cond.fieldLink "StandingsHallModel" (45 : Nat) "StandingsHallModel" "isThere" "[Z") ∈ lw_tbl := z_in7 (List.mem_of_getElem? (i := 1) rfl)
theorem w7_4 : (Jvm.Cond.fieldLink "StandingsHallModel" (48 : Nat) "StandingsHallModel" "ladder" "[I") ∈ lw_tbl := z_in7 (List.mem_of_getElem? (i := 4) rfl)
theorem w7_5 : (Jvm.Cond.fieldLink "StandingsHallModel" (51 : Nat) "StandingsHallModel" "entered" "[I") ∈ lw_tbl := z_in7 (List.mem_of_getElem? (i := 5) rfl)
theorem w7_6 : (Jvm.Cond.fieldLink "StandingsHallModel" (54 : Nat) "StandingsHallModel" "played" "[I") ∈ lw_tbl := z_in7 (List.mem_of_getElem? (i := 6) rfl)
theorem w7_7 : (Jvm.Cond.fieldLink "StandingsHallModel" (57 : Nat) "StandingsHallModel" "looked" "[I") ∈ lw_tbl := z_in7 (List.mem_of_getElem? (i := 7) rfl)
theorem w7_9 : (Jvm.Cond.fieldLink "StandingsHallModel" (60 : Nat) "StandingsHallModel" "reach" "I") ∈ lw_tbl := z_in7 (List.mem_of_getElem? (i := 9) rfl)
theorem w7_10 : (Jvm.Cond.fieldLink "StandingsHallModel" (63 : Nat) "StandingsHallModel" "patience" "I") ∈ lw_tbl := z_in7 (List.mem_of_getElem? (i := 10) rfl)
theorem w7_11 : (Jvm.Cond.fieldLink "StandingsHallModel" (66 : Nat) "StandingsHallModel" "gains" "[I") ∈ lw_tbl := z_in7 (List.mem_of_getElem? (i := 11) rfl)
theorem w7_12 : (Jvm.Cond.fieldLink "StandingsHallModel" (69 : Nat) "StandingsHallModel" "places" "[I") ∈ lw_tbl := z_in7 (List.mem_of_getElem? (i := 12) rfl)
theorem w7_14 : (Jvm.Cond.fieldLink "StandingsHallModel" (72 : Nat) "StandingsHallModel" "row" "[I") ∈ lw_tbl := z_in7 (List.mem_of_getElem? (i := 14) rfl)
theorem w6_235 : (Jvm.Cond.fieldLink "StandingsHallModel" (75 : Nat) "StandingsHallModel" "criteria" "I") ∈ lw_tbl := z_in6 (List.mem_of_getElem? (i := 235) rfl)
theorem w7_87 : (Jvm.Cond.code ({ cls := "StandingsHallModel", name := "bytesIn", desc := "(I)I" } : Jvm.MethodName) prog_10_method_5_code (3 : Nat) (Option.some Jvm.ClassFile.FieldType.int)) ∈ lw_tbl := z_in7 (List.mem_of_getElem? (i := 87) rfl)
theorem w7_86 : (Jvm.Cond.static ({ cls := "StandingsHallModel", name := "bytesIn", desc := "(I)I" } : Jvm.MethodName)) ∈ lw_tbl := z_in7 (List.mem_of_getElem? (i := 86) rfl)
theorem w7_95 : (Jvm.Cond.code ({ cls := "StandingsHallModel", name := "takesBytes", desc := "(I)V" } : Jvm.MethodName) prog_10_method_6_code (4 : Nat) (Option.none : Option Jvm.ClassFile.FieldType)) ∈ lw_tbl := z_in7 (List.mem_of_getElem? (i := 95) rfl)
theorem w7_94 : (Jvm.Cond.instanceMethod ({ cls := "StandingsHallModel", name := "takesBytes", desc := "(I)V" } : Jvm.MethodName)) ∈ lw_tbl := z_in7 (List.mem_of_getElem? (i := 94) rfl)
theorem wS85 : (Cond.selects "StandingsHallModel" ⟨"StandingsHallModel", "takesBytes", "(I)V"⟩ ⟨"StandingsHallModel", "takesBytes", "(I)V"⟩ : Cond) ∈ lw_tbl := z_inS (List.mem_of_getElem? (i := 85) rfl)
theorem w6_225 : (Jvm.Cond.fieldLink "StandingsHallModel" (78 : Nat) "StandingsHallModel" "tapeMany" "I") ∈ lw_tbl := z_in6 (List.mem_of_getElem? (i := 225) rfl)
theorem w7_84 : (Jvm.Cond.code ({ cls := "StandingsHallModel", name := "append", desc := "(IIIII)I" } : Jvm.MethodName) prog_10_method_7_code (7 : Nat) (Option.some Jvm.ClassFile.FieldType.int)) ∈ lw_tbl := z_in7 (List.mem_of_getElem? (i := 84) rfl)
theorem w7_82 : (Jvm.Cond.instanceMethod ({ cls := "StandingsHallModel", name := "append", desc := "(IIIII)I" } : Jvm.MethodName)) ∈ lw_tbl := z_in7 (List.mem_of_getElem? (i := 82) rfl)
theorem w7_83 : (Jvm.Cond.selects "StandingsHallModel" ({ cls := "StandingsHallModel", name := "append", desc := "(IIIII)I" } : Jvm.MethodName) ({ cls := "StandingsHallModel", name := "append", desc := "(IIIII)I" } : Jvm.MethodName)) ∈ lw_tbl := z_in7 (List.mem_of_getElem? (i := 83) rfl)
theorem w7_85 : (Jvm.Cond.methodLink "StandingsHallModel" (81 : Nat) ({ cls := "StandingsHallModel", name := "bytesIn", desc := "(I)I" } : Jvm.MethodName)) ∈ lw_tbl := z_in7 (List.mem_of_getElem? (i := 85) rfl)
theorem w7_88 : (Jvm.Cond.methodLink "StandingsHallModel" (85 : Nat) ({ cls := "StandingsHallModel", name := "fails", desc := "(ZI)Z" } : Jvm.MethodName)) ∈ lw_tbl := z_in7 (List.mem_of_getElem? (i := 88) rfl)
theorem w7_92 : (Jvm.Cond.methodLink "StandingsHallModel" (89 : Nat) ({ cls := "StandingsHallModel", name := "takesBytes", desc := "(I)V" } : Jvm.MethodName)) ∈ lw_tbl := z_in7 (List.mem_of_getElem? (i := 92) rfl)
theorem w7_99 : (Jvm.Cond.code ({ cls := "StandingsHallModel", name := "clearTape", desc := "()I" } : Jvm.MethodName) prog_10_method_8_code (2 : Nat) (Option.some Jvm.ClassFile.FieldType.int)) ∈ lw_tbl := z_in7 (List.mem_of_getElem? (i := 99) rfl)
theorem w7_97 : (Jvm.Cond.instanceMethod ({ cls := "StandingsHallModel", name := "clearTape", desc := "()I" } : Jvm.MethodName)) ∈ lw_tbl := z_in7 (List.mem_of_getElem? (i := 97) rfl)
theorem w7_98 : (Jvm.Cond.selects "StandingsHallModel" ({ cls := "StandingsHallModel", name := "clearTape", desc := "()I" } : Jvm.MethodName) ({ cls := "StandingsHallModel", name := "clearTape", desc := "()I" } : Jvm.MethodName)) ∈ lw_tbl := z_in7 (List.mem_of_getElem? (i := 98) rfl)
theorem w7_117 : (Jvm.Cond.code ({ cls := "StandingsHallModel", name := "isSign", desc := "(I)Z" } : Jvm.MethodName) prog_10_method_9_code (1 : Nat) (Option.some Jvm.ClassFile.FieldType.boolean)) ∈ lw_tbl := z_in7 (List.mem_of_getElem? (i := 117) rfl)
theorem w7_116 : (Jvm.Cond.static ({ cls := "StandingsHallModel", name := "isSign", desc := "(I)Z" } : Jvm.MethodName)) ∈ lw_tbl := z_in7 (List.mem_of_getElem? (i := 116) rfl)
theorem w7_111 : (Jvm.Cond.code ({ cls := "StandingsHallModel", name := "reads", desc := "()V" } : Jvm.MethodName) prog_10_method_10_code (3 : Nat) (Option.none : Option Jvm.ClassFile.FieldType)) ∈ lw_tbl := z_in7 (List.mem_of_getElem? (i := 111) rfl)
theorem w7_110 : (Jvm.Cond.instanceMethod ({ cls := "StandingsHallModel", name := "reads", desc := "()V" } : Jvm.MethodName)) ∈ lw_tbl := z_in7 (List.mem_of_getElem? (i := 110) rfl)
theorem wS87 : (Cond.selects "StandingsHallModel" ⟨"StandingsHallModel", "reads", "()V"⟩ ⟨"StandingsHallModel", "reads", "()V"⟩ : Cond) ∈ lw_tbl := z_inS (List.mem_of_getElem? (i := 87) rfl)
theorem w6_230 : (Jvm.Cond.fieldLink "StandingsHallModel" (93 : Nat) "StandingsHallModel" "at" "I") ∈ lw_tbl := z_in6 (List.mem_of_getElem? (i := 230) rfl)
theorem w6_228 : (Jvm.Cond.fieldLink "StandingsHallModel" (96 : Nat) "StandingsHallModel" "tokenAt" "I") ∈ lw_tbl := z_in6 (List.mem_of_getElem? (i := 228) rfl)
theorem w6_227 : (Jvm.Cond.fieldLink "StandingsHallModel" (99 : Nat) "StandingsHallModel" "token" "I") ∈ lw_tbl := z_in6 (List.mem_of_getElem? (i := 227) rfl)
theorem w7_112 : (Jvm.Cond.methodLink "StandingsHallModel" (102 : Nat) ({ cls := "StandingsHallModel", name := "in", desc := "(III)Z" } : Jvm.MethodName)) ∈ lw_tbl := z_in7 (List.mem_of_getElem? (i := 112) rfl)
theorem w6_229 : (Jvm.Cond.fieldLink "StandingsHallModel" (106 : Nat) "StandingsHallModel" "value" "I") ∈ lw_tbl := z_in6 (List.mem_of_getElem? (i := 229) rfl)
theorem w7_115 : (Jvm.Cond.methodLink "StandingsHallModel" (109 : Nat) ({ cls := "StandingsHallModel", name := "isSign", desc := "(I)Z" } : Jvm.MethodName)) ∈ lw_tbl := z_in7 (List.mem_of_getElem? (i := 115) rfl)
theorem w7_125 : (Jvm.Cond.code ({ cls := "StandingsHallModel", name := "isSignNow", desc := "(I)Z" } : Jvm.MethodName) prog_10_method_11_code (2 : Nat) (Option.some Jvm.ClassFile.FieldType.boolean)) ∈ lw_tbl := z_in7 (List.mem_of_getElem? (i := 125) rfl)
theorem w7_124 : (Jvm.Cond.instanceMethod ({ cls := "StandingsHallModel", name := "isSignNow", desc := "(I)Z" } : Jvm.MethodName)) ∈ lw_tbl := z_in7 (List.mem_of_getElem? (i := 124) rfl)
theorem wS89 : (Cond.selects "StandingsHallModel" ⟨"StandingsHallModel", "isSignNow", "(I)Z"⟩ ⟨"StandingsHallModel", "isSignNow", "(I)Z"⟩ : Cond) ∈ lw_tbl := z_inS (List.mem_of_getElem? (i := 89) rfl)
theorem w7_129 : (Jvm.Cond.code ({ cls := "StandingsHallModel", name := "readsTerm", desc := "(I)Z" } : Jvm.MethodName) prog_10_method_12_code (3 : Nat) (Option.some Jvm.ClassFile.FieldType.boolean)) ∈ lw_tbl := z_in7 (List.mem_of_getElem? (i := 129) rfl)
theorem w7_128 : (Jvm.Cond.instanceMethod ({ cls := "StandingsHallModel", name := "readsTerm", desc := "(I)Z" } : Jvm.MethodName)) ∈ lw_tbl := z_in7 (List.mem_of_getElem? (i := 128) rfl)
theorem wS90 : (Cond.selects "StandingsHallModel" ⟨"StandingsHallModel", "readsTerm", "(I)Z"⟩ ⟨"StandingsHallModel", "readsTerm", "(I)Z"⟩ : Cond) ∈ lw_tbl := z_inS (List.mem_of_getElem? (i := 90) rfl)
theorem w7_108 : (Jvm.Cond.methodLink "StandingsHallModel" (113 : Nat) ({ cls := "StandingsHallModel", name := "reads", desc := "()V" } : Jvm.MethodName)) ∈ lw_tbl := z_in7 (List.mem_of_getElem? (i := 108) rfl)
theorem w7_122 : (Jvm.Cond.methodLink "StandingsHallModel" (116 : Nat) ({ cls := "StandingsHallModel", name := "isSignNow", desc := "(I)Z" } : Jvm.MethodName)) ∈ lw_tbl := z_in7 (List.mem_of_getElem? (i := 122) rfl)
theorem w6_236 : (Jvm.Cond.fieldLink "StandingsHallModel" (119 : Nat) "StandingsHallModel" "newCriteria" "I") ∈ lw_tbl := z_in6 (List.mem_of_getElem? (i := 236) rfl)
theorem w7_121 : (Jvm.Cond.code ({ cls := "StandingsHallModel", name := "readsCriterion", desc := "()Z" } : Jvm.MethodName) prog_10_method_13_code (3 : Nat) (Option.some Jvm.ClassFile.FieldType.boolean)) ∈ lw_tbl := z_in7 (List.mem_of_getElem? (i := 121) rfl)
theorem w7_120 : (Jvm.Cond.instanceMethod ({ cls := "StandingsHallModel", name := "readsCriterion", desc := "()Z" } : Jvm.MethodName)) ∈ lw_tbl := z_in7 (List.mem_of_getElem? (i := 120) rfl)
theorem wS88 : (Cond.selects "StandingsHallModel" ⟨"StandingsHallModel", "readsCriterion", "()Z"⟩ ⟨"StandingsHallModel", "readsCriterion", "()Z"⟩ : Cond) ∈ lw_tbl := z_inS (List.mem_of_getElem? (i := 88) rfl)
theorem w7_126 : (Jvm.Cond.methodLink "StandingsHallModel" (122 : Nat) ({ cls := "StandingsHallModel", name := "readsTerm", desc := "(I)Z" } : Jvm.MethodName)) ∈ lw_tbl := z_in7 (List.mem_of_getElem? (i := 126) rfl)
theorem w7_107 : (Jvm.Cond.code ({ cls := "StandingsHallModel", name := "readsOrder", desc := "()Z" } : Jvm.MethodName) prog_10_method_14_code (1 : Nat) (Option.some Jvm.ClassFile.FieldType.boolean)) ∈ lw_tbl := z_in7 (List.mem_of_getElem? (i := 107) rfl)
theorem w7_106 : (Jvm.Cond.instanceMethod ({ cls := "StandingsHallModel", name := "readsOrder", desc := "()Z" } : Jvm.MethodName)) ∈ lw_tbl := z_in7 (List.mem_of_getElem? (i := 106) rfl)
theorem wS86 : (Cond.selects "StandingsHallModel" ⟨"StandingsHallModel", "readsOrder", "()Z"⟩ ⟨"StandingsHallModel", "readsOrder", "()Z"⟩ : Cond) ∈ lw_tbl := z_inS (List.mem_of_getElem? (i := 86) rfl)
theorem w7_118 : (Jvm.Cond.methodLink "StandingsHallModel" (125 : Nat) ({ cls := "StandingsHallModel", name := "readsCriterion", desc := "()Z" } : Jvm.MethodName)) ∈ lw_tbl := z_in7 (List.mem_of_getElem? (i := 118) rfl)
theorem w7_103 : (Jvm.Cond.code ({ cls := "StandingsHallModel", name := "setOrder", desc := "()I" } : Jvm.MethodName) prog_10_method_15_code (3 : Nat) (Option.some Jvm.ClassFile.FieldType.int)) ∈ lw_tbl := z_in7 (List.mem_of_getElem? (i := 103) rfl)
theorem w7_101 : (Jvm.Cond.instanceMethod ({ cls := "StandingsHallModel", name := "setOrder", desc := "()I" } : Jvm.MethodName)) ∈ lw_tbl := z_in7 (List.mem_of_getElem? (i := 101) rfl)
theorem w7_102 : (Jvm.Cond.selects "StandingsHallModel" ({ cls := "StandingsHallModel", name := "setOrder", desc := "()I" } : Jvm.MethodName) ({ cls := "StandingsHallModel", name := "setOrder", desc := "()I" } : Jvm.MethodName)) ∈ lw_tbl := z_in7 (List.mem_of_getElem? (i := 102) rfl)
theorem w7_104 : (Jvm.Cond.methodLink "StandingsHallModel" (129 : Nat) ({ cls := "StandingsHallModel", name := "readsOrder", desc := "()Z" } : Jvm.MethodName)) ∈ lw_tbl := z_in7 (List.mem_of_getElem? (i := 104) rfl)
theorem w7_133 : (Jvm.Cond.code ({ cls := "StandingsHallModel", name := "errorPosition", desc := "()I" } : Jvm.MethodName) prog_10_method_16_code (1 : Nat) (Option.some Jvm.ClassFile.FieldType.int)) ∈ lw_tbl := z_in7 (List.mem_of_getElem? (i := 133) rfl)
theorem w7_131 : (Jvm.Cond.instanceMethod ({ cls := "StandingsHallModel", name := "errorPosition", desc := "()I" } : Jvm.MethodName)) ∈ lw_tbl := z_in7 (List.mem_of_getElem? (i := 131) rfl)
theorem w7_132 : (Jvm.Cond.selects "StandingsHallModel" ({ cls := "StandingsHallModel", name := "errorPosition", desc := "()I" } : Jvm.MethodName) ({ cls := "StandingsHallModel", name := "errorPosition", desc := "()I" } : Jvm.MethodName)) ∈ lw_tbl := z_in7 (List.mem_of_getElem? (i := 132) rfl)
theorem w7_141 : (Jvm.Cond.code ({ cls := "StandingsHallModel", name := "noEntrant", desc := "(I)Z" } : Jvm.MethodName) prog_10_method_17_code (2 : Nat) (Option.some Jvm.ClassFile.FieldType.boolean)) ∈ lw_tbl := z_in7 (List.mem_of_getElem? (i := 141) rfl)
theorem w7_140 : (Jvm.Cond.instanceMethod ({ cls := "StandingsHallModel", name := "noEntrant", desc := "(I)Z" } : Jvm.MethodName)) ∈ lw_tbl := z_in7 (List.mem_of_getElem? (i := 140) rfl)
theorem wS91 : (Cond.selects "StandingsHallModel" ⟨"StandingsHallModel", "noEntrant", "(I)Z"⟩ ⟨"StandingsHallModel", "noEntrant", "(I)Z"⟩ : Cond) ∈ lw_tbl := z_inS (List.mem_of_getElem? (i := 91) rfl)
theorem w7_2 : (Jvm.Cond.fieldLink "StandingsHallModel" (132 : Nat) "StandingsHallModel" "came" "I") ∈ lw_tbl := z_in7 (List.mem_of_getElem? (i := 2) rfl)
theorem w7_145 : (Jvm.Cond.code ({ cls := "StandingsHallModel", name := "valueOf", desc := "(II)I" } : Jvm.MethodName) prog_10_method_18_code (5 : Nat) (Option.some Jvm.ClassFile.FieldType.int)) ∈ lw_tbl := z_in7 (List.mem_of_getElem? (i := 145) rfl)
theorem w7_144 : (Jvm.Cond.instanceMethod ({ cls := "StandingsHallModel", name := "valueOf", desc := "(II)I" } : Jvm.MethodName)) ∈ lw_tbl := z_in7 (List.mem_of_getElem? (i := 144) rfl)
theorem wS92 : (Cond.selects "StandingsHallModel" ⟨"StandingsHallModel", "valueOf", "(II)I"⟩ ⟨"StandingsHallModel", "valueOf", "(II)I"⟩ : Cond) ∈ lw_tbl := z_inS (List.mem_of_getElem? (i := 92) rfl)
theorem w7_137 : (Jvm.Cond.code ({ cls := "StandingsHallModel", name := "criterion", desc := "(II)I" } : Jvm.MethodName) prog_10_method_19_code (3 : Nat) (Option.some Jvm.ClassFile.FieldType.int)) ∈ lw_tbl := z_in7 (List.mem_of_getElem? (i := 137) rfl)
theorem w7_135 : (Jvm.Cond.instanceMethod ({ cls := "StandingsHallModel", name := "criterion", desc := "(II)I" } : Jvm.MethodName)) ∈ lw_tbl := z_in7 (List.mem_of_getElem? (i := 135) rfl)
theorem w7_136 : (Jvm.Cond.selects "StandingsHallModel" ({ cls := "StandingsHallModel", name := "criterion", desc := "(II)I" } : Jvm.MethodName) ({ cls := "StandingsHallModel", name := "criterion", desc := "(II)I" } : Jvm.MethodName)) ∈ lw_tbl := z_in7 (List.mem_of_getElem? (i := 136) rfl)
theorem w7_138 : (Jvm.Cond.methodLink "StandingsHallModel" (135 : Nat) ({ cls := "StandingsHallModel", name := "noEntrant", desc := "(I)Z" } : Jvm.MethodName)) ∈ lw_tbl := z_in7 (List.mem_of_getElem? (i := 138) rfl)
theorem w7_142 : (Jvm.Cond.methodLink "StandingsHallModel" (138 : Nat) ({ cls := "StandingsHallModel", name := "valueOf", desc := "(II)I" } : Jvm.MethodName)) ∈ lw_tbl := z_in7 (List.mem_of_getElem? (i := 142) rfl)
theorem w7_149 : (Jvm.Cond.code ({ cls := "StandingsHallModel", name := "come", desc := "(I)I" } : Jvm.MethodName) prog_10_method_20_code (3 : Nat) (Option.some Jvm.ClassFile.FieldType.int)) ∈ lw_tbl := z_in7 (List.mem_of_getElem? (i := 149) rfl)
theorem w7_147 : (Jvm.Cond.instanceMethod ({ cls := "StandingsHallModel", name := "come", desc := "(I)I" } : Jvm.MethodName)) ∈ lw_tbl := z_in7 (List.mem_of_getElem? (i := 147) rfl)
theorem w7_148 : (Jvm.Cond.selects "StandingsHallModel" ({ cls := "StandingsHallModel", name := "come", desc := "(I)I" } : Jvm.MethodName) ({ cls := "StandingsHallModel", name := "come", desc := "(I)I" } : Jvm.MethodName)) ∈ lw_tbl := z_in7 (List.mem_of_getElem? (i := 148) rfl)
theorem w7_153 : (Jvm.Cond.code ({ cls := "StandingsHallModel", name := "comesToHave", desc := "(I)V" } : Jvm.MethodName) prog_10_method_21_code (2 : Nat) (Option.none : Option Jvm.ClassFile.FieldType)) ∈ lw_tbl := z_in7 (List.mem_of_getElem? (i := 153) rfl)
theorem w7_152 : (Jvm.Cond.instanceMethod ({ cls := "StandingsHallModel", name := "comesToHave", desc := "(I)V" } : Jvm.MethodName)) ∈ lw_tbl := z_in7 (List.mem_of_getElem? (i := 152) rfl)
theorem wS93 : (Cond.selects "StandingsHallModel" ⟨"StandingsHallModel", "comesToHave", "(I)V"⟩ ⟨"StandingsHallModel", "comesToHave", "(I)V"⟩ : Cond) ∈ lw_tbl := z_inS (List.mem_of_getElem? (i := 93) rfl)
theorem w7_150 : (Jvm.Cond.methodLink "StandingsHallModel" (142 : Nat) ({ cls := "StandingsHallModel", name := "comesToHave", desc := "(I)V" } : Jvm.MethodName)) ∈ lw_tbl := z_in7 (List.mem_of_getElem? (i := 150) rfl)
theorem w7_3 : (Jvm.Cond.fieldLink "StandingsHallModel" (145 : Nat) "StandingsHallModel" "moments" "I") ∈ lw_tbl := z_in7 (List.mem_of_getElem? (i := 3) rfl)
theorem w7_157 : (Jvm.Cond.code ({ cls := "StandingsHallModel", name := "leave", desc := "(I)I" } : Jvm.MethodName) prog_10_method_22_code (5 : Nat) (Option.some Jvm.ClassFile.FieldType.int)) ∈ lw_tbl := z_in7 (List.mem_of_getElem? (i := 157) rfl)
theorem w7_155 : (Jvm.Cond.instanceMethod ({ cls := "StandingsHallModel", name := "leave", desc := "(I)I" } : Jvm.MethodName)) ∈ lw_tbl := z_in7 (List.mem_of_getElem? (i := 155) rfl)
theorem w7_156 : (Jvm.Cond.selects "StandingsHallModel" ({ cls := "StandingsHallModel", name := "leave", desc := "(I)I" } : Jvm.MethodName) ({ cls := "StandingsHallModel", name := "leave", desc := "(I)I" } : Jvm.MethodName)) ∈ lw_tbl := z_in7 (List.mem_of_getElem? (i := 156) rfl)
theorem w7_161 : (Jvm.Cond.code ({ cls := "StandingsHallModel", name := "placeOf", desc := "(I)I" } : Jvm.MethodName) prog_10_method_35_code (4 : Nat) (Option.some Jvm.ClassFile.FieldType.int)) ∈ lw_tbl := z_in7 (List.mem_of_getElem? (i := 161) rfl)
theorem w7_160 : (Jvm.Cond.instanceMethod ({ cls := "StandingsHallModel", name := "placeOf", desc := "(I)I" } : Jvm.MethodName)) ∈ lw_tbl := z_in7 (List.mem_of_getElem? (i := 160) rfl)
theorem wS94 : (Cond.selects "StandingsHallModel" ⟨"StandingsHallModel", "placeOf", "(I)I"⟩ ⟨"StandingsHallModel", "placeOf", "(I)I"⟩ : Cond) ∈ lw_tbl := z_inS (List.mem_of_getElem? (i := 94) rfl)
theorem w7_158 : (Jvm.Cond.methodLink "StandingsHallModel" (148 : Nat) ({ cls := "StandingsHallModel", name := "placeOf", desc := "(I)I" } : Jvm.MethodName)) ∈ lw_tbl := z_in7 (List.mem_of_getElem? (i := 158) rfl)
theorem w7_173 : (Jvm.Cond.code ({ cls := "StandingsHallModel", name := "ladderPlaceOf", desc := "(I)I" } : Jvm.MethodName) prog_10_method_57_code (3 : Nat) (Option.some Jvm.ClassFile.FieldType.int)) ∈ lw_tbl := z_in7 (List.mem_of_getElem? (i := 173) rfl)
theorem w7_172 : (Jvm.Cond.instanceMethod ({ cls := "StandingsHallModel", name := "ladderPlaceOf", desc := "(I)I" } : Jvm.MethodName)) ∈ lw_tbl := z_in7 (List.mem_of_getElem? (i := 172) rfl)
theorem wS97 : (Cond.selects "StandingsHallModel" ⟨"StandingsHallModel", "ladderPlaceOf", "(I)I"⟩ ⟨"StandingsHallModel", "ladderPlaceOf", "(I)I"⟩ : Cond) ∈ lw_tbl := z_inS (List.mem_of_getElem? (i := 97) rfl)
theorem w7_170 : (Jvm.Cond.methodLink "StandingsHallModel" (151 : Nat) ({ cls := "StandingsHallModel", name := "ladderPlaceOf", desc := "(I)I" } : Jvm.MethodName)) ∈ lw_tbl := z_in7 (List.mem_of_getElem? (i := 170) rfl)
theorem w7_8 : (Jvm.Cond.fieldLink "StandingsHallModel" (154 : Nat) "StandingsHallModel" "ladderMany" "I") ∈ lw_tbl := z_in7 (List.mem_of_getElem? (i := 8) rfl)
theorem w7_181 : (Jvm.Cond.code ({ cls := "StandingsHallModel", name := "noKind", desc := "(II)Z" } : Jvm.MethodName) prog_10_method_23_code (3 : Nat) (Option.some Jvm.ClassFile.FieldType.boolean)) ∈ lw_tbl := z_in7 (List.mem_of_getElem? (i := 181) rfl)
theorem w7_180 : (Jvm.Cond.instanceMethod ({ cls := "StandingsHallModel", name := "noKind", desc := "(II)Z" } : Jvm.MethodName)) ∈ lw_tbl := z_in7 (List.mem_of_getElem? (i := 180) rfl)
theorem wS98 : (Cond.selects "StandingsHallModel" ⟨"StandingsHallModel", "noKind", "(II)Z"⟩ ⟨"StandingsHallModel", "noKind", "(II)Z"⟩ : Cond) ∈ lw_tbl := z_inS (List.mem_of_getElem? (i := 98) rfl)
theorem w7_184 : (Jvm.Cond.code ({ cls := "StandingsHallModel", name := "isScore", desc := "(J)Z" } : Jvm.MethodName) prog_10_method_24_code (2 : Nat) (Option.some Jvm.ClassFile.FieldType.boolean)) ∈ lw_tbl := z_in7 (List.mem_of_getElem? (i := 184) rfl)
theorem w7_183 : (Jvm.Cond.static ({ cls := "StandingsHallModel", name := "isScore", desc := "(J)Z" } : Jvm.MethodName)) ∈ lw_tbl := z_in7 (List.mem_of_getElem? (i := 183) rfl)
theorem w7_185 : (Jvm.Cond.constantLong "StandingsHallModel" (157 : Nat) (-100000 : Int64)) ∈ lw_tbl := z_in7 (List.mem_of_getElem? (i := 185) rfl)
theorem w7_186 : (Jvm.Cond.constantLong "StandingsHallModel" (159 : Nat) (100000 : Int64)) ∈ lw_tbl := z_in7 (List.mem_of_getElem? (i := 186) rfl)
theorem w7_190 : (Jvm.Cond.code ({ cls := "StandingsHallModel", name := "becomes", desc := "(III)I" } : Jvm.MethodName) prog_10_method_25_code (5 : Nat) (Option.some Jvm.ClassFile.FieldType.int)) ∈ lw_tbl := z_in7 (List.mem_of_getElem? (i := 190) rfl)
theorem w7_189 : (Jvm.Cond.instanceMethod ({ cls := "StandingsHallModel", name := "becomes", desc := "(III)I" } : Jvm.MethodName)) ∈ lw_tbl := z_in7 (List.mem_of_getElem? (i := 189) rfl)
theorem wS99 : (Cond.selects "StandingsHallModel" ⟨"StandingsHallModel", "becomes", "(III)I"⟩ ⟨"StandingsHallModel", "becomes", "(III)I"⟩ : Cond) ∈ lw_tbl := z_inS (List.mem_of_getElem? (i := 99) rfl)
theorem w7_177 : (Jvm.Cond.code ({ cls := "StandingsHallModel", name := "score", desc := "(III)I" } : Jvm.MethodName) prog_10_method_26_code (4 : Nat) (Option.some Jvm.ClassFile.FieldType.int)) ∈ lw_tbl := z_in7 (List.mem_of_getElem? (i := 177) rfl)
theorem w7_175 : (Jvm.Cond.instanceMethod ({ cls := "StandingsHallModel", name := "score", desc := "(III)I" } : Jvm.MethodName)) ∈ lw_tbl := z_in7 (List.mem_of_getElem? (i := 175) rfl)
theorem w7_176 : (Jvm.Cond.selects "StandingsHallModel" ({ cls := "StandingsHallModel", name := "score", desc := "(III)I" } : Jvm.MethodName) ({ cls := "StandingsHallModel", name := "score", desc := "(III)I" } : Jvm.MethodName)) ∈ lw_tbl := z_in7 (List.mem_of_getElem? (i := 176) rfl)
theorem w7_178 : (Jvm.Cond.methodLink "StandingsHallModel" (161 : Nat) ({ cls := "StandingsHallModel", name := "noKind", desc := "(II)Z" } : Jvm.MethodName)) ∈ lw_tbl := z_in7 (List.mem_of_getElem? (i := 178) rfl)
theorem w7_182 : (Jvm.Cond.methodLink "StandingsHallModel" (165 : Nat) ({ cls := "StandingsHallModel", name := "isScore", desc := "(J)Z" } : Jvm.MethodName)) ∈ lw_tbl := z_in7 (List.mem_of_getElem? (i := 182) rfl)
theorem w7_187 : (Jvm.Cond.methodLink "StandingsHallModel" (169 : Nat) ({ cls := "StandingsHallModel", name := "becomes", desc := "(III)I" } : Jvm.MethodName)) ∈ lw_tbl := z_in7 (List.mem_of_getElem? (i := 187) rfl)
theorem w7_194 : (Jvm.Cond.code ({ cls := "StandingsHallModel", name := "setScore", desc := "(III)I" } : Jvm.MethodName) prog_10_method_27_code (4 : Nat) (Option.some Jvm.ClassFile.FieldType.int)) ∈ lw_tbl := z_in7 (List.mem_of_getElem? (i := 194) rfl)
theorem w7_192 : (Jvm.Cond.instanceMethod ({ cls := "StandingsHallModel", name := "setScore", desc := "(III)I" } : Jvm.MethodName)) ∈ lw_tbl := z_in7 (List.mem_of_getElem? (i := 192) rfl)
theorem w7_193 : (Jvm.Cond.selects "StandingsHallModel" ({ cls := "StandingsHallModel", name := "setScore", desc := "(III)I" } : Jvm.MethodName) ({ cls := "StandingsHallModel", name := "setScore", desc := "(III)I" } : Jvm.MethodName)) ∈ lw_tbl := z_in7 (List.mem_of_getElem? (i := 193) rfl)
theorem w7_198 : (Jvm.Cond.code ({ cls := "StandingsHallModel", name := "scoreOf", desc := "(II)I" } : Jvm.MethodName) prog_10_method_28_code (3 : Nat) (Option.some Jvm.ClassFile.FieldType.int)) ∈ lw_tbl := z_in7 (List.mem_of_getElem? (i := 198) rfl)
theorem w7_196 : (Jvm.Cond.instanceMethod ({ cls := "StandingsHallModel", name := "scoreOf", desc := "(II)I" } : Jvm.MethodName)) ∈ lw_tbl := z_in7 (List.mem_of_getElem? (i := 196) rfl)
theorem w7_197 : (Jvm.Cond.selects "StandingsHallModel" ({ cls := "StandingsHallModel", name := "scoreOf", desc := "(II)I" } : Jvm.MethodName) ({ cls := "StandingsHallModel", name := "scoreOf", desc := "(II)I" } : Jvm.MethodName)) ∈ lw_tbl := z_in7 (List.mem_of_getElem? (i := 197) rfl)
theorem w7_202 : (Jvm.Cond.code ({ cls := "StandingsHallModel", name := "groupOf", desc := "(I)I" } : Jvm.MethodName) prog_10_method_29_code (2 : Nat) (Option.some Jvm.ClassFile.FieldType.int)) ∈ lw_tbl := z_in7 (List.mem_of_getElem? (i := 202) rfl)
theorem w7_200 : (Jvm.Cond.instanceMethod ({ cls := "StandingsHallModel", name := "groupOf", desc := "(I)I" } : Jvm.MethodName)) ∈ lw_tbl := z_in7 (List.mem_of_getElem? (i := 200) rfl)
theorem w7_201 : (Jvm.Cond.selects "StandingsHallModel" ({ cls := "StandingsHallModel", name := "groupOf", desc := "(I)I" } : Jvm.MethodName) ({ cls := "StandingsHallModel", name := "groupOf", desc := "(I)I" } : Jvm.MethodName)) ∈ lw_tbl := z_in7 (List.mem_of_getElem? (i := 201) rfl)
theorem w7_210 : (Jvm.Cond.code ({ cls := "StandingsHallModel", name := "many", desc := "()I" } : Jvm.MethodName) prog_10_method_30_code (3 : Nat) (Option.some Jvm.ClassFile.FieldType.int)) ∈ lw_tbl := z_in7 (List.mem_of_getElem? (i := 210) rfl)
theorem w7_209 : (Jvm.Cond.instanceMethod ({ cls := "StandingsHallModel", name := "many", desc := "()I" } : Jvm.MethodName)) ∈ lw_tbl := z_in7 (List.mem_of_getElem? (i := 209) rfl)
theorem wS100 : (Cond.selects "StandingsHallModel" ⟨"StandingsHallModel", "many", "()I"⟩ ⟨"StandingsHallModel", "many", "()I"⟩ : Cond) ∈ lw_tbl := z_inS (List.mem_of_getElem? (i := 100) rfl)
theorem w7_206 : (Jvm.Cond.code ({ cls := "StandingsHallModel", name := "entrants", desc := "()I" } : Jvm.MethodName) prog_10_method_31_code (1 : Nat) (Option.some Jvm.ClassFile.FieldType.int)) ∈ lw_tbl := z_in7 (List.mem_of_getElem? (i := 206) rfl)
theorem w7_204 : (Jvm.Cond.instanceMethod ({ cls := "StandingsHallModel", name := "entrants", desc := "()I" } : Jvm.MethodName)) ∈ lw_tbl := z_in7 (List.mem_of_getElem? (i := 204) rfl)
theorem w7_205 : (Jvm.Cond.selects "StandingsHallModel" ({ cls := "StandingsHallModel", name := "entrants", desc := "()I" } : Jvm.MethodName) ({ cls := "StandingsHallModel", name := "entrants", desc := "()I" } : Jvm.MethodName)) ∈ lw_tbl := z_in7 (List.mem_of_getElem? (i := 205) rfl)
theorem w7_207 : (Jvm.Cond.methodLink "StandingsHallModel" (173 : Nat) ({ cls := "StandingsHallModel", name := "many", desc := "()I" } : Jvm.MethodName)) ∈ lw_tbl := z_in7 (List.mem_of_getElem? (i := 207) rfl)
theorem w7_169 : (Jvm.Cond.code ({ cls := "StandingsHallModel", name := "compares", desc := "(II)I" } : Jvm.MethodName) prog_10_method_32_code (6 : Nat) (Option.some Jvm.ClassFile.FieldType.int)) ∈ lw_tbl := z_in7 (List.mem_of_getElem? (i := 169) rfl)
theorem w7_168 : (Jvm.Cond.instanceMethod ({ cls := "StandingsHallModel", name := "compares", desc := "(II)I" } : Jvm.MethodName)) ∈ lw_tbl := z_in7 (List.mem_of_getElem? (i := 168) rfl)
theorem wS96 : (Cond.selects "StandingsHallModel" ⟨"StandingsHallModel", "compares", "(II)I"⟩ ⟨"StandingsHallModel", "compares", "(II)I"⟩ : Cond) ∈ lw_tbl := z_inS (List.mem_of_getElem? (i := 96) rfl)
theorem w7_165 : (Jvm.Cond.code ({ cls := "StandingsHallModel", name := "better", desc := "(I)I" } : Jvm.MethodName) prog_10_method_33_code (4 : Nat) (Option.some Jvm.ClassFile.FieldType.int)) ∈ lw_tbl := z_in7 (List.mem_of_getElem? (i := 165) rfl)
theorem w7_164 : (Jvm.Cond.instanceMethod ({ cls := "StandingsHallModel", name := "better", desc := "(I)I" } : Jvm.MethodName)) ∈ lw_tbl := z_in7 (List.mem_of_getElem? (i := 164) rfl)
theorem wS95 : (Cond.selects "StandingsHallModel" ⟨"StandingsHallModel", "better", "(I)I"⟩ ⟨"StandingsHallModel", "better", "(I)I"⟩ : Cond) ∈ lw_tbl := z_inS (List.mem_of_getElem? (i := 95) rfl)
theorem w7_166 : (Jvm.Cond.methodLink "StandingsHallModel" (177 : Nat) ({ cls := "StandingsHallModel", name := "compares", desc := "(II)I" } : Jvm.MethodName)) ∈ lw_tbl := z_in7 (List.mem_of_getElem? (i := 166) rfl)
theorem w8_2 : (Jvm.Cond.code ({ cls := "StandingsHallModel", name := "alikeWith", desc := "(I)I" } : Jvm.MethodName) prog_10_method_34_code (4 : Nat) (Option.some Jvm.ClassFile.FieldType.int)) ∈ lw_tbl := z_in8 (List.mem_of_getElem? (i := 2) rfl)
theorem w8_1 : (Jvm.Cond.instanceMethod ({ cls := "StandingsHallModel", name := "alikeWith", desc := "(I)I" } : Jvm.MethodName)) ∈ lw_tbl := z_in8 (List.mem_of_getElem? (i := 1) rfl)
theorem wS105 : (Cond.selects "StandingsHallModel" ⟨"StandingsHallModel", "alikeWith", "(I)I"⟩ ⟨"StandingsHallModel", "alikeWith", "(I)I"⟩ : Cond) ∈ lw_tbl := z_inS (List.mem_of_getElem? (i := 105) rfl)
theorem w7_162 : (Jvm.Cond.methodLink "StandingsHallModel" (180 : Nat) ({ cls := "StandingsHallModel", name := "better", desc := "(I)I" } : Jvm.MethodName)) ∈ lw_tbl := z_in7 (List.mem_of_getElem? (i := 162) rfl)
theorem w7_218 : (Jvm.Cond.code ({ cls := "StandingsHallModel", name := "entrantAt", desc := "(I)I" } : Jvm.MethodName) prog_10_method_36_code (3 : Nat) (Option.some Jvm.ClassFile.FieldType.int)) ∈ lw_tbl := z_in7 (List.mem_of_getElem? (i := 218) rfl)
theorem w7_217 : (Jvm.Cond.instanceMethod ({ cls := "StandingsHallModel", name := "entrantAt", desc := "(I)I" } : Jvm.MethodName)) ∈ lw_tbl := z_in7 (List.mem_of_getElem? (i := 217) rfl)
theorem wS101 : (Cond.selects "StandingsHallModel" ⟨"StandingsHallModel", "entrantAt", "(I)I"⟩ ⟨"StandingsHallModel", "entrantAt", "(I)I"⟩ : Cond) ∈ lw_tbl := z_inS (List.mem_of_getElem? (i := 101) rfl)
theorem w7_214 : (Jvm.Cond.code ({ cls := "StandingsHallModel", name := "at", desc := "(I)I" } : Jvm.MethodName) prog_10_method_37_code (2 : Nat) (Option.some Jvm.ClassFile.FieldType.int)) ∈ lw_tbl := z_in7 (List.mem_of_getElem? (i := 214) rfl)
theorem w7_212 : (Jvm.Cond.instanceMethod ({ cls := "StandingsHallModel", name := "at", desc := "(I)I" } : Jvm.MethodName)) ∈ lw_tbl := z_in7 (List.mem_of_getElem? (i := 212) rfl)
theorem w7_213 : (Jvm.Cond.selects "StandingsHallModel" ({ cls := "StandingsHallModel", name := "at", desc := "(I)I" } : Jvm.MethodName) ({ cls := "StandingsHallModel", name := "at", desc := "(I)I" } : Jvm.MethodName)) ∈ lw_tbl := z_in7 (List.mem_of_getElem? (i := 213) rfl)
theorem w7_215 : (Jvm.Cond.methodLink "StandingsHallModel" (183 : Nat) ({ cls := "StandingsHallModel", name := "entrantAt", desc := "(I)I" } : Jvm.MethodName)) ∈ lw_tbl := z_in7 (List.mem_of_getElem? (i := 215) rfl)
theorem w7_222 : (Jvm.Cond.code ({ cls := "StandingsHallModel", name := "place", desc := "(I)I" } : Jvm.MethodName) prog_10_method_38_code (2 : Nat) (Option.some Jvm.ClassFile.FieldType.int)) ∈ lw_tbl := z_in7 (List.mem_of_getElem? (i := 222) rfl)
theorem w7_220 : (Jvm.Cond.instanceMethod ({ cls := "StandingsHallModel", name := "place", desc := "(I)I" } : Jvm.MethodName)) ∈ lw_tbl := z_in7 (List.mem_of_getElem? (i := 220) rfl)
theorem w7_221 : (Jvm.Cond.selects "StandingsHallModel" ({ cls := "StandingsHallModel", name := "place", desc := "(I)I" } : Jvm.MethodName) ({ cls := "StandingsHallModel", name := "place", desc := "(I)I" } : Jvm.MethodName)) ∈ lw_tbl := z_in7 (List.mem_of_getElem? (i := 221) rfl)
theorem w7_234 : (Jvm.Cond.code ({ cls := "StandingsHallModel", name := "isFirst", desc := "(I)Z" } : Jvm.MethodName) prog_10_method_39_code (3 : Nat) (Option.some Jvm.ClassFile.FieldType.boolean)) ∈ lw_tbl := z_in7 (List.mem_of_getElem? (i := 234) rfl)
theorem w7_233 : (Jvm.Cond.instanceMethod ({ cls := "StandingsHallModel", name := "isFirst", desc := "(I)Z" } : Jvm.MethodName)) ∈ lw_tbl := z_in7 (List.mem_of_getElem? (i := 233) rfl)
theorem wS103 : (Cond.selects "StandingsHallModel" ⟨"StandingsHallModel", "isFirst", "(I)Z"⟩ ⟨"StandingsHallModel", "isFirst", "(I)Z"⟩ : Cond) ∈ lw_tbl := z_inS (List.mem_of_getElem? (i := 103) rfl)
theorem w7_230 : (Jvm.Cond.code ({ cls := "StandingsHallModel", name := "dense", desc := "(I)I" } : Jvm.MethodName) prog_10_method_40_code (4 : Nat) (Option.some Jvm.ClassFile.FieldType.int)) ∈ lw_tbl := z_in7 (List.mem_of_getElem? (i := 230) rfl)
theorem w7_229 : (Jvm.Cond.instanceMethod ({ cls := "StandingsHallModel", name := "dense", desc := "(I)I" } : Jvm.MethodName)) ∈ lw_tbl := z_in7 (List.mem_of_getElem? (i := 229) rfl)
theorem wS102 : (Cond.selects "StandingsHallModel" ⟨"StandingsHallModel", "dense", "(I)I"⟩ ⟨"StandingsHallModel", "dense", "(I)I"⟩ : Cond) ∈ lw_tbl := z_inS (List.mem_of_getElem? (i := 102) rfl)
theorem w7_231 : (Jvm.Cond.methodLink "StandingsHallModel" (186 : Nat) ({ cls := "StandingsHallModel", name := "isFirst", desc := "(I)Z" } : Jvm.MethodName)) ∈ lw_tbl := z_in7 (List.mem_of_getElem? (i := 231) rfl)
theorem w7_238 : (Jvm.Cond.code ({ cls := "StandingsHallModel", name := "twiceMean", desc := "(I)I" } : Jvm.MethodName) prog_10_method_41_code (2 : Nat) (Option.some Jvm.ClassFile.FieldType.int)) ∈ lw_tbl := z_in7 (List.mem_of_getElem? (i := 238) rfl)
theorem w7_237 : (Jvm.Cond.instanceMethod ({ cls := "StandingsHallModel", name := "twiceMean", desc := "(I)I" } : Jvm.MethodName)) ∈ lw_tbl := z_in7 (List.mem_of_getElem? (i := 237) rfl)
theorem wS104 : (Cond.selects "StandingsHallModel" ⟨"StandingsHallModel", "twiceMean", "(I)I"⟩ ⟨"StandingsHallModel", "twiceMean", "(I)I"⟩ : Cond) ∈ lw_tbl := z_inS (List.mem_of_getElem? (i := 104) rfl)
theorem w7_239 : (Jvm.Cond.methodLink "StandingsHallModel" (189 : Nat) ({ cls := "StandingsHallModel", name := "alikeWith", desc := "(I)I" } : Jvm.MethodName)) ∈ lw_tbl := z_in7 (List.mem_of_getElem? (i := 239) rfl)
theorem w7_226 : (Jvm.Cond.code ({ cls := "StandingsHallModel", name := "rank", desc := "(II)I" } : Jvm.MethodName) prog_10_method_42_code (3 : Nat) (Option.some Jvm.ClassFile.FieldType.int)) ∈ lw_tbl := z_in7 (List.mem_of_getElem? (i := 226) rfl)
theorem w7_224 : (Jvm.Cond.instanceMethod ({ cls := "StandingsHallModel", name := "rank", desc := "(II)I" } : Jvm.MethodName)) ∈ lw_tbl := z_in7 (List.mem_of_getElem? (i := 224) rfl)
theorem w7_225 : (Jvm.Cond.selects "StandingsHallModel" ({ cls := "StandingsHallModel", name := "rank", desc := "(II)I" } : Jvm.MethodName) ({ cls := "StandingsHallModel", name := "rank", desc := "(II)I" } : Jvm.MethodName)) ∈ lw_tbl := z_in7 (List.mem_of_getElem? (i := 225) rfl)
theorem w7_227 : (Jvm.Cond.methodLink "StandingsHallModel" (192 : Nat) ({ cls := "StandingsHallModel", name := "dense", desc := "(I)I" } : Jvm.MethodName)) ∈ lw_tbl := z_in7 (List.mem_of_getElem? (i := 227) rfl)
theorem w7_235 : (Jvm.Cond.methodLink "StandingsHallModel" (195 : Nat) ({ cls := "StandingsHallModel", name := "twiceMean", desc := "(I)I" } : Jvm.MethodName)) ∈ lw_tbl := z_in7 (List.mem_of_getElem? (i := 235) rfl)
theorem w8_6 : (Jvm.Cond.code ({ cls := "StandingsHallModel", name := "alike", desc := "(I)I" } : Jvm.MethodName) prog_10_method_43_code (2 : Nat) (Option.some Jvm.ClassFile.FieldType.int)) ∈ lw_tbl := z_in8 (List.mem_of_getElem? (i := 6) rfl)
theorem w8_4 : (Jvm.Cond.instanceMethod ({ cls := "StandingsHallModel", name := "alike", desc := "(I)I" } : Jvm.MethodName)) ∈ lw_tbl := z_in8 (List.mem_of_getElem? (i := 4) rfl)
theorem w8_5 : (Jvm.Cond.selects "StandingsHallModel" ({ cls := "StandingsHallModel", name := "alike", desc := "(I)I" } : Jvm.MethodName) ({ cls := "StandingsHallModel", name := "alike", desc := "(I)I" } : Jvm.MethodName)) ∈ lw_tbl := z_in8 (List.mem_of_getElem? (i := 5) rfl)
theorem w8_10 : (Jvm.Cond.code ({ cls := "StandingsHallModel", name := "results", desc := "()I" } : Jvm.MethodName) prog_10_method_44_code (3 : Nat) (Option.some Jvm.ClassFile.FieldType.int)) ∈ lw_tbl := z_in8 (List.mem_of_getElem? (i := 10) rfl)
theorem w8_8 : (Jvm.Cond.instanceMethod ({ cls := "StandingsHallModel", name := "results", desc := "()I" } : Jvm.MethodName)) ∈ lw_tbl := z_in8 (List.mem_of_getElem? (i := 8) rfl)
theorem w8_9 : (Jvm.Cond.selects "StandingsHallModel" ({ cls := "StandingsHallModel", name := "results", desc := "()I" } : Jvm.MethodName) ({ cls := "StandingsHallModel", name := "results", desc := "()I" } : Jvm.MethodName)) ∈ lw_tbl := z_in8 (List.mem_of_getElem? (i := 9) rfl)
theorem w8_14 : (Jvm.Cond.code ({ cls := "StandingsHallModel", name := "rankSum", desc := "()I" } : Jvm.MethodName) prog_10_method_45_code (3 : Nat) (Option.some Jvm.ClassFile.FieldType.int)) ∈ lw_tbl := z_in8 (List.mem_of_getElem? (i := 14) rfl)
theorem w8_12 : (Jvm.Cond.instanceMethod ({ cls := "StandingsHallModel", name := "rankSum", desc := "()I" } : Jvm.MethodName)) ∈ lw_tbl := z_in8 (List.mem_of_getElem? (i := 12) rfl)
theorem w8_13 : (Jvm.Cond.selects "StandingsHallModel" ({ cls := "StandingsHallModel", name := "rankSum", desc := "()I" } : Jvm.MethodName) ({ cls := "StandingsHallModel", name := "rankSum", desc := "()I" } : Jvm.MethodName)) ∈ lw_tbl := z_in8 (List.mem_of_getElem? (i := 13) rfl)
theorem w8_18 : (Jvm.Cond.code ({ cls := "StandingsHallModel", name := "wouldGain", desc := "(III)I" } : Jvm.MethodName) prog_10_method_46_code (6 : Nat) (Option.some Jvm.ClassFile.FieldType.int)) ∈ lw_tbl := z_in8 (List.mem_of_getElem? (i := 18) rfl)
theorem w8_16 : (Jvm.Cond.instanceMethod ({ cls := "StandingsHallModel", name := "wouldGain", desc := "(III)I" } : Jvm.MethodName)) ∈ lw_tbl := z_in8 (List.mem_of_getElem? (i := 16) rfl)
theorem w8_17 : (Jvm.Cond.selects "StandingsHallModel" ({ cls := "StandingsHallModel", name := "wouldGain", desc := "(III)I" } : Jvm.MethodName) ({ cls := "StandingsHallModel", name := "wouldGain", desc := "(III)I" } : Jvm.MethodName)) ∈ lw_tbl := z_in8 (List.mem_of_getElem? (i := 17) rfl)
theorem w8_22 : (Jvm.Cond.code ({ cls := "StandingsHallModel", name := "needed", desc := "(II)I" } : Jvm.MethodName) prog_10_method_47_code (6 : Nat) (Option.some Jvm.ClassFile.FieldType.int)) ∈ lw_tbl := z_in8 (List.mem_of_getElem? (i := 22) rfl)
theorem w8_20 : (Jvm.Cond.instanceMethod ({ cls := "StandingsHallModel", name := "needed", desc := "(II)I" } : Jvm.MethodName)) ∈ lw_tbl := z_in8 (List.mem_of_getElem? (i := 20) rfl)
theorem w8_21 : (Jvm.Cond.selects "StandingsHallModel" ({ cls := "StandingsHallModel", name := "needed", desc := "(II)I" } : Jvm.MethodName) ({ cls := "StandingsHallModel", name := "needed", desc := "(II)I" } : Jvm.MethodName)) ∈ lw_tbl := z_in8 (List.mem_of_getElem? (i := 21) rfl)
theorem w8_23 : (Jvm.Cond.constant "StandingsHallModel" (198 : Nat) (100000 : Int32)) ∈ lw_tbl := z_in8 (List.mem_of_getElem? (i := 23) rfl)
theorem w8_31 : (Jvm.Cond.code ({ cls := "StandingsHallModel", name := "points", desc := "(I)I" } : Jvm.MethodName) prog_10_method_48_code (2 : Nat) (Option.some Jvm.ClassFile.FieldType.int)) ∈ lw_tbl := z_in8 (List.mem_of_getElem? (i := 31) rfl)
theorem w8_30 : (Jvm.Cond.instanceMethod ({ cls := "StandingsHallModel", name := "points", desc := "(I)I" } : Jvm.MethodName)) ∈ lw_tbl := z_in8 (List.mem_of_getElem? (i := 30) rfl)
theorem wS106 : (Cond.selects "StandingsHallModel" ⟨"StandingsHallModel", "points", "(I)I"⟩ ⟨"StandingsHallModel", "points", "(I)I"⟩ : Cond) ∈ lw_tbl := z_inS (List.mem_of_getElem? (i := 106) rfl)
theorem w8_27 : (Jvm.Cond.code ({ cls := "StandingsHallModel", name := "above", desc := "(I)I" } : Jvm.MethodName) prog_10_method_49_code (4 : Nat) (Option.some Jvm.ClassFile.FieldType.int)) ∈ lw_tbl := z_in8 (List.mem_of_getElem? (i := 27) rfl)
theorem w8_25 : (Jvm.Cond.instanceMethod ({ cls := "StandingsHallModel", name := "above", desc := "(I)I" } : Jvm.MethodName)) ∈ lw_tbl := z_in8 (List.mem_of_getElem? (i := 25) rfl)
theorem w8_26 : (Jvm.Cond.selects "StandingsHallModel" ({ cls := "StandingsHallModel", name := "above", desc := "(I)I" } : Jvm.MethodName) ({ cls := "StandingsHallModel", name := "above", desc := "(I)I" } : Jvm.MethodName)) ∈ lw_tbl := z_in8 (List.mem_of_getElem? (i := 26) rfl)
theorem w8_28 : (Jvm.Cond.methodLink "StandingsHallModel" (199 : Nat) ({ cls := "StandingsHallModel", name := "points", desc := "(I)I" } : Jvm.MethodName)) ∈ lw_tbl := z_in8 (List.mem_of_getElem? (i := 28) rfl)
theorem w8_35 : (Jvm.Cond.code ({ cls := "StandingsHallModel", name := "with", desc := "(I)I" } : Jvm.MethodName) prog_10_method_50_code (4 : Nat) (Option.some Jvm.ClassFile.FieldType.int)) ∈ lw_tbl := z_in8 (List.mem_of_getElem? (i := 35) rfl)
theorem w8_33 : (Jvm.Cond.instanceMethod ({ cls := "StandingsHallModel", name := "with", desc := "(I)I" } : Jvm.MethodName)) ∈ lw_tbl := z_in8 (List.mem_of_getElem? (i := 33) rfl)
theorem w8_34 : (Jvm.Cond.selects "StandingsHallModel" ({ cls := "StandingsHallModel", name := "with", desc := "(I)I" } : Jvm.MethodName) ({ cls := "StandingsHallModel", name := "with", desc := "(I)I" } : Jvm.MethodName)) ∈ lw_tbl := z_in8 (List.mem_of_getElem? (i := 34) rfl)
theorem w8_39 : (Jvm.Cond.code ({ cls := "StandingsHallModel", name := "withAt", desc := "(II)I" } : Jvm.MethodName) prog_10_method_51_code (6 : Nat) (Option.some Jvm.ClassFile.FieldType.int)) ∈ lw_tbl := z_in8 (List.mem_of_getElem? (i := 39) rfl)
theorem w8_37 : (Jvm.Cond.instanceMethod ({ cls := "StandingsHallModel", name := "withAt", desc := "(II)I" } : Jvm.MethodName)) ∈ lw_tbl := z_in8 (List.mem_of_getElem? (i := 37) rfl)
theorem w8_38 : (Jvm.Cond.selects "StandingsHallModel" ({ cls := "StandingsHallModel", name := "withAt", desc := "(II)I" } : Jvm.MethodName) ({ cls := "StandingsHallModel", name := "withAt", desc := "(II)I" } : Jvm.MethodName)) ∈ lw_tbl := z_in8 (List.mem_of_getElem? (i := 38) rfl)
theorem w8_43 : (Jvm.Cond.code ({ cls := "StandingsHallModel", name := "next", desc := "(I)I" } : Jvm.MethodName) prog_10_method_52_code (4 : Nat) (Option.some Jvm.ClassFile.FieldType.int)) ∈ lw_tbl := z_in8 (List.mem_of_getElem? (i := 43) rfl)
theorem w8_41 : (Jvm.Cond.instanceMethod ({ cls := "StandingsHallModel", name := "next", desc := "(I)I" } : Jvm.MethodName)) ∈ lw_tbl := z_in8 (List.mem_of_getElem? (i := 41) rfl)
theorem w8_42 : (Jvm.Cond.selects "StandingsHallModel" ({ cls := "StandingsHallModel", name := "next", desc := "(I)I" } : Jvm.MethodName) ({ cls := "StandingsHallModel", name := "next", desc := "(I)I" } : Jvm.MethodName)) ∈ lw_tbl := z_in8 (List.mem_of_getElem? (i := 42) rfl)
theorem w8_47 : (Jvm.Cond.code ({ cls := "StandingsHallModel", name := "between", desc := "(II)I" } : Jvm.MethodName) prog_10_method_53_code (5 : Nat) (Option.some Jvm.ClassFile.FieldType.int)) ∈ lw_tbl := z_in8 (List.mem_of_getElem? (i := 47) rfl)
theorem w8_45 : (Jvm.Cond.instanceMethod ({ cls := "StandingsHallModel", name := "between", desc := "(II)I" } : Jvm.MethodName)) ∈ lw_tbl := z_in8 (List.mem_of_getElem? (i := 45) rfl)
theorem w8_46 : (Jvm.Cond.selects "StandingsHallModel" ({ cls := "StandingsHallModel", name := "between", desc := "(II)I" } : Jvm.MethodName) ({ cls := "StandingsHallModel", name := "between", desc := "(II)I" } : Jvm.MethodName)) ∈ lw_tbl := z_in8 (List.mem_of_getElem? (i := 46) rfl)
theorem w8_55 : (Jvm.Cond.code ({ cls := "StandingsHallModel", name := "pointsAt", desc := "(I)I" } : Jvm.MethodName) prog_10_method_54_code (6 : Nat) (Option.some Jvm.ClassFile.FieldType.int)) ∈ lw_tbl := z_in8 (List.mem_of_getElem? (i := 55) rfl)
theorem w8_54 : (Jvm.Cond.instanceMethod ({ cls := "StandingsHallModel", name := "pointsAt", desc := "(I)I" } : Jvm.MethodName)) ∈ lw_tbl := z_in8 (List.mem_of_getElem? (i := 54) rfl)
theorem wS107 : (Cond.selects "StandingsHallModel" ⟨"StandingsHallModel", "pointsAt", "(I)I"⟩ ⟨"StandingsHallModel", "pointsAt", "(I)I"⟩ : Cond) ∈ lw_tbl := z_inS (List.mem_of_getElem? (i := 107) rfl)
theorem w8_51 : (Jvm.Cond.code ({ cls := "StandingsHallModel", name := "median", desc := "(Z)I" } : Jvm.MethodName) prog_10_method_55_code (3 : Nat) (Option.some Jvm.ClassFile.FieldType.int)) ∈ lw_tbl := z_in8 (List.mem_of_getElem? (i := 51) rfl)
theorem w8_49 : (Jvm.Cond.instanceMethod ({ cls := "StandingsHallModel", name := "median", desc := "(Z)I" } : Jvm.MethodName)) ∈ lw_tbl := z_in8 (List.mem_of_getElem? (i := 49) rfl)
theorem w8_50 : (Jvm.Cond.selects "StandingsHallModel" ({ cls := "StandingsHallModel", name := "median", desc := "(Z)I" } : Jvm.MethodName) ({ cls := "StandingsHallModel", name := "median", desc := "(Z)I" } : Jvm.MethodName)) ∈ lw_tbl := z_in8 (List.mem_of_getElem? (i := 50) rfl)
theorem w8_52 : (Jvm.Cond.methodLink "StandingsHallModel" (202 : Nat) ({ cls := "StandingsHallModel", name := "pointsAt", desc := "(I)I" } : Jvm.MethodName)) ∈ lw_tbl := z_in8 (List.mem_of_getElem? (i := 52) rfl)
theorem w8_59 : (Jvm.Cond.code ({ cls := "StandingsHallModel", name := "quantile", desc := "(II)I" } : Jvm.MethodName) prog_10_method_56_code (5 : Nat) (Option.some Jvm.ClassFile.FieldType.int)) ∈ lw_tbl := z_in8 (List.mem_of_getElem? (i := 59) rfl)
theorem w8_57 : (Jvm.Cond.instanceMethod ({ cls := "StandingsHallModel", name := "quantile", desc := "(II)I" } : Jvm.MethodName)) ∈ lw_tbl := z_in8 (List.mem_of_getElem? (i := 57) rfl)
theorem w8_58 : (Jvm.Cond.selects "StandingsHallModel" ({ cls := "StandingsHallModel", name := "quantile", desc := "(II)I" } : Jvm.MethodName) ({ cls := "StandingsHallModel", name := "quantile", desc := "(II)I" } : Jvm.MethodName)) ∈ lw_tbl := z_in8 (List.mem_of_getElem? (i := 58) rfl)
theorem w8_63 : (Jvm.Cond.code ({ cls := "StandingsHallModel", name := "enter", desc := "(I)I" } : Jvm.MethodName) prog_10_method_58_code (2 : Nat) (Option.some Jvm.ClassFile.FieldType.int)) ∈ lw_tbl := z_in8 (List.mem_of_getElem? (i := 63) rfl)
theorem w8_61 : (Jvm.Cond.instanceMethod ({ cls := "StandingsHallModel", name := "enter", desc := "(I)I" } : Jvm.MethodName)) ∈ lw_tbl := z_in8 (List.mem_of_getElem? (i := 61) rfl)
theorem w8_62 : (Jvm.Cond.selects "StandingsHallModel" ({ cls := "StandingsHallModel", name := "enter", desc := "(I)I" } : Jvm.MethodName) ({ cls := "StandingsHallModel", name := "enter", desc := "(I)I" } : Jvm.MethodName)) ∈ lw_tbl := z_in8 (List.mem_of_getElem? (i := 62) rfl)
theorem w7_13 : (Jvm.Cond.fieldLink "StandingsHallModel" (205 : Nat) "StandingsHallModel" "rounds" "I") ∈ lw_tbl := z_in7 (List.mem_of_getElem? (i := 13) rfl)
theorem w8_67 : (Jvm.Cond.code ({ cls := "StandingsHallModel", name := "challenge", desc := "(IIZ)I" } : Jvm.MethodName) prog_10_method_59_code (7 : Nat) (Option.some Jvm.ClassFile.FieldType.int)) ∈ lw_tbl := z_in8 (List.mem_of_getElem? (i := 67) rfl)
theorem w8_65 : (Jvm.Cond.instanceMethod ({ cls := "StandingsHallModel", name := "challenge", desc := "(IIZ)I" } : Jvm.MethodName)) ∈ lw_tbl := z_in8 (List.mem_of_getElem? (i := 65) rfl)
theorem w8_66 : (Jvm.Cond.selects "StandingsHallModel" ({ cls := "StandingsHallModel", name := "challenge", desc := "(IIZ)I" } : Jvm.MethodName) ({ cls := "StandingsHallModel", name := "challenge", desc := "(IIZ)I" } : Jvm.MethodName)) ∈ lw_tbl := z_in8 (List.mem_of_getElem? (i := 66) rfl)
theorem w8_71 : (Jvm.Cond.code ({ cls := "StandingsHallModel", name := "mayChallenge", desc := "(I)I" } : Jvm.MethodName) prog_10_method_60_code (3 : Nat) (Option.some Jvm.ClassFile.FieldType.int)) ∈ lw_tbl := z_in8 (List.mem_of_getElem? (i := 71) rfl)
theorem w8_69 : (Jvm.Cond.instanceMethod ({ cls := "StandingsHallModel", name := "mayChallenge", desc := "(I)I" } : Jvm.MethodName)) ∈ lw_tbl := z_in8 (List.mem_of_getElem? (i := 69) rfl)
theorem w8_70 : (Jvm.Cond.selects "StandingsHallModel" ({ cls := "StandingsHallModel", name := "mayChallenge", desc := "(I)I" } : Jvm.MethodName) ({ cls := "StandingsHallModel", name := "mayChallenge", desc := "(I)I" } : Jvm.MethodName)) ∈ lw_tbl := z_in8 (List.mem_of_getElem? (i := 70) rfl)
theorem w8_75 : (Jvm.Cond.code ({ cls := "StandingsHallModel", name := "setReach", desc := "(I)I" } : Jvm.MethodName) prog_10_method_61_code (3 : Nat) (Option.some Jvm.ClassFile.FieldType.int)) ∈ lw_tbl := z_in8 (List.mem_of_getElem? (i := 75) rfl)
theorem w8_73 : (Jvm.Cond.instanceMethod ({ cls := "StandingsHallModel", name := "setReach", desc := "(I)I" } : Jvm.MethodName)) ∈ lw_tbl := z_in8 (List.mem_of_getElem? (i := 73) rfl)
theorem w8_74 : (Jvm.Cond.selects "StandingsHallModel" ({ cls := "StandingsHallModel", name := "setReach", desc := "(I)I" } : Jvm.MethodName) ({ cls := "StandingsHallModel", name := "setReach", desc := "(I)I" } : Jvm.MethodName)) ∈ lw_tbl := z_in8 (List.mem_of_getElem? (i := 74) rfl)
theorem w8_79 : (Jvm.Cond.code ({ cls := "StandingsHallModel", name := "setPatience", desc := "(I)I" } : Jvm.MethodName) prog_10_method_62_code (3 : Nat) (Option.some Jvm.ClassFile.FieldType.int)) ∈ lw_tbl := z_in8 (List.mem_of_getElem? (i := 79) rfl)
theorem w8_77 : (Jvm.Cond.instanceMethod ({ cls := "StandingsHallModel", name := "setPatience", desc := "(I)I" } : Jvm.MethodName)) ∈ lw_tbl := z_in8 (List.mem_of_getElem? (i := 77) rfl)
theorem w8_78 : (Jvm.Cond.selects "StandingsHallModel" ({ cls := "StandingsHallModel", name := "setPatience", desc := "(I)I" } : Jvm.MethodName) ({ cls := "StandingsHallModel", name := "setPatience", desc := "(I)I" } : Jvm.MethodName)) ∈ lw_tbl := z_in8 (List.mem_of_getElem? (i := 78) rfl)
theorem w8_83 : (Jvm.Cond.code ({ cls := "StandingsHallModel", name := "ladderAt", desc := "(I)I" } : Jvm.MethodName) prog_10_method_63_code (2 : Nat) (Option.some Jvm.ClassFile.FieldType.int)) ∈ lw_tbl := z_in8 (List.mem_of_getElem? (i := 83) rfl)
theorem w8_81 : (Jvm.Cond.instanceMethod ({ cls := "StandingsHallModel", name := "ladderAt", desc := "(I)I" } : Jvm.MethodName)) ∈ lw_tbl := z_in8 (List.mem_of_getElem? (i := 81) rfl)
theorem w8_82 : (Jvm.Cond.selects "StandingsHallModel" ({ cls := "StandingsHallModel", name := "ladderAt", desc := "(I)I" } : Jvm.MethodName) ({ cls := "StandingsHallModel", name := "ladderAt", desc := "(I)I" } : Jvm.MethodName)) ∈ lw_tbl := z_in8 (List.mem_of_getElem? (i := 82) rfl)
theorem w8_87 : (Jvm.Cond.code ({ cls := "StandingsHallModel", name := "ladderPlace", desc := "(I)I" } : Jvm.MethodName) prog_10_method_64_code (2 : Nat) (Option.some Jvm.ClassFile.FieldType.int)) ∈ lw_tbl := z_in8 (List.mem_of_getElem? (i := 87) rfl)
theorem w8_85 : (Jvm.Cond.instanceMethod ({ cls := "StandingsHallModel", name := "ladderPlace", desc := "(I)I" } : Jvm.MethodName)) ∈ lw_tbl := z_in8 (List.mem_of_getElem? (i := 85) rfl)
theorem w8_86 : (Jvm.Cond.selects "StandingsHallModel" ({ cls := "StandingsHallModel", name := "ladderPlace", desc := "(I)I" } : Jvm.MethodName) ({ cls := "StandingsHallModel", name := "ladderPlace", desc := "(I)I" } : Jvm.MethodName)) ∈ lw_tbl := z_in8 (List.mem_of_getElem? (i := 86) rfl)
theorem w8_95 : (Jvm.Cond.code ({ cls := "StandingsHallModel", name := "falls", desc := "()V" } : Jvm.MethodName) prog_10_method_65_code (5 : Nat) (Option.none : Option Jvm.ClassFile.FieldType)) ∈ lw_tbl := z_in8 (List.mem_of_getElem? (i := 95) rfl)
theorem w8_94 : (Jvm.Cond.instanceMethod ({ cls := "StandingsHallModel", name := "falls", desc := "()V" } : Jvm.MethodName)) ∈ lw_tbl := z_in8 (List.mem_of_getElem? (i := 94) rfl)
theorem wS108 : (Cond.selects "StandingsHallModel" ⟨"StandingsHallModel", "falls", "()V"⟩ ⟨"StandingsHallModel", "falls", "()V"⟩ : Cond) ∈ lw_tbl := z_inS (List.mem_of_getElem? (i := 108) rfl)
theorem w8_99 : (Jvm.Cond.code ({ cls := "StandingsHallModel", name := "gainOf", desc := "(I)I" } : Jvm.MethodName) prog_10_method_66_code (2 : Nat) (Option.some Jvm.ClassFile.FieldType.int)) ∈ lw_tbl := z_in8 (List.mem_of_getElem? (i := 99) rfl)
theorem w8_98 : (Jvm.Cond.instanceMethod ({ cls := "StandingsHallModel", name := "gainOf", desc := "(I)I" } : Jvm.MethodName)) ∈ lw_tbl := z_in8 (List.mem_of_getElem? (i := 98) rfl)
theorem wS109 : (Cond.selects "StandingsHallModel" ⟨"StandingsHallModel", "gainOf", "(I)I"⟩ ⟨"StandingsHallModel", "gainOf", "(I)I"⟩ : Cond) ∈ lw_tbl := z_inS (List.mem_of_getElem? (i := 109) rfl)
theorem w8_91 : (Jvm.Cond.code ({ cls := "StandingsHallModel", name := "endRound", desc := "()I" } : Jvm.MethodName) prog_10_method_67_code (3 : Nat) (Option.some Jvm.ClassFile.FieldType.int)) ∈ lw_tbl := z_in8 (List.mem_of_getElem? (i := 91) rfl)
theorem w8_89 : (Jvm.Cond.instanceMethod ({ cls := "StandingsHallModel", name := "endRound", desc := "()I" } : Jvm.MethodName)) ∈ lw_tbl := z_in8 (List.mem_of_getElem? (i := 89) rfl)
theorem w8_90 : (Jvm.Cond.selects "StandingsHallModel" ({ cls := "StandingsHallModel", name := "endRound", desc := "()I" } : Jvm.MethodName) ({ cls := "StandingsHallModel", name := "endRound", desc := "()I" } : Jvm.MethodName)) ∈ lw_tbl := z_in8 (List.mem_of_getElem? (i := 90) rfl)
theorem w8_92 : (Jvm.Cond.methodLink "StandingsHallModel" (208 : Nat) ({ cls := "StandingsHallModel", name := "falls", desc := "()V" } : Jvm.MethodName)) ∈ lw_tbl := z_in8 (List.mem_of_getElem? (i := 92) rfl)
theorem w8_96 : (Jvm.Cond.methodLink "StandingsHallModel" (211 : Nat) ({ cls := "StandingsHallModel", name := "gainOf", desc := "(I)I" } : Jvm.MethodName)) ∈ lw_tbl := z_in8 (List.mem_of_getElem? (i := 96) rfl)
theorem w8_103 : (Jvm.Cond.code ({ cls := "StandingsHallModel", name := "round", desc := "()I" } : Jvm.MethodName) prog_10_method_68_code (1 : Nat) (Option.some Jvm.ClassFile.FieldType.int)) ∈ lw_tbl := z_in8 (List.mem_of_getElem? (i := 103) rfl)
theorem w8_101 : (Jvm.Cond.instanceMethod ({ cls := "StandingsHallModel", name := "round", desc := "()I" } : Jvm.MethodName)) ∈ lw_tbl := z_in8 (List.mem_of_getElem? (i := 101) rfl)
theorem w8_102 : (Jvm.Cond.selects "StandingsHallModel" ({ cls := "StandingsHallModel", name := "round", desc := "()I" } : Jvm.MethodName) ({ cls := "StandingsHallModel", name := "round", desc := "()I" } : Jvm.MethodName)) ∈ lw_tbl := z_in8 (List.mem_of_getElem? (i := 102) rfl)
theorem w8_107 : (Jvm.Cond.code ({ cls := "StandingsHallModel", name := "gain", desc := "(I)I" } : Jvm.MethodName) prog_10_method_69_code (2 : Nat) (Option.some Jvm.ClassFile.FieldType.int)) ∈ lw_tbl := z_in8 (List.mem_of_getElem? (i := 107) rfl)
theorem w8_105 : (Jvm.Cond.instanceMethod ({ cls := "StandingsHallModel", name := "gain", desc := "(I)I" } : Jvm.MethodName)) ∈ lw_tbl := z_in8 (List.mem_of_getElem? (i := 105) rfl)
theorem w8_106 : (Jvm.Cond.selects "StandingsHallModel" ({ cls := "StandingsHallModel", name := "gain", desc := "(I)I" } : Jvm.MethodName) ({ cls := "StandingsHallModel", name := "gain", desc := "(I)I" } : Jvm.MethodName)) ∈ lw_tbl := z_in8 (List.mem_of_getElem? (i := 106) rfl)
theorem w8_118 : (Jvm.Cond.code ({ cls := "StandingsHallModel", name := "formOf", desc := "(III)I" } : Jvm.MethodName) prog_10_method_70_code (8 : Nat) (Option.some Jvm.ClassFile.FieldType.int)) ∈ lw_tbl := z_in8 (List.mem_of_getElem? (i := 118) rfl)
theorem w8_117 : (Jvm.Cond.instanceMethod ({ cls := "StandingsHallModel", name := "formOf", desc := "(III)I" } : Jvm.MethodName)) ∈ lw_tbl := z_in8 (List.mem_of_getElem? (i := 117) rfl)
theorem wS110 : (Cond.selects "StandingsHallModel" ⟨"StandingsHallModel", "formOf", "(III)I"⟩ ⟨"StandingsHallModel", "formOf", "(III)I"⟩ : Cond) ∈ lw_tbl := z_inS (List.mem_of_getElem? (i := 110) rfl)
theorem w8_114 : (Jvm.Cond.code ({ cls := "StandingsHallModel", name := "isForm", desc := "(II)Z" } : Jvm.MethodName) prog_10_method_71_code (2 : Nat) (Option.some Jvm.ClassFile.FieldType.boolean)) ∈ lw_tbl := z_in8 (List.mem_of_getElem? (i := 114) rfl)
theorem w8_113 : (Jvm.Cond.static ({ cls := "StandingsHallModel", name := "isForm", desc := "(II)Z" } : Jvm.MethodName)) ∈ lw_tbl := z_in8 (List.mem_of_getElem? (i := 113) rfl)
theorem w8_111 : (Jvm.Cond.code ({ cls := "StandingsHallModel", name := "form", desc := "(III)I" } : Jvm.MethodName) prog_10_method_72_code (4 : Nat) (Option.some Jvm.ClassFile.FieldType.int)) ∈ lw_tbl := z_in8 (List.mem_of_getElem? (i := 111) rfl)
theorem w8_109 : (Jvm.Cond.instanceMethod ({ cls := "StandingsHallModel", name := "form", desc := "(III)I" } : Jvm.MethodName)) ∈ lw_tbl := z_in8 (List.mem_of_getElem? (i := 109) rfl)
theorem w8_110 : (Jvm.Cond.selects "StandingsHallModel" ({ cls := "StandingsHallModel", name := "form", desc := "(III)I" } : Jvm.MethodName) ({ cls := "StandingsHallModel", name := "form", desc := "(III)I" } : Jvm.MethodName)) ∈ lw_tbl := z_in8 (List.mem_of_getElem? (i := 110) rfl)
theorem w8_112 : (Jvm.Cond.methodLink "StandingsHallModel" (214 : Nat) ({ cls := "StandingsHallModel", name := "isForm", desc := "(II)Z" } : Jvm.MethodName)) ∈ lw_tbl := z_in8 (List.mem_of_getElem? (i := 112) rfl)
theorem w8_115 : (Jvm.Cond.methodLink "StandingsHallModel" (217 : Nat) ({ cls := "StandingsHallModel", name := "formOf", desc := "(III)I" } : Jvm.MethodName)) ∈ lw_tbl := z_in8 (List.mem_of_getElem? (i := 115) rfl)
theorem w8_122 : (Jvm.Cond.code ({ cls := "StandingsHallModel", name := "inForm", desc := "(II)I" } : Jvm.MethodName) prog_10_method_73_code (6 : Nat) (Option.some Jvm.ClassFile.FieldType.int)) ∈ lw_tbl := z_in8 (List.mem_of_getElem? (i := 122) rfl)
theorem w8_120 : (Jvm.Cond.instanceMethod ({ cls := "StandingsHallModel", name := "inForm", desc := "(II)I" } : Jvm.MethodName)) ∈ lw_tbl := z_in8 (List.mem_of_getElem? (i := 120) rfl)
theorem w8_121 : (Jvm.Cond.selects "StandingsHallModel" ({ cls := "StandingsHallModel", name := "inForm", desc := "(II)I" } : Jvm.MethodName) ({ cls := "StandingsHallModel", name := "inForm", desc := "(II)I" } : Jvm.MethodName)) ∈ lw_tbl := z_in8 (List.mem_of_getElem? (i := 121) rfl)
theorem w8_130 : (Jvm.Cond.code ({ cls := "StandingsHallModel", name := "isKept", desc := "(I)Z" } : Jvm.MethodName) prog_10_method_74_code (2 : Nat) (Option.some Jvm.ClassFile.FieldType.boolean)) ∈ lw_tbl := z_in8 (List.mem_of_getElem? (i := 130) rfl)
theorem w8_129 : (Jvm.Cond.instanceMethod ({ cls := "StandingsHallModel", name := "isKept", desc := "(I)Z" } : Jvm.MethodName)) ∈ lw_tbl := z_in8 (List.mem_of_getElem? (i := 129) rfl)
theorem wS111 : (Cond.selects "StandingsHallModel" ⟨"StandingsHallModel", "isKept", "(I)Z"⟩ ⟨"StandingsHallModel", "isKept", "(I)Z"⟩ : Cond) ∈ lw_tbl := z_inS (List.mem_of_getElem? (i := 111) rfl)
theorem w8_134 : (Jvm.Cond.code ({ cls := "StandingsHallModel", name := "placeIn", desc := "(II)I" } : Jvm.MethodName) prog_10_method_75_code (3 : Nat) (Option.some Jvm.ClassFile.FieldType.int)) ∈ lw_tbl := z_in8 (List.mem_of_getElem? (i := 134) rfl)
theorem w8_133 : (Jvm.Cond.instanceMethod ({ cls := "StandingsHallModel", name := "placeIn", desc := "(II)I" } : Jvm.MethodName)) ∈ lw_tbl := z_in8 (List.mem_of_getElem? (i := 133) rfl)
theorem wS112 : (Cond.selects "StandingsHallModel" ⟨"StandingsHallModel", "placeIn", "(II)I"⟩ ⟨"StandingsHallModel", "placeIn", "(II)I"⟩ : Cond) ∈ lw_tbl := z_inS (List.mem_of_getElem? (i := 112) rfl)
theorem w8_126 : (Jvm.Cond.code ({ cls := "StandingsHallModel", name := "placeThen", desc := "(II)I" } : Jvm.MethodName) prog_10_method_76_code (3 : Nat) (Option.some Jvm.ClassFile.FieldType.int)) ∈ lw_tbl := z_in8 (List.mem_of_getElem? (i := 126) rfl)
theorem w8_124 : (Jvm.Cond.instanceMethod ({ cls := "StandingsHallModel", name := "placeThen", desc := "(II)I" } : Jvm.MethodName)) ∈ lw_tbl := z_in8 (List.mem_of_getElem? (i := 124) rfl)
theorem w8_125 : (Jvm.Cond.selects "StandingsHallModel" ({ cls := "StandingsHallModel", name := "placeThen", desc := "(II)I" } : Jvm.MethodName) ({ cls := "StandingsHallModel", name := "placeThen", desc := "(II)I" } : Jvm.MethodName)) ∈ lw_tbl := z_in8 (List.mem_of_getElem? (i := 125) rfl)
theorem w8_127 : (Jvm.Cond.methodLink "StandingsHallModel" (220 : Nat) ({ cls := "StandingsHallModel", name := "isKept", desc := "(I)Z" } : Jvm.MethodName)) ∈ lw_tbl := z_in8 (List.mem_of_getElem? (i := 127) rfl)
theorem w8_131 : (Jvm.Cond.methodLink "StandingsHallModel" (223 : Nat) ({ cls := "StandingsHallModel", name := "placeIn", desc := "(II)I" } : Jvm.MethodName)) ∈ lw_tbl := z_in8 (List.mem_of_getElem? (i := 131) rfl)
theorem w8_138 : (Jvm.Cond.code ({ cls := "StandingsHallModel", name := "climb", desc := "(I)I" } : Jvm.MethodName) prog_10_method_77_code (6 : Nat) (Option.some Jvm.ClassFile.FieldType.int)) ∈ lw_tbl := z_in8 (List.mem_of_getElem? (i := 138) rfl)
theorem w8_136 : (Jvm.Cond.instanceMethod ({ cls := "StandingsHallModel", name := "climb", desc := "(I)I" } : Jvm.MethodName)) ∈ lw_tbl := z_in8 (List.mem_of_getElem? (i := 136) rfl)
theorem w8_137 : (Jvm.Cond.selects "StandingsHallModel" ({ cls := "StandingsHallModel", name := "climb", desc := "(I)I" } : Jvm.MethodName) ({ cls := "StandingsHallModel", name := "climb", desc := "(I)I" } : Jvm.MethodName)) ∈ lw_tbl := z_in8 (List.mem_of_getElem? (i := 137) rfl)
theorem w8_146 : (Jvm.Cond.code ({ cls := "StandingsHallModel", name := "noGroup", desc := "(I)Z" } : Jvm.MethodName) prog_10_method_78_code (2 : Nat) (Option.some Jvm.ClassFile.FieldType.boolean)) ∈ lw_tbl := z_in8 (List.mem_of_getElem? (i := 146) rfl)
theorem w8_145 : (Jvm.Cond.instanceMethod ({ cls := "StandingsHallModel", name := "noGroup", desc := "(I)Z" } : Jvm.MethodName)) ∈ lw_tbl := z_in8 (List.mem_of_getElem? (i := 145) rfl)
theorem wS113 : (Cond.selects "StandingsHallModel" ⟨"StandingsHallModel", "noGroup", "(I)Z"⟩ ⟨"StandingsHallModel", "noGroup", "(I)Z"⟩ : Cond) ∈ lw_tbl := z_inS (List.mem_of_getElem? (i := 113) rfl)
theorem w8_150 : (Jvm.Cond.code ({ cls := "StandingsHallModel", name := "ofGroup", desc := "(II)I" } : Jvm.MethodName) prog_10_method_79_code (6 : Nat) (Option.some Jvm.ClassFile.FieldType.int)) ∈ lw_tbl := z_in8 (List.mem_of_getElem? (i := 150) rfl)
theorem w8_149 : (Jvm.Cond.instanceMethod ({ cls := "StandingsHallModel", name := "ofGroup", desc := "(II)I" } : Jvm.MethodName)) ∈ lw_tbl := z_in8 (List.mem_of_getElem? (i := 149) rfl)
theorem wS114 : (Cond.selects "StandingsHallModel" ⟨"StandingsHallModel", "ofGroup", "(II)I"⟩ ⟨"StandingsHallModel", "ofGroup", "(II)I"⟩ : Cond) ∈ lw_tbl := z_inS (List.mem_of_getElem? (i := 114) rfl)
theorem w8_142 : (Jvm.Cond.code ({ cls := "StandingsHallModel", name := "best", desc := "(I)I" } : Jvm.MethodName) prog_10_method_80_code (2 : Nat) (Option.some Jvm.ClassFile.FieldType.int)) ∈ lw_tbl := z_in8 (List.mem_of_getElem? (i := 142) rfl)
theorem w8_140 : (Jvm.Cond.instanceMethod ({ cls := "StandingsHallModel", name := "best", desc := "(I)I" } : Jvm.MethodName)) ∈ lw_tbl := z_in8 (List.mem_of_getElem? (i := 140) rfl)
theorem w8_141 : (Jvm.Cond.selects "StandingsHallModel" ({ cls := "StandingsHallModel", name := "best", desc := "(I)I" } : Jvm.MethodName) ({ cls := "StandingsHallModel", name := "best", desc := "(I)I" } : Jvm.MethodName)) ∈ lw_tbl := z_in8 (List.mem_of_getElem? (i := 141) rfl)
theorem w8_143 : (Jvm.Cond.methodLink "StandingsHallModel" (226 : Nat) ({ cls := "StandingsHallModel", name := "noGroup", desc := "(I)Z" } : Jvm.MethodName)) ∈ lw_tbl := z_in8 (List.mem_of_getElem? (i := 143) rfl)
theorem w8_147 : (Jvm.Cond.methodLink "StandingsHallModel" (229 : Nat) ({ cls := "StandingsHallModel", name := "ofGroup", desc := "(II)I" } : Jvm.MethodName)) ∈ lw_tbl := z_in8 (List.mem_of_getElem? (i := 147) rfl)
theorem w8_154 : (Jvm.Cond.code ({ cls := "StandingsHallModel", name := "members", desc := "(I)I" } : Jvm.MethodName) prog_10_method_81_code (4 : Nat) (Option.some Jvm.ClassFile.FieldType.int)) ∈ lw_tbl := z_in8 (List.mem_of_getElem? (i := 154) rfl)
theorem w8_152 : (Jvm.Cond.instanceMethod ({ cls := "StandingsHallModel", name := "members", desc := "(I)I" } : Jvm.MethodName)) ∈ lw_tbl := z_in8 (List.mem_of_getElem? (i := 152) rfl)
theorem w8_153 : (Jvm.Cond.selects "StandingsHallModel" ({ cls := "StandingsHallModel", name := "members", desc := "(I)I" } : Jvm.MethodName) ({ cls := "StandingsHallModel", name := "members", desc := "(I)I" } : Jvm.MethodName)) ∈ lw_tbl := z_in8 (List.mem_of_getElem? (i := 153) rfl)
theorem w8_162 : (Jvm.Cond.code ({ cls := "StandingsHallModel", name := "team", desc := "(I)I" } : Jvm.MethodName) prog_10_method_82_code (2 : Nat) (Option.some Jvm.ClassFile.FieldType.int)) ∈ lw_tbl := z_in8 (List.mem_of_getElem? (i := 162) rfl)
theorem w8_161 : (Jvm.Cond.instanceMethod ({ cls := "StandingsHallModel", name := "team", desc := "(I)I" } : Jvm.MethodName)) ∈ lw_tbl := z_in8 (List.mem_of_getElem? (i := 161) rfl)
theorem wS115 : (Cond.selects "StandingsHallModel" ⟨"StandingsHallModel", "team", "(I)I"⟩ ⟨"StandingsHallModel", "team", "(I)I"⟩ : Cond) ∈ lw_tbl := z_inS (List.mem_of_getElem? (i := 115) rfl)
theorem w8_158 : (Jvm.Cond.code ({ cls := "StandingsHallModel", name := "teamScore", desc := "(I)I" } : Jvm.MethodName) prog_10_method_83_code (2 : Nat) (Option.some Jvm.ClassFile.FieldType.int)) ∈ lw_tbl := z_in8 (List.mem_of_getElem? (i := 158) rfl)
theorem w8_156 : (Jvm.Cond.instanceMethod ({ cls := "StandingsHallModel", name := "teamScore", desc := "(I)I" } : Jvm.MethodName)) ∈ lw_tbl := z_in8 (List.mem_of_getElem? (i := 156) rfl)
theorem w8_157 : (Jvm.Cond.selects "StandingsHallModel" ({ cls := "StandingsHallModel", name := "teamScore", desc := "(I)I" } : Jvm.MethodName) ({ cls := "StandingsHallModel", name := "teamScore", desc := "(I)I" } : Jvm.MethodName)) ∈ lw_tbl := z_in8 (List.mem_of_getElem? (i := 157) rfl)
theorem w8_159 : (Jvm.Cond.methodLink "StandingsHallModel" (232 : Nat) ({ cls := "StandingsHallModel", name := "team", desc := "(I)I" } : Jvm.MethodName)) ∈ lw_tbl := z_in8 (List.mem_of_getElem? (i := 159) rfl)
theorem w8_170 : (Jvm.Cond.code ({ cls := "StandingsHallModel", name := "isGroupAhead", desc := "(II)Z" } : Jvm.MethodName) prog_10_method_84_code (3 : Nat) (Option.some Jvm.ClassFile.FieldType.boolean)) ∈ lw_tbl := z_in8 (List.mem_of_getElem? (i := 170) rfl)
theorem w8_169 : (Jvm.Cond.instanceMethod ({ cls := "StandingsHallModel", name := "isGroupAhead", desc := "(II)Z" } : Jvm.MethodName)) ∈ lw_tbl := z_in8 (List.mem_of_getElem? (i := 169) rfl)
theorem wS116 : (Cond.selects "StandingsHallModel" ⟨"StandingsHallModel", "isGroupAhead", "(II)Z"⟩ ⟨"StandingsHallModel", "isGroupAhead", "(II)Z"⟩ : Cond) ∈ lw_tbl := z_inS (List.mem_of_getElem? (i := 116) rfl)
theorem w8_166 : (Jvm.Cond.code ({ cls := "StandingsHallModel", name := "groupAt", desc := "(I)I" } : Jvm.MethodName) prog_10_method_85_code (5 : Nat) (Option.some Jvm.ClassFile.FieldType.int)) ∈ lw_tbl := z_in8 (List.mem_of_getElem? (i := 166) rfl)
theorem w8_164 : (Jvm.Cond.instanceMethod ({ cls := "StandingsHallModel", name := "groupAt", desc := "(I)I" } : Jvm.MethodName)) ∈ lw_tbl := z_in8 (List.mem_of_getElem? (i := 164) rfl)
theorem w8_165 : (Jvm.Cond.selects "StandingsHallModel" ({ cls := "StandingsHallModel", name := "groupAt", desc := "(I)I" } : Jvm.MethodName) ({ cls := "StandingsHallModel", name := "groupAt", desc := "(I)I" } : Jvm.MethodName)) ∈ lw_tbl := z_in8 (List.mem_of_getElem? (i := 165) rfl)
theorem w8_167 : (Jvm.Cond.methodLink "StandingsHallModel" (235 : Nat) ({ cls := "StandingsHallModel", name := "isGroupAhead", desc := "(II)Z" } : Jvm.MethodName)) ∈ lw_tbl := z_in8 (List.mem_of_getElem? (i := 167) rfl)
theorem w8_182 : (Jvm.Cond.code ({ cls := "StandingsHallModel", name := "apart", desc := "(II)I" } : Jvm.MethodName) prog_10_method_86_code (11 : Nat) (Option.some Jvm.ClassFile.FieldType.int)) ∈ lw_tbl := z_in8 (List.mem_of_getElem? (i := 182) rfl)
theorem w8_181 : (Jvm.Cond.instanceMethod ({ cls := "StandingsHallModel", name := "apart", desc := "(II)I" } : Jvm.MethodName)) ∈ lw_tbl := z_in8 (List.mem_of_getElem? (i := 181) rfl)
theorem wS118 : (Cond.selects "StandingsHallModel" ⟨"StandingsHallModel", "apart", "(II)I"⟩ ⟨"StandingsHallModel", "apart", "(II)I"⟩ : Cond) ∈ lw_tbl := z_inS (List.mem_of_getElem? (i := 118) rfl)
theorem w8_178 : (Jvm.Cond.code ({ cls := "StandingsHallModel", name := "noStanding", desc := "(I)Z" } : Jvm.MethodName) prog_10_method_87_code (2 : Nat) (Option.some Jvm.ClassFile.FieldType.boolean)) ∈ lw_tbl := z_in8 (List.mem_of_getElem? (i := 178) rfl)
theorem w8_177 : (Jvm.Cond.instanceMethod ({ cls := "StandingsHallModel", name := "noStanding", desc := "(I)Z" } : Jvm.MethodName)) ∈ lw_tbl := z_in8 (List.mem_of_getElem? (i := 177) rfl)
theorem wS117 : (Cond.selects "StandingsHallModel" ⟨"StandingsHallModel", "noStanding", "(I)Z"⟩ ⟨"StandingsHallModel", "noStanding", "(I)Z"⟩ : Cond) ∈ lw_tbl := z_inS (List.mem_of_getElem? (i := 117) rfl)
theorem w8_174 : (Jvm.Cond.code ({ cls := "StandingsHallModel", name := "inversions", desc := "(II)I" } : Jvm.MethodName) prog_10_method_88_code (3 : Nat) (Option.some Jvm.ClassFile.FieldType.int)) ∈ lw_tbl := z_in8 (List.mem_of_getElem? (i := 174) rfl)
theorem w8_172 : (Jvm.Cond.instanceMethod ({ cls := "StandingsHallModel", name := "inversions", desc := "(II)I" } : Jvm.MethodName)) ∈ lw_tbl := z_in8 (List.mem_of_getElem? (i := 172) rfl)
theorem w8_173 : (Jvm.Cond.selects "StandingsHallModel" ({ cls := "StandingsHallModel", name := "inversions", desc := "(II)I" } : Jvm.MethodName) ({ cls := "StandingsHallModel", name := "inversions", desc := "(II)I" } : Jvm.MethodName)) ∈ lw_tbl := z_in8 (List.mem_of_getElem? (i := 173) rfl)
theorem w8_175 : (Jvm.Cond.methodLink "StandingsHallModel" (238 : Nat) ({ cls := "StandingsHallModel", name := "noStanding", desc := "(I)Z" } : Jvm.MethodName)) ∈ lw_tbl := z_in8 (List.mem_of_getElem? (i := 175) rfl)
theorem w8_179 : (Jvm.Cond.methodLink "StandingsHallModel" (241 : Nat) ({ cls := "StandingsHallModel", name := "apart", desc := "(II)I" } : Jvm.MethodName)) ∈ lw_tbl := z_in8 (List.mem_of_getElem? (i := 179) rfl)
theorem w8_186 : (Jvm.Cond.code ({ cls := "StandingsHallModel", name := "swaps", desc := "(II)I" } : Jvm.MethodName) prog_10_method_89_code (3 : Nat) (Option.some Jvm.ClassFile.FieldType.int)) ∈ lw_tbl := z_in8 (List.mem_of_getElem? (i := 186) rfl)
theorem w8_184 : (Jvm.Cond.instanceMethod ({ cls := "StandingsHallModel", name := "swaps", desc := "(II)I" } : Jvm.MethodName)) ∈ lw_tbl := z_in8 (List.mem_of_getElem? (i := 184) rfl)
theorem w8_185 : (Jvm.Cond.selects "StandingsHallModel" ({ cls := "StandingsHallModel", name := "swaps", desc := "(II)I" } : Jvm.MethodName) ({ cls := "StandingsHallModel", name := "swaps", desc := "(II)I" } : Jvm.MethodName)) ∈ lw_tbl := z_in8 (List.mem_of_getElem? (i := 185) rfl)
theorem w8_190 : (Jvm.Cond.code ({ cls := "StandingsHallModel", name := "meanPoints", desc := "()D" } : Jvm.MethodName) prog_10_method_90_code (3 : Nat) (Option.some Jvm.ClassFile.FieldType.double)) ∈ lw_tbl := z_in8 (List.mem_of_getElem? (i := 190) rfl)
theorem w8_188 : (Jvm.Cond.instanceMethod ({ cls := "StandingsHallModel", name := "meanPoints", desc := "()D" } : Jvm.MethodName)) ∈ lw_tbl := z_in8 (List.mem_of_getElem? (i := 188) rfl)
theorem w8_189 : (Jvm.Cond.selects "StandingsHallModel" ({ cls := "StandingsHallModel", name := "meanPoints", desc := "()D" } : Jvm.MethodName) ({ cls := "StandingsHallModel", name := "meanPoints", desc := "()D" } : Jvm.MethodName)) ∈ lw_tbl := z_in8 (List.mem_of_getElem? (i := 189) rfl)
theorem w8_194 : (Jvm.Cond.code ({ cls := "StandingsHallModel", name := "beats", desc := "(I)F" } : Jvm.MethodName) prog_10_method_91_code (3 : Nat) (Option.some Jvm.ClassFile.FieldType.float)) ∈ lw_tbl := z_in8 (List.mem_of_getElem? (i := 194) rfl)
theorem w8_192 : (Jvm.Cond.instanceMethod ({ cls := "StandingsHallModel", name := "beats", desc := "(I)F" } : Jvm.MethodName)) ∈ lw_tbl := z_in8 (List.mem_of_getElem? (i := 192) rfl)
theorem w8_193 : (Jvm.Cond.selects "StandingsHallModel" ({ cls := "StandingsHallModel", name := "beats", desc := "(I)F" } : Jvm.MethodName) ({ cls := "StandingsHallModel", name := "beats", desc := "(I)F" } : Jvm.MethodName)) ∈ lw_tbl := z_in8 (List.mem_of_getElem? (i := 193) rfl)
theorem w8_198 : (Jvm.Cond.code ({ cls := "StandingsHallModel", name := "errors", desc := "()I" } : Jvm.MethodName) prog_10_method_92_code (1 : Nat) (Option.some Jvm.ClassFile.FieldType.int)) ∈ lw_tbl := z_in8 (List.mem_of_getElem? (i := 198) rfl)
theorem w8_196 : (Jvm.Cond.instanceMethod ({ cls := "StandingsHallModel", name := "errors", desc := "()I" } : Jvm.MethodName)) ∈ lw_tbl := z_in8 (List.mem_of_getElem? (i := 196) rfl)
theorem w8_197 : (Jvm.Cond.selects "StandingsHallModel" ({ cls := "StandingsHallModel", name := "errors", desc := "()I" } : Jvm.MethodName) ({ cls := "StandingsHallModel", name := "errors", desc := "()I" } : Jvm.MethodName)) ∈ lw_tbl := z_in8 (List.mem_of_getElem? (i := 197) rfl)
theorem w1_55 : (Jvm.Cond.arrayClass Jvm.ClassFile.FieldType.int) ∈ lw_tbl := z_in1 (List.mem_of_getElem? (i := 55) rfl)
theorem w7_80 : (Jvm.Cond.arrayClass Jvm.ClassFile.FieldType.boolean) ∈ lw_tbl := z_in7 (List.mem_of_getElem? (i := 80) rfl)
theorem w1_39 : (Jvm.Cond.instanceMethod ({ cls := "java/lang/Object", name := "<init>", desc := "()V" } : Jvm.MethodName)) ∈ lw_tbl := z_in1 (List.mem_of_getElem? (i := 39) rfl)
theorem w1_40 : (Jvm.Cond.code ({ cls := "java/lang/Object", name := "<init>", desc := "()V" } : Jvm.MethodName) object_method_1_code (1 : Nat) (Option.none : Option Jvm.ClassFile.FieldType)) ∈ lw_tbl := z_in1 (List.mem_of_getElem? (i := 40) rfl)
theorem w1_216 : (Jvm.Cond.lays "StandingsHall$Entrant" "StandingsHall$Entrant" "number" "I") ∈ lw_tbl := z_in1 (List.mem_of_getElem? (i := 216) rfl)
theorem w1_218 : (Jvm.Cond.laysFinal "StandingsHall$Entrant" "StandingsHall$Entrant" "group" "I") ∈ lw_tbl := z_in1 (List.mem_of_getElem? (i := 218) rfl)
theorem w1_220 : (Jvm.Cond.lays "StandingsHall$Entrant" "StandingsHall$Entrant" "isThere" "Z") ∈ lw_tbl := z_in1 (List.mem_of_getElem? (i := 220) rfl)
theorem w1_222 : (Jvm.Cond.laysFinal "StandingsHall$Entrant" "StandingsHall$Entrant" "scores" "[I") ∈ lw_tbl := z_in1 (List.mem_of_getElem? (i := 222) rfl)
theorem w1_224 : (Jvm.Cond.laysFinal "StandingsHall$Entrant" "StandingsHall$Entrant" "merits" "[I") ∈ lw_tbl := z_in1 (List.mem_of_getElem? (i := 224) rfl)
theorem w1_226 : (Jvm.Cond.lays "StandingsHall$Entrant" "StandingsHall$Entrant" "place" "I") ∈ lw_tbl := z_in1 (List.mem_of_getElem? (i := 226) rfl)
theorem w1_228 : (Jvm.Cond.lays "StandingsHall$Entrant" "StandingsHall$Entrant" "gained" "I") ∈ lw_tbl := z_in1 (List.mem_of_getElem? (i := 228) rfl)
theorem w1_230 : (Jvm.Cond.laysFinal "StandingsHall$Entrant" "StandingsHall$Entrant" "gains" "[I") ∈ lw_tbl := z_in1 (List.mem_of_getElem? (i := 230) rfl)
theorem w1_232 : (Jvm.Cond.laysFinal "StandingsHall$Entrant" "StandingsHall$Entrant" "places" "[I") ∈ lw_tbl := z_in1 (List.mem_of_getElem? (i := 232) rfl)
theorem w1_234 : (Jvm.Cond.lays "StandingsHall$Entrant" "StandingsHall$Entrant" "entered" "I") ∈ lw_tbl := z_in1 (List.mem_of_getElem? (i := 234) rfl)
theorem w1_236 : (Jvm.Cond.lays "StandingsHall$Entrant" "StandingsHall$Entrant" "played" "I") ∈ lw_tbl := z_in1 (List.mem_of_getElem? (i := 236) rfl)
theorem w1_177 : (Jvm.Cond.laysFinal "StandingsHall$Ladder" "StandingsHall$Ladder" "row" "Ljava/util/ArrayList;") ∈ lw_tbl := z_in1 (List.mem_of_getElem? (i := 177) rfl)
theorem w1_179 : (Jvm.Cond.lays "StandingsHall$Ladder" "StandingsHall$Ladder" "reach" "I") ∈ lw_tbl := z_in1 (List.mem_of_getElem? (i := 179) rfl)
theorem w1_181 : (Jvm.Cond.lays "StandingsHall$Ladder" "StandingsHall$Ladder" "patience" "I") ∈ lw_tbl := z_in1 (List.mem_of_getElem? (i := 181) rfl)
theorem w1_92 : (Jvm.Cond.laysFinal "StandingsHall$Order" "StandingsHall$Order" "factors" "[I") ∈ lw_tbl := z_in1 (List.mem_of_getElem? (i := 92) rfl)
theorem w1_94 : (Jvm.Cond.laysFinal "StandingsHall$Order" "StandingsHall$Order" "signs" "[I") ∈ lw_tbl := z_in1 (List.mem_of_getElem? (i := 94) rfl)
theorem w1_96 : (Jvm.Cond.lays "StandingsHall$Order" "StandingsHall$Order" "count" "I") ∈ lw_tbl := z_in1 (List.mem_of_getElem? (i := 96) rfl)
theorem w1_69 : (Jvm.Cond.laysFinal "StandingsHall$OrderReader" "StandingsHall$OrderReader" "tape" "LStandingsHall$Tape;") ∈ lw_tbl := z_in1 (List.mem_of_getElem? (i := 69) rfl)
theorem w1_71 : (Jvm.Cond.lays "StandingsHall$OrderReader" "StandingsHall$OrderReader" "token" "I") ∈ lw_tbl := z_in1 (List.mem_of_getElem? (i := 71) rfl)
theorem w1_73 : (Jvm.Cond.lays "StandingsHall$OrderReader" "StandingsHall$OrderReader" "start" "I") ∈ lw_tbl := z_in1 (List.mem_of_getElem? (i := 73) rfl)
theorem w1_75 : (Jvm.Cond.lays "StandingsHall$OrderReader" "StandingsHall$OrderReader" "after" "I") ∈ lw_tbl := z_in1 (List.mem_of_getElem? (i := 75) rfl)
theorem w1_77 : (Jvm.Cond.lays "StandingsHall$OrderReader" "StandingsHall$OrderReader" "number" "I") ∈ lw_tbl := z_in1 (List.mem_of_getElem? (i := 77) rfl)
theorem w1_79 : (Jvm.Cond.lays "StandingsHall$OrderReader" "StandingsHall$OrderReader" "kind" "I") ∈ lw_tbl := z_in1 (List.mem_of_getElem? (i := 79) rfl)
theorem w1_160 : (Jvm.Cond.laysFinal "StandingsHall$PointsRow" "StandingsHall$PointsRow" "row" "Ljava/util/ArrayList;") ∈ lw_tbl := z_in1 (List.mem_of_getElem? (i := 160) rfl)
theorem w1_147 : (Jvm.Cond.laysFinal "StandingsHall$Standing" "StandingsHall$Standing" "row" "Ljava/util/ArrayList;") ∈ lw_tbl := z_in1 (List.mem_of_getElem? (i := 147) rfl)
theorem w1_50 : (Jvm.Cond.laysFinal "StandingsHall$Tape" "StandingsHall$Tape" "bytes" "[I") ∈ lw_tbl := z_in1 (List.mem_of_getElem? (i := 50) rfl)
theorem w1_52 : (Jvm.Cond.lays "StandingsHall$Tape" "StandingsHall$Tape" "length" "I") ∈ lw_tbl := z_in1 (List.mem_of_getElem? (i := 52) rfl)
theorem w2_12 : (Jvm.Cond.laysFinal "StandingsHall" "StandingsHall" "tape" "LStandingsHall$Tape;") ∈ lw_tbl := z_in2 (List.mem_of_getElem? (i := 12) rfl)
theorem w2_14 : (Jvm.Cond.laysFinal "StandingsHall" "StandingsHall" "reader" "LStandingsHall$OrderReader;") ∈ lw_tbl := z_in2 (List.mem_of_getElem? (i := 14) rfl)
theorem w2_16 : (Jvm.Cond.lays "StandingsHall" "StandingsHall" "order" "LStandingsHall$Order;") ∈ lw_tbl := z_in2 (List.mem_of_getElem? (i := 16) rfl)
theorem w2_18 : (Jvm.Cond.lays "StandingsHall" "StandingsHall" "draft" "LStandingsHall$Order;") ∈ lw_tbl := z_in2 (List.mem_of_getElem? (i := 18) rfl)
theorem w2_20 : (Jvm.Cond.lays "StandingsHall" "StandingsHall" "errorPosition" "I") ∈ lw_tbl := z_in2 (List.mem_of_getElem? (i := 20) rfl)
theorem w2_22 : (Jvm.Cond.laysFinal "StandingsHall" "StandingsHall" "come" "Ljava/util/ArrayList;") ∈ lw_tbl := z_in2 (List.mem_of_getElem? (i := 22) rfl)
theorem w2_24 : (Jvm.Cond.laysFinal "StandingsHall" "StandingsHall" "standing" "LStandingsHall$Standing;") ∈ lw_tbl := z_in2 (List.mem_of_getElem? (i := 24) rfl)
theorem w2_26 : (Jvm.Cond.laysFinal "StandingsHall" "StandingsHall" "pointsRow" "LStandingsHall$PointsRow;") ∈ lw_tbl := z_in2 (List.mem_of_getElem? (i := 26) rfl)
theorem w2_28 : (Jvm.Cond.laysFinal "StandingsHall" "StandingsHall" "ladder" "LStandingsHall$Ladder;") ∈ lw_tbl := z_in2 (List.mem_of_getElem? (i := 28) rfl)
theorem w2_30 : (Jvm.Cond.lays "StandingsHall" "StandingsHall" "over" "I") ∈ lw_tbl := z_in2 (List.mem_of_getElem? (i := 30) rfl)
theorem w2_32 : (Jvm.Cond.laysFinal "StandingsHall" "StandingsHall" "trial" "LStandingsHall$Entrant;") ∈ lw_tbl := z_in2 (List.mem_of_getElem? (i := 32) rfl)
theorem w2_34 : (Jvm.Cond.laysFinal "StandingsHall" "StandingsHall" "latest" "[I") ∈ lw_tbl := z_in2 (List.mem_of_getElem? (i := 34) rfl)
theorem w2_36 : (Jvm.Cond.laysFinal "StandingsHall" "StandingsHall" "slots" "[I") ∈ lw_tbl := z_in2 (List.mem_of_getElem? (i := 36) rfl)
theorem w7_15 : (Jvm.Cond.lays "StandingsHallModel" "StandingsHallModel" "thrown" "I") ∈ lw_tbl := z_in7 (List.mem_of_getElem? (i := 15) rfl)
theorem w7_17 : (Jvm.Cond.laysFinal "StandingsHallModel" "StandingsHallModel" "tape" "[I") ∈ lw_tbl := z_in7 (List.mem_of_getElem? (i := 17) rfl)
theorem w7_19 : (Jvm.Cond.lays "StandingsHallModel" "StandingsHallModel" "tapeMany" "I") ∈ lw_tbl := z_in7 (List.mem_of_getElem? (i := 19) rfl)
theorem w7_21 : (Jvm.Cond.lays "StandingsHallModel" "StandingsHallModel" "errorAt" "I") ∈ lw_tbl := z_in7 (List.mem_of_getElem? (i := 21) rfl)
theorem w7_23 : (Jvm.Cond.lays "StandingsHallModel" "StandingsHallModel" "token" "I") ∈ lw_tbl := z_in7 (List.mem_of_getElem? (i := 23) rfl)
theorem w7_25 : (Jvm.Cond.lays "StandingsHallModel" "StandingsHallModel" "tokenAt" "I") ∈ lw_tbl := z_in7 (List.mem_of_getElem? (i := 25) rfl)
theorem w7_27 : (Jvm.Cond.lays "StandingsHallModel" "StandingsHallModel" "value" "I") ∈ lw_tbl := z_in7 (List.mem_of_getElem? (i := 27) rfl)
theorem w7_29 : (Jvm.Cond.lays "StandingsHallModel" "StandingsHallModel" "at" "I") ∈ lw_tbl := z_in7 (List.mem_of_getElem? (i := 29) rfl)
theorem w7_31 : (Jvm.Cond.laysFinal "StandingsHallModel" "StandingsHallModel" "factor" "[I") ∈ lw_tbl := z_in7 (List.mem_of_getElem? (i := 31) rfl)
theorem w7_33 : (Jvm.Cond.laysFinal "StandingsHallModel" "StandingsHallModel" "newFactor" "[I") ∈ lw_tbl := z_in7 (List.mem_of_getElem? (i := 33) rfl)
theorem w7_35 : (Jvm.Cond.laysFinal "StandingsHallModel" "StandingsHallModel" "isGreater" "[Z") ∈ lw_tbl := z_in7 (List.mem_of_getElem? (i := 35) rfl)
theorem w7_37 : (Jvm.Cond.laysFinal "StandingsHallModel" "StandingsHallModel" "isNewGreater" "[Z") ∈ lw_tbl := z_in7 (List.mem_of_getElem? (i := 37) rfl)
theorem w7_39 : (Jvm.Cond.lays "StandingsHallModel" "StandingsHallModel" "criteria" "I") ∈ lw_tbl := z_in7 (List.mem_of_getElem? (i := 39) rfl)
theorem w7_41 : (Jvm.Cond.lays "StandingsHallModel" "StandingsHallModel" "newCriteria" "I") ∈ lw_tbl := z_in7 (List.mem_of_getElem? (i := 41) rfl)
theorem w7_43 : (Jvm.Cond.laysFinal "StandingsHallModel" "StandingsHallModel" "score" "[I") ∈ lw_tbl := z_in7 (List.mem_of_getElem? (i := 43) rfl)
theorem w7_45 : (Jvm.Cond.laysFinal "StandingsHallModel" "StandingsHallModel" "group" "[I") ∈ lw_tbl := z_in7 (List.mem_of_getElem? (i := 45) rfl)
theorem w7_47 : (Jvm.Cond.laysFinal "StandingsHallModel" "StandingsHallModel" "since" "[I") ∈ lw_tbl := z_in7 (List.mem_of_getElem? (i := 47) rfl)
theorem w7_49 : (Jvm.Cond.laysFinal "StandingsHallModel" "StandingsHallModel" "begun" "[I") ∈ lw_tbl := z_in7 (List.mem_of_getElem? (i := 49) rfl)
theorem w7_51 : (Jvm.Cond.laysFinal "StandingsHallModel" "StandingsHallModel" "isThere" "[Z") ∈ lw_tbl := z_in7 (List.mem_of_getElem? (i := 51) rfl)
theorem w7_53 : (Jvm.Cond.lays "StandingsHallModel" "StandingsHallModel" "came" "I") ∈ lw_tbl := z_in7 (List.mem_of_getElem? (i := 53) rfl)
theorem w7_55 : (Jvm.Cond.lays "StandingsHallModel" "StandingsHallModel" "moments" "I") ∈ lw_tbl := z_in7 (List.mem_of_getElem? (i := 55) rfl)
theorem w7_57 : (Jvm.Cond.laysFinal "StandingsHallModel" "StandingsHallModel" "ladder" "[I") ∈ lw_tbl := z_in7 (List.mem_of_getElem? (i := 57) rfl)
theorem w7_59 : (Jvm.Cond.laysFinal "StandingsHallModel" "StandingsHallModel" "entered" "[I") ∈ lw_tbl := z_in7 (List.mem_of_getElem? (i := 59) rfl)
theorem w7_61 : (Jvm.Cond.laysFinal "StandingsHallModel" "StandingsHallModel" "played" "[I") ∈ lw_tbl := z_in7 (List.mem_of_getElem? (i := 61) rfl)
theorem w7_63 : (Jvm.Cond.laysFinal "StandingsHallModel" "StandingsHallModel" "looked" "[I") ∈ lw_tbl := z_in7 (List.mem_of_getElem? (i := 63) rfl)
theorem w7_65 : (Jvm.Cond.lays "StandingsHallModel" "StandingsHallModel" "ladderMany" "I") ∈ lw_tbl := z_in7 (List.mem_of_getElem? (i := 65) rfl)
theorem w7_67 : (Jvm.Cond.lays "StandingsHallModel" "StandingsHallModel" "reach" "I") ∈ lw_tbl := z_in7 (List.mem_of_getElem? (i := 67) rfl)
theorem w7_69 : (Jvm.Cond.lays "StandingsHallModel" "StandingsHallModel" "patience" "I") ∈ lw_tbl := z_in7 (List.mem_of_getElem? (i := 69) rfl)
theorem w7_71 : (Jvm.Cond.laysFinal "StandingsHallModel" "StandingsHallModel" "gains" "[I") ∈ lw_tbl := z_in7 (List.mem_of_getElem? (i := 71) rfl)
theorem w7_73 : (Jvm.Cond.laysFinal "StandingsHallModel" "StandingsHallModel" "places" "[I") ∈ lw_tbl := z_in7 (List.mem_of_getElem? (i := 73) rfl)
theorem w7_75 : (Jvm.Cond.lays "StandingsHallModel" "StandingsHallModel" "rounds" "I") ∈ lw_tbl := z_in7 (List.mem_of_getElem? (i := 75) rfl)
theorem w7_77 : (Jvm.Cond.laysFinal "StandingsHallModel" "StandingsHallModel" "row" "[I") ∈ lw_tbl := z_in7 (List.mem_of_getElem? (i := 77) rfl)
theorem w1_134 : (Jvm.Cond.lays "java/util/ArrayList" "java/util/AbstractList" "modCount" "I") ∈ lw_tbl := z_in1 (List.mem_of_getElem? (i := 134) rfl)
theorem w1_130 : (Jvm.Cond.lays "java/util/ArrayList" "java/util/ArrayList" "elementData" "[Ljava/lang/Object;") ∈ lw_tbl := z_in1 (List.mem_of_getElem? (i := 130) rfl)
theorem w1_132 : (Jvm.Cond.lays "java/util/ArrayList" "java/util/ArrayList" "size" "I") ∈ lw_tbl := z_in1 (List.mem_of_getElem? (i := 132) rfl)
theorem cX0 : z_cls 0 RX0 TX0 11 tyX0 := ⟨rfl, z_lays [⟨_, w1_216⟩, ⟨_, w1_218⟩, ⟨_, w1_220⟩, ⟨_, w1_222⟩, ⟨_, w1_224⟩, ⟨_, w1_226⟩, ⟨_, w1_228⟩, ⟨_, w1_230⟩, ⟨_, w1_232⟩, ⟨_, w1_234⟩, ⟨_, w1_236⟩] rfl, tyX0_ok, nmX0⟩
theorem cX1 : z_cls 1 RX1 TX1 3 tyX1 := ⟨rfl, z_lays [⟨_, w1_177⟩, ⟨_, w1_179⟩, ⟨_, w1_181⟩] rfl, tyX1_ok, nmX1⟩
theorem cX2 : z_cls 2 RX2 TX2 3 tyX2 := ⟨rfl, z_lays [⟨_, w1_92⟩, ⟨_, w1_94⟩, ⟨_, w1_96⟩] rfl, tyX2_ok, nmX2⟩
theorem cX3 : z_cls 3 RX3 TX3 6 tyX3 := ⟨rfl, z_lays [⟨_, w1_69⟩, ⟨_, w1_71⟩, ⟨_, w1_73⟩, ⟨_, w1_75⟩, ⟨_, w1_77⟩, ⟨_, w1_79⟩] rfl, tyX3_ok, nmX3⟩
theorem cX4 : z_cls 4 RX4 TX4 1 tyX4 := ⟨rfl, z_lays [⟨_, w1_160⟩] rfl, tyX4_ok, nmX4⟩
theorem cX5 : z_cls 5 RX5 TX5 1 tyX5 := ⟨rfl, z_lays [⟨_, w1_147⟩] rfl, tyX5_ok, nmX5⟩
theorem cX6 : z_cls 6 RX6 TX6 2 tyX6 := ⟨rfl, z_lays [⟨_, w1_50⟩, ⟨_, w1_52⟩] rfl, tyX6_ok, nmX6⟩
theorem cX7 : z_cls 7 RX7 TX7 13 tyX7 := ⟨rfl, z_lays [⟨_, w2_12⟩, ⟨_, w2_14⟩, ⟨_, w2_16⟩, ⟨_, w2_18⟩, ⟨_, w2_20⟩, ⟨_, w2_22⟩, ⟨_, w2_24⟩, ⟨_, w2_26⟩, ⟨_, w2_28⟩, ⟨_, w2_30⟩, ⟨_, w2_32⟩, ⟨_, w2_34⟩, ⟨_, w2_36⟩] rfl, tyX7_ok, nmX7⟩
theorem cX8 : z_cls 8 RX8 TX8 32 tyX8 := ⟨rfl, z_lays [⟨_, w7_15⟩, ⟨_, w7_17⟩, ⟨_, w7_19⟩, ⟨_, w7_21⟩, ⟨_, w7_23⟩, ⟨_, w7_25⟩, ⟨_, w7_27⟩, ⟨_, w7_29⟩, ⟨_, w7_31⟩, ⟨_, w7_33⟩, ⟨_, w7_35⟩, ⟨_, w7_37⟩, ⟨_, w7_39⟩, ⟨_, w7_41⟩, ⟨_, w7_43⟩, ⟨_, w7_45⟩, ⟨_, w7_47⟩, ⟨_, w7_49⟩, ⟨_, w7_51⟩, ⟨_, w7_53⟩, ⟨_, w7_55⟩, ⟨_, w7_57⟩, ⟨_, w7_59⟩, ⟨_, w7_61⟩, ⟨_, w7_63⟩, ⟨_, w7_65⟩, ⟨_, w7_67⟩, ⟨_, w7_69⟩, ⟨_, w7_71⟩, ⟨_, w7_73⟩, ⟨_, w7_75⟩, ⟨_, w7_77⟩] rfl, tyX8_ok, nmX8⟩
theorem cJx4a65c : z_cls 9 RJx4a65c TJx4a65c 3 tyJx4a65c := ⟨rfl, z_lays [⟨_, w1_134⟩, ⟨_, w1_130⟩, ⟨_, w1_132⟩] rfl, tyJx4a65c_ok, nmJx4a65c⟩
theorem fJx4a65c_9 : z_fd "java/util/ArrayList" 9 9 1 (.array (.object "java/lang/Object")) false := ⟨_, _, _, _, _, cJx4a65c, by decide, rfl, rfl, (fun h => by cases h), Or.inl w1_125, Or.inl rfl⟩
theorem fJx4a65c_63 : z_fd "java/util/ArrayList" 63 9 0 .int false := ⟨_, _, _, _, _, cJx4a65c, by decide, rfl, rfl, (fun h => by cases h), Or.inl w1_128, Or.inr w1_129⟩
theorem fJx4a65c_48 : z_fd "java/util/ArrayList" 48 9 2 .int false := ⟨_, _, _, _, _, cJx4a65c, by decide, rfl, rfl, (fun h => by cases h), Or.inl w1_126, Or.inl rfl⟩
theorem fJxc12de_7 : z_fd "java/util/AbstractList" 7 9 0 .int false := ⟨_, _, _, _, _, cJx4a65c, by decide, rfl, rfl, (fun h => by cases h), Or.inl w1_127, Or.inl rfl⟩
theorem fX0_9 : z_fd "StandingsHall$Entrant" 9 0 3 (.array .int) true := ⟨_, _, _, _, _, cX0, by decide, rfl, rfl, (fun _ => rfl), Or.inl w1_201, Or.inl rfl⟩
theorem fX0_15 : z_fd "StandingsHall$Entrant" 15 0 4 (.array .int) true := ⟨_, _, _, _, _, cX0, by decide, rfl, rfl, (fun _ => rfl), Or.inl w1_202, Or.inl rfl⟩
theorem fX0_18 : z_fd "StandingsHall$Entrant" 18 0 7 (.array .int) true := ⟨_, _, _, _, _, cX0, by decide, rfl, rfl, (fun _ => rfl), Or.inl w1_209, Or.inl rfl⟩
theorem fX0_21 : z_fd "StandingsHall$Entrant" 21 0 8 (.array .int) true := ⟨_, _, _, _, _, cX0, by decide, rfl, rfl, (fun _ => rfl), Or.inl w1_210, Or.inl rfl⟩
theorem fX0_24 : z_fd "StandingsHall$Entrant" 24 0 0 .int false := ⟨_, _, _, _, _, cX0, by decide, rfl, rfl, (fun h => by cases h), Or.inl w1_193, Or.inl rfl⟩
theorem fX0_28 : z_fd "StandingsHall$Entrant" 28 0 1 .int true := ⟨_, _, _, _, _, cX0, by decide, rfl, rfl, (fun _ => rfl), Or.inl w1_196, Or.inl rfl⟩
theorem fX0_31 : z_fd "StandingsHall$Entrant" 31 0 2 .boolean false := ⟨_, _, _, _, _, cX0, by decide, rfl, rfl, (fun h => by cases h), Or.inl w1_199, Or.inl rfl⟩
theorem fX0_35 : z_fd "StandingsHall$Entrant" 35 0 5 .int false := ⟨_, _, _, _, _, cX0, by decide, rfl, rfl, (fun h => by cases h), Or.inl w1_204, Or.inl rfl⟩
theorem fX0_44 : z_fd "StandingsHall$Entrant" 44 0 9 .int false := ⟨_, _, _, _, _, cX0, by decide, rfl, rfl, (fun h => by cases h), Or.inl w1_211, Or.inl rfl⟩
theorem fX0_47 : z_fd "StandingsHall$Entrant" 47 0 10 .int false := ⟨_, _, _, _, _, cX0, by decide, rfl, rfl, (fun h => by cases h), Or.inl w1_213, Or.inl rfl⟩
theorem fX0_60 : z_fd "StandingsHall$Entrant" 60 0 6 .int false := ⟨_, _, _, _, _, cX0, by decide, rfl, rfl, (fun h => by cases h), Or.inl w1_207, Or.inl rfl⟩
theorem fX1_12 : z_fd "StandingsHall$Ladder" 12 1 0 (.object "java/util/ArrayList") true := ⟨_, _, _, _, _, cX1, by decide, rfl, rfl, (fun _ => rfl), Or.inl w1_171, Or.inl rfl⟩
theorem fX1_18 : z_fd "StandingsHall$Ladder" 18 1 1 .int false := ⟨_, _, _, _, _, cX1, by decide, rfl, rfl, (fun h => by cases h), Or.inl w1_173, Or.inl rfl⟩
theorem fX1_22 : z_fd "StandingsHall$Ladder" 22 1 2 .int false := ⟨_, _, _, _, _, cX1, by decide, rfl, rfl, (fun h => by cases h), Or.inl w1_175, Or.inl rfl⟩
theorem fX1_25 : z_fd "StandingsHall$Ladder" 25 0 9 .int false := ⟨_, _, _, _, _, cX0, by decide, rfl, rfl, (fun h => by cases h), Or.inr ⟨rfl, _, w1_212⟩, Or.inl rfl⟩
theorem fX1_52 : z_fd "StandingsHall$Ladder" 52 0 10 .int false := ⟨_, _, _, _, _, cX0, by decide, rfl, rfl, (fun h => by cases h), Or.inr ⟨rfl, _, w1_214⟩, Or.inl rfl⟩
theorem fX2_9 : z_fd "StandingsHall$Order" 9 2 0 (.array .int) true := ⟨_, _, _, _, _, cX2, by decide, rfl, rfl, (fun _ => rfl), Or.inl w1_88, Or.inl rfl⟩
theorem fX2_15 : z_fd "StandingsHall$Order" 15 2 1 (.array .int) true := ⟨_, _, _, _, _, cX2, by decide, rfl, rfl, (fun _ => rfl), Or.inl w1_89, Or.inl rfl⟩
theorem fX2_24 : z_fd "StandingsHall$Order" 24 2 2 .int false := ⟨_, _, _, _, _, cX2, by decide, rfl, rfl, (fun h => by cases h), Or.inl w1_90, Or.inl rfl⟩
theorem fX2_38 : z_fdN "StandingsHall$Order" 38 0 4 := ⟨_, _, _, _, _, cX0, by decide, _, w1_203, Or.inl rfl⟩
theorem fX3_9 : z_fd "StandingsHall$OrderReader" 9 3 0 (.object "StandingsHall$Tape") true := ⟨_, _, _, _, _, cX3, by decide, rfl, rfl, (fun _ => rfl), Or.inl w1_62, Or.inl rfl⟩
theorem fX3_20 : z_fd "StandingsHall$OrderReader" 20 3 3 .int false := ⟨_, _, _, _, _, cX3, by decide, rfl, rfl, (fun h => by cases h), Or.inl w1_66, Or.inl rfl⟩
theorem fX3_31 : z_fd "StandingsHall$OrderReader" 31 3 1 .int false := ⟨_, _, _, _, _, cX3, by decide, rfl, rfl, (fun h => by cases h), Or.inl w1_63, Or.inl rfl⟩
theorem fX3_42 : z_fd "StandingsHall$OrderReader" 42 3 4 .int false := ⟨_, _, _, _, _, cX3, by decide, rfl, rfl, (fun h => by cases h), Or.inl w1_67, Or.inl rfl⟩
theorem fX3_45 : z_fd "StandingsHall$OrderReader" 45 3 5 .int false := ⟨_, _, _, _, _, cX3, by decide, rfl, rfl, (fun h => by cases h), Or.inl w1_68, Or.inl rfl⟩
theorem fX3_52 : z_fd "StandingsHall$OrderReader" 52 3 2 .int false := ⟨_, _, _, _, _, cX3, by decide, rfl, rfl, (fun h => by cases h), Or.inl w1_65, Or.inl rfl⟩
theorem fX4_10 : z_fd "StandingsHall$PointsRow" 10 4 0 (.object "java/util/ArrayList") true := ⟨_, _, _, _, _, cX4, by decide, rfl, rfl, (fun _ => rfl), Or.inl w1_158, Or.inl rfl⟩
theorem fX5_12 : z_fd "StandingsHall$Standing" 12 5 0 (.object "java/util/ArrayList") true := ⟨_, _, _, _, _, cX5, by decide, rfl, rfl, (fun _ => rfl), Or.inl w1_145, Or.inl rfl⟩
theorem fX5_39 : z_fd "StandingsHall$Standing" 39 0 5 .int false := ⟨_, _, _, _, _, cX0, by decide, rfl, rfl, (fun h => by cases h), Or.inr ⟨rfl, _, w1_205⟩, Or.inl rfl⟩
theorem fX5_46 : z_fd "StandingsHall$Standing" 46 0 0 .int false := ⟨_, _, _, _, _, cX0, by decide, rfl, rfl, (fun h => by cases h), Or.inr ⟨rfl, _, w1_194⟩, Or.inl rfl⟩
theorem fX5_66 : z_fdN "StandingsHall$Standing" 66 0 1 := ⟨_, _, _, _, _, cX0, by decide, _, w1_198, Or.inl rfl⟩
theorem fX6_9 : z_fd "StandingsHall$Tape" 9 6 0 (.array .int) true := ⟨_, _, _, _, _, cX6, by decide, rfl, rfl, (fun _ => rfl), Or.inl w1_47, Or.inl rfl⟩
theorem fX6_15 : z_fd "StandingsHall$Tape" 15 6 1 .int false := ⟨_, _, _, _, _, cX6, by decide, rfl, rfl, (fun h => by cases h), Or.inl w1_49, Or.inl rfl⟩
theorem fX7_10 : z_fd "StandingsHall" 10 7 0 (.object "StandingsHall$Tape") true := ⟨_, _, _, _, _, cX7, by decide, rfl, rfl, (fun _ => rfl), Or.inl w1_239, Or.inl rfl⟩
theorem fX7_21 : z_fd "StandingsHall" 21 7 1 (.object "StandingsHall$OrderReader") true := ⟨_, _, _, _, _, cX7, by decide, rfl, rfl, (fun _ => rfl), Or.inl w2_0, Or.inl rfl⟩
theorem fX7_28 : z_fd "StandingsHall" 28 7 2 (.object "StandingsHall$Order") false := ⟨_, _, _, _, _, cX7, by decide, rfl, rfl, (fun h => by cases h), Or.inl w2_1, Or.inl rfl⟩
theorem fX7_32 : z_fd "StandingsHall" 32 7 3 (.object "StandingsHall$Order") false := ⟨_, _, _, _, _, cX7, by decide, rfl, rfl, (fun h => by cases h), Or.inl w2_2, Or.inl rfl⟩
theorem fX7_43 : z_fd "StandingsHall" 43 7 4 .int false := ⟨_, _, _, _, _, cX7, by decide, rfl, rfl, (fun h => by cases h), Or.inl w2_3, Or.inl rfl⟩
theorem fX7_50 : z_fd "StandingsHall" 50 7 5 (.object "java/util/ArrayList") true := ⟨_, _, _, _, _, cX7, by decide, rfl, rfl, (fun _ => rfl), Or.inl w2_4, Or.inl rfl⟩
theorem fX7_57 : z_fd "StandingsHall" 57 7 6 (.object "StandingsHall$Standing") true := ⟨_, _, _, _, _, cX7, by decide, rfl, rfl, (fun _ => rfl), Or.inl w2_5, Or.inl rfl⟩
theorem fX7_64 : z_fd "StandingsHall" 64 7 7 (.object "StandingsHall$PointsRow") true := ⟨_, _, _, _, _, cX7, by decide, rfl, rfl, (fun _ => rfl), Or.inl w2_6, Or.inl rfl⟩
theorem fX7_71 : z_fd "StandingsHall" 71 7 8 (.object "StandingsHall$Ladder") true := ⟨_, _, _, _, _, cX7, by decide, rfl, rfl, (fun _ => rfl), Or.inl w2_7, Or.inl rfl⟩
theorem fX7_79 : z_fd "StandingsHall" 79 7 10 (.object "StandingsHall$Entrant") true := ⟨_, _, _, _, _, cX7, by decide, rfl, rfl, (fun _ => rfl), Or.inl w2_9, Or.inl rfl⟩
theorem fX7_83 : z_fd "StandingsHall" 83 7 11 (.array .int) true := ⟨_, _, _, _, _, cX7, by decide, rfl, rfl, (fun _ => rfl), Or.inl w2_10, Or.inl rfl⟩
theorem fX7_87 : z_fd "StandingsHall" 87 7 12 (.array .int) true := ⟨_, _, _, _, _, cX7, by decide, rfl, rfl, (fun _ => rfl), Or.inl w2_11, Or.inl rfl⟩
theorem fX7_94 : z_fd "StandingsHall" 94 6 1 .int false := ⟨_, _, _, _, _, cX6, by decide, rfl, rfl, (fun h => by cases h), Or.inr ⟨rfl, _, w1_48⟩, Or.inl rfl⟩
theorem fX7_112 : z_fd "StandingsHall" 112 3 2 .int false := ⟨_, _, _, _, _, cX3, by decide, rfl, rfl, (fun h => by cases h), Or.inr ⟨rfl, _, w1_64⟩, Or.inl rfl⟩
theorem fX7_123 : z_fd "StandingsHall" 123 2 2 .int false := ⟨_, _, _, _, _, cX2, by decide, rfl, rfl, (fun h => by cases h), Or.inr ⟨rfl, _, w1_91⟩, Or.inl rfl⟩
theorem fX7_157 : z_fd "StandingsHall" 157 0 5 .int false := ⟨_, _, _, _, _, cX0, by decide, rfl, rfl, (fun h => by cases h), Or.inr ⟨rfl, _, w1_206⟩, Or.inl rfl⟩
theorem fX7_165 : z_fd "StandingsHall" 165 0 2 .boolean false := ⟨_, _, _, _, _, cX0, by decide, rfl, rfl, (fun h => by cases h), Or.inr ⟨rfl, _, w1_200⟩, Or.inl rfl⟩
theorem fX7_187 : z_fdN "StandingsHall" 187 0 1 := ⟨_, _, _, _, _, cX0, by decide, _, w1_197, Or.inl rfl⟩
theorem fX7_190 : z_fdN "StandingsHall" 190 5 0 := ⟨_, _, _, _, _, cX5, by decide, _, w1_146, Or.inl rfl⟩
theorem fX7_202 : z_fd "StandingsHall" 202 0 0 .int false := ⟨_, _, _, _, _, cX0, by decide, rfl, rfl, (fun h => by cases h), Or.inr ⟨rfl, _, w1_195⟩, Or.inl rfl⟩
theorem fX7_247 : z_fdN "StandingsHall" 247 4 0 := ⟨_, _, _, _, _, cX4, by decide, _, w1_159, Or.inl rfl⟩
theorem fX7_281 : z_fd "StandingsHall" 281 7 9 .int false := ⟨_, _, _, _, _, cX7, by decide, rfl, rfl, (fun h => by cases h), Or.inl w2_8, Or.inl rfl⟩
theorem fX7_287 : z_fdN "StandingsHall" 287 1 0 := ⟨_, _, _, _, _, cX1, by decide, _, w1_172, Or.inl rfl⟩
theorem fX7_288 : z_fd "StandingsHall" 288 1 1 .int false := ⟨_, _, _, _, _, cX1, by decide, rfl, rfl, (fun h => by cases h), Or.inr ⟨rfl, _, w1_174⟩, Or.inl rfl⟩
theorem fX7_293 : z_fd "StandingsHall" 293 0 10 .int false := ⟨_, _, _, _, _, cX0, by decide, rfl, rfl, (fun h => by cases h), Or.inr ⟨rfl, _, w1_215⟩, Or.inl rfl⟩
theorem fX7_303 : z_fd "StandingsHall" 303 1 2 .int false := ⟨_, _, _, _, _, cX1, by decide, rfl, rfl, (fun h => by cases h), Or.inr ⟨rfl, _, w1_176⟩, Or.inl rfl⟩
theorem fX7_314 : z_fd "StandingsHall" 314 0 6 .int false := ⟨_, _, _, _, _, cX0, by decide, rfl, rfl, (fun h => by cases h), Or.inr ⟨rfl, _, w1_208⟩, Or.inl rfl⟩
theorem fX8_1 : z_fd "StandingsHallModel" 1 8 0 .int false := ⟨_, _, _, _, _, cX8, by decide, rfl, rfl, (fun h => by cases h), Or.inl w6_223, Or.inl rfl⟩
theorem fX8_13 : z_fd "StandingsHallModel" 13 8 1 (.array .int) true := ⟨_, _, _, _, _, cX8, by decide, rfl, rfl, (fun _ => rfl), Or.inl w6_224, Or.inl rfl⟩
theorem fX8_17 : z_fd "StandingsHallModel" 17 8 3 .int false := ⟨_, _, _, _, _, cX8, by decide, rfl, rfl, (fun h => by cases h), Or.inl w6_226, Or.inl rfl⟩
theorem fX8_20 : z_fd "StandingsHallModel" 20 8 8 (.array .int) true := ⟨_, _, _, _, _, cX8, by decide, rfl, rfl, (fun _ => rfl), Or.inl w6_231, Or.inl rfl⟩
theorem fX8_23 : z_fd "StandingsHallModel" 23 8 9 (.array .int) true := ⟨_, _, _, _, _, cX8, by decide, rfl, rfl, (fun _ => rfl), Or.inl w6_232, Or.inl rfl⟩
theorem fX8_26 : z_fd "StandingsHallModel" 26 8 10 (.array .boolean) true := ⟨_, _, _, _, _, cX8, by decide, rfl, rfl, (fun _ => rfl), Or.inl w6_233, Or.inl rfl⟩
theorem fX8_30 : z_fd "StandingsHallModel" 30 8 11 (.array .boolean) true := ⟨_, _, _, _, _, cX8, by decide, rfl, rfl, (fun _ => rfl), Or.inl w6_234, Or.inl rfl⟩
theorem fX8_33 : z_fd "StandingsHallModel" 33 8 14 (.array .int) true := ⟨_, _, _, _, _, cX8, by decide, rfl, rfl, (fun _ => rfl), Or.inl w6_237, Or.inl rfl⟩
theorem fX8_36 : z_fd "StandingsHallModel" 36 8 15 (.array .int) true := ⟨_, _, _, _, _, cX8, by decide, rfl, rfl, (fun _ => rfl), Or.inl w6_238, Or.inl rfl⟩
theorem fX8_39 : z_fd "StandingsHallModel" 39 8 16 (.array .int) true := ⟨_, _, _, _, _, cX8, by decide, rfl, rfl, (fun _ => rfl), Or.inl w6_239, Or.inl rfl⟩
theorem fX8_42 : z_fd "StandingsHallModel" 42 8 17 (.array .int) true := ⟨_, _, _, _, _, cX8, by decide, rfl, rfl, (fun _ => rfl), Or.inl w7_0, Or.inl rfl⟩
theorem fX8_45 : z_fd "StandingsHallModel" 45 8 18 (.array .boolean) true := ⟨_, _, _, _, _, cX8, by decide, rfl, rfl, (fun _ => rfl), Or.inl w7_1, Or.inl rfl⟩
theorem fX8_48 : z_fd "StandingsHallModel" 48 8 21 (.array .int) true := ⟨_, _, _, _, _, cX8, by decide, rfl, rfl, (fun _ => rfl), Or.inl w7_4, Or.inl rfl⟩
theorem fX8_51 : z_fd "StandingsHallModel" 51 8 22 (.array .int) true := ⟨_, _, _, _, _, cX8, by decide, rfl, rfl, (fun _ => rfl), Or.inl w7_5, Or.inl rfl⟩
theorem fX8_54 : z_fd "StandingsHallModel" 54 8 23 (.array .int) true := ⟨_, _, _, _, _, cX8, by decide, rfl, rfl, (fun _ => rfl), Or.inl w7_6, Or.inl rfl⟩
theorem fX8_57 : z_fd "StandingsHallModel" 57 8 24 (.array .int) true := ⟨_, _, _, _, _, cX8, by decide, rfl, rfl, (fun _ => rfl), Or.inl w7_7, Or.inl rfl⟩
theorem fX8_60 : z_fd "StandingsHallModel" 60 8 26 .int false := ⟨_, _, _, _, _, cX8, by decide, rfl, rfl, (fun h => by cases h), Or.inl w7_9, Or.inl rfl⟩
theorem fX8_63 : z_fd "StandingsHallModel" 63 8 27 .int false := ⟨_, _, _, _, _, cX8, by decide, rfl, rfl, (fun h => by cases h), Or.inl w7_10, Or.inl rfl⟩
theorem fX8_66 : z_fd "StandingsHallModel" 66 8 28 (.array .int) true := ⟨_, _, _, _, _, cX8, by decide, rfl, rfl, (fun _ => rfl), Or.inl w7_11, Or.inl rfl⟩
theorem fX8_69 : z_fd "StandingsHallModel" 69 8 29 (.array .int) true := ⟨_, _, _, _, _, cX8, by decide, rfl, rfl, (fun _ => rfl), Or.inl w7_12, Or.inl rfl⟩
theorem fX8_72 : z_fd "StandingsHallModel" 72 8 31 (.array .int) true := ⟨_, _, _, _, _, cX8, by decide, rfl, rfl, (fun _ => rfl), Or.inl w7_14, Or.inl rfl⟩
theorem fX8_75 : z_fd "StandingsHallModel" 75 8 12 .int false := ⟨_, _, _, _, _, cX8, by decide, rfl, rfl, (fun h => by cases h), Or.inl w6_235, Or.inl rfl⟩
theorem fX8_78 : z_fd "StandingsHallModel" 78 8 2 .int false := ⟨_, _, _, _, _, cX8, by decide, rfl, rfl, (fun h => by cases h), Or.inl w6_225, Or.inl rfl⟩
theorem fX8_93 : z_fd "StandingsHallModel" 93 8 7 .int false := ⟨_, _, _, _, _, cX8, by decide, rfl, rfl, (fun h => by cases h), Or.inl w6_230, Or.inl rfl⟩
theorem fX8_96 : z_fd "StandingsHallModel" 96 8 5 .int false := ⟨_, _, _, _, _, cX8, by decide, rfl, rfl, (fun h => by cases h), Or.inl w6_228, Or.inl rfl⟩
theorem fX8_99 : z_fd "StandingsHallModel" 99 8 4 .int false := ⟨_, _, _, _, _, cX8, by decide, rfl, rfl, (fun h => by cases h), Or.inl w6_227, Or.inl rfl⟩
theorem fX8_106 : z_fd "StandingsHallModel" 106 8 6 .int false := ⟨_, _, _, _, _, cX8, by decide, rfl, rfl, (fun h => by cases h), Or.inl w6_229, Or.inl rfl⟩
theorem fX8_119 : z_fd "StandingsHallModel" 119 8 13 .int false := ⟨_, _, _, _, _, cX8, by decide, rfl, rfl, (fun h => by cases h), Or.inl w6_236, Or.inl rfl⟩
theorem fX8_132 : z_fd "StandingsHallModel" 132 8 19 .int false := ⟨_, _, _, _, _, cX8, by decide, rfl, rfl, (fun h => by cases h), Or.inl w7_2, Or.inl rfl⟩
theorem fX8_145 : z_fd "StandingsHallModel" 145 8 20 .int false := ⟨_, _, _, _, _, cX8, by decide, rfl, rfl, (fun h => by cases h), Or.inl w7_3, Or.inl rfl⟩
theorem fX8_154 : z_fd "StandingsHallModel" 154 8 25 .int false := ⟨_, _, _, _, _, cX8, by decide, rfl, rfl, (fun h => by cases h), Or.inl w7_8, Or.inl rfl⟩
theorem fX8_205 : z_fd "StandingsHallModel" 205 8 30 .int false := ⟨_, _, _, _, _, cX8, by decide, rfl, rfl, (fun h => by cases h), Or.inl w7_13, Or.inl rfl⟩
def mJx4a65c_init_da8c8 : z_M := (yJx4a65c_init_da8c8, cJx4a65c_init_da8c8, 1, none)
theorem tJx4a65c_init_da8c8 : z_mt mJx4a65c_init_da8c8 0 := ⟨w1_115, w1_7, ⟨by decide, by decide⟩, by decide +kernel, by decide⟩
theorem pJx4a65c_init_da8c8 : plainFor mJx4a65c_init_da8c8.1 = true := by decide +kernel
theorem iJx4a65c_init_da8c8 : (mJx4a65c_init_da8c8.1.name = "<init>" ∧ mJx4a65c_init_da8c8.2.2.2 = none) ∧ Cond.instanceMethod mJx4a65c_init_da8c8.1 ∈ lw_tbl := ⟨⟨rfl, rfl⟩, w1_114⟩
def mJxc12de_init_da8c8 : z_M := (yJxc12de_init_da8c8, cJxc12de_init_da8c8, 1, none)
theorem tJxc12de_init_da8c8 : z_mt mJxc12de_init_da8c8 0 := ⟨w1_118, w1_6, ⟨by decide, by decide⟩, by decide +kernel, by decide⟩
theorem pJxc12de_init_da8c8 : plainFor mJxc12de_init_da8c8.1 = true := by decide +kernel
theorem iJxc12de_init_da8c8 : (mJxc12de_init_da8c8.1.name = "<init>" ∧ mJxc12de_init_da8c8.2.2.2 = none) ∧ Cond.instanceMethod mJxc12de_init_da8c8.1 ∈ lw_tbl := ⟨⟨rfl, rfl⟩, w1_117⟩
def mJx4a65c_add_7a177 : z_M := (yJx4a65c_add_7a177, cJx4a65c_add_7a177, 5, none)
theorem tJx4a65c_add_7a177 : z_mt mJx4a65c_add_7a177 2 := ⟨w3_141, w1_7, ⟨by decide, by decide⟩, by decide +kernel, by decide⟩
theorem pJx4a65c_add_7a177 : plainFor mJx4a65c_add_7a177.1 = true := by decide +kernel
theorem vJx4a65c_add_7a177 : z_mv mJx4a65c_add_7a177 9 := ⟨w3_139, w3_140, ⟨(TJx4a65c, 3), rfl⟩⟩
def mJx4a65c_rangeCheckForAdd_d00df : z_M := (yJx4a65c_rangeCheckForAdd_d00df, cJx4a65c_rangeCheckForAdd_d00df, 2, none)
theorem tJx4a65c_rangeCheckForAdd_d00df : z_mt mJx4a65c_rangeCheckForAdd_d00df 1 := ⟨w3_145, w1_7, ⟨by decide, by decide⟩, by decide +kernel, by decide⟩
theorem pJx4a65c_rangeCheckForAdd_d00df : plainFor mJx4a65c_rangeCheckForAdd_d00df.1 = true := by decide +kernel
theorem vJx4a65c_rangeCheckForAdd_d00df : z_mv mJx4a65c_rangeCheckForAdd_d00df 9 := ⟨w3_144, wS43, ⟨(TJx4a65c, 3), rfl⟩⟩
def mJx4a65c_grow_d5877 : z_M := (yJx4a65c_grow_d5877, cJx4a65c_grow_d5877, 1, some (.array (.object "java/lang/Object")))
theorem tJx4a65c_grow_d5877 : z_mt mJx4a65c_grow_d5877 0 := ⟨w4_174, w1_7, ⟨by decide, by decide⟩, by decide +kernel, by decide⟩
theorem pJx4a65c_grow_d5877 : plainFor mJx4a65c_grow_d5877.1 = true := by decide +kernel
theorem vJx4a65c_grow_d5877 : z_mv mJx4a65c_grow_d5877 9 := ⟨w4_173, wS45, ⟨(TJx4a65c, 3), rfl⟩⟩
def mJx4a65c_add_9ea2d : z_M := (yJx4a65c_add_9ea2d, cJx4a65c_add_9ea2d, 2, some .boolean)
theorem tJx4a65c_add_9ea2d : z_mt mJx4a65c_add_9ea2d 1 := ⟨w5_9, w1_7, ⟨by decide, by decide⟩, by decide +kernel, by decide⟩
theorem pJx4a65c_add_9ea2d : plainFor mJx4a65c_add_9ea2d.1 = true := by decide +kernel
theorem vJx4a65c_add_9ea2d : z_mv mJx4a65c_add_9ea2d 9 := ⟨w5_7, w5_8, ⟨(TJx4a65c, 3), rfl⟩⟩
def mJx4a65c_add_72be8 : z_M := (yJx4a65c_add_72be8, cJx4a65c_add_72be8, 4, none)
theorem tJx4a65c_add_72be8 : z_mt mJx4a65c_add_72be8 3 := ⟨w5_13, w1_7, ⟨by decide, by decide⟩, by decide +kernel, by decide⟩
theorem pJx4a65c_add_72be8 : plainFor mJx4a65c_add_72be8.1 = true := by decide +kernel
theorem vJx4a65c_add_72be8 : z_mv mJx4a65c_add_72be8 9 := ⟨w5_12, wS50, ⟨(TJx4a65c, 3), rfl⟩⟩
def mJx4a65c_clear_da8c8 : z_M := (yJx4a65c_clear_da8c8, cJx4a65c_clear_da8c8, 4, none)
theorem tJx4a65c_clear_da8c8 : z_mt mJx4a65c_clear_da8c8 0 := ⟨w3_133, w1_7, ⟨by decide, by decide⟩, by decide +kernel, by decide⟩
theorem pJx4a65c_clear_da8c8 : plainFor mJx4a65c_clear_da8c8.1 = true := by decide +kernel
theorem vJx4a65c_clear_da8c8 : z_mv mJx4a65c_clear_da8c8 9 := ⟨w3_131, w3_132, ⟨(TJx4a65c, 3), rfl⟩⟩
def mJx4a65c_elementData_915e3 : z_M := (yJx4a65c_elementData_915e3, cJx4a65c_elementData_915e3, 2, some (.object "java/lang/Object"))
theorem tJx4a65c_elementData_915e3 : z_mt mJx4a65c_elementData_915e3 1 := ⟨w2_81, w1_7, ⟨by decide, by decide⟩, by decide +kernel, by decide⟩
theorem pJx4a65c_elementData_915e3 : plainFor mJx4a65c_elementData_915e3.1 = true := by decide +kernel
theorem vJx4a65c_elementData_915e3 : z_mv mJx4a65c_elementData_915e3 9 := ⟨w2_79, w2_80, ⟨(TJx4a65c, 3), rfl⟩⟩
def mJx4a65c_fastRemove_b59b0 : z_M := (yJx4a65c_fastRemove_b59b0, cJx4a65c_fastRemove_b59b0, 4, none)
theorem tJx4a65c_fastRemove_b59b0 : z_mt mJx4a65c_fastRemove_b59b0 2 := ⟨w5_38, w1_7, ⟨by decide, by decide⟩, by decide +kernel, by decide⟩
theorem pJx4a65c_fastRemove_b59b0 : plainFor mJx4a65c_fastRemove_b59b0.1 = true := by decide +kernel
theorem vJx4a65c_fastRemove_b59b0 : z_mv mJx4a65c_fastRemove_b59b0 9 := ⟨w5_37, wS53, ⟨(TJx4a65c, 3), rfl⟩⟩
def mJx4a65c_get_915e3 : z_M := (yJx4a65c_get_915e3, cJx4a65c_get_915e3, 2, some (.object "java/lang/Object"))
theorem tJx4a65c_get_915e3 : z_mt mJx4a65c_get_915e3 1 := ⟨w2_71, w1_7, ⟨by decide, by decide⟩, by decide +kernel, by decide⟩
theorem pJx4a65c_get_915e3 : plainFor mJx4a65c_get_915e3.1 = true := by decide +kernel
theorem vJx4a65c_get_915e3 : z_mv mJx4a65c_get_915e3 9 := ⟨w2_69, w2_70, ⟨(TJx4a65c, 3), rfl⟩⟩
def mJ15_checkIndex_7cf53 : z_M := (yJ15_checkIndex_7cf53, cJ15_checkIndex_7cf53, 2, some .int)
theorem tJ15_checkIndex_7cf53 : z_mt mJ15_checkIndex_7cf53 2 := ⟨w2_74, w1_19, ⟨by decide, by decide⟩, by decide +kernel, by decide⟩
theorem pJ15_checkIndex_7cf53 : plainFor mJ15_checkIndex_7cf53.1 = true := by decide +kernel
theorem sJ15_checkIndex_7cf53 : Cond.static mJ15_checkIndex_7cf53.1 ∈ lw_tbl := w2_73
def mJx4a65c_grow_92f84 : z_M := (yJx4a65c_grow_92f84, cJx4a65c_grow_92f84, 4, some (.array (.object "java/lang/Object")))
theorem tJx4a65c_grow_92f84 : z_mt mJx4a65c_grow_92f84 1 := ⟨w4_178, w1_7, ⟨by decide, by decide⟩, by decide +kernel, by decide⟩
theorem pJx4a65c_grow_92f84 : plainFor mJx4a65c_grow_92f84.1 = true := by decide +kernel
theorem vJx4a65c_grow_92f84 : z_mv mJx4a65c_grow_92f84 9 := ⟨w4_177, wS46, ⟨(TJx4a65c, 3), rfl⟩⟩
def mJ8_newLength_cabcc : z_M := (yJ8_newLength_cabcc, cJ8_newLength_cabcc, 4, some .int)
theorem tJ8_newLength_cabcc : z_mt mJ8_newLength_cabcc 3 := ⟨w3_212, w1_26, ⟨by decide, by decide⟩, by decide +kernel, by decide⟩
theorem pJ8_newLength_cabcc : plainFor mJ8_newLength_cabcc.1 = true := by decide +kernel
theorem sJ8_newLength_cabcc : Cond.static mJ8_newLength_cabcc.1 ∈ lw_tbl := w3_211
def mJ7_copyOf_1904c : z_M := (yJ7_copyOf_1904c, cJ7_copyOf_1904c, 2, some (.array (.object "java/lang/Object")))
theorem tJ7_copyOf_1904c : z_mt mJ7_copyOf_1904c 2 := ⟨w4_182, w1_12, ⟨by decide, by decide⟩, by decide +kernel, by decide⟩
theorem pJ7_copyOf_1904c : plainFor mJ7_copyOf_1904c.1 = true := by decide +kernel
theorem sJ7_copyOf_1904c : Cond.static mJ7_copyOf_1904c.1 ∈ lw_tbl := w4_181
def mJ9_max_7cf53 : z_M := (yJ9_max_7cf53, cJ9_max_7cf53, 2, some .int)
theorem tJ9_max_7cf53 : z_mt mJ9_max_7cf53 2 := ⟨w3_215, w1_27, ⟨by decide, by decide⟩, by decide +kernel, by decide⟩
theorem pJ9_max_7cf53 : plainFor mJ9_max_7cf53.1 = true := by decide +kernel
theorem sJ9_max_7cf53 : Cond.static mJ9_max_7cf53.1 ∈ lw_tbl := w3_214
def mJx4a65c_isEmpty_aae02 : z_M := (yJx4a65c_isEmpty_aae02, cJx4a65c_isEmpty_aae02, 1, some .boolean)
theorem tJx4a65c_isEmpty_aae02 : z_mt mJx4a65c_isEmpty_aae02 0 := ⟨w2_201, w1_7, ⟨by decide, by decide⟩, by decide +kernel, by decide⟩
theorem pJx4a65c_isEmpty_aae02 : plainFor mJx4a65c_isEmpty_aae02.1 = true := by decide +kernel
theorem vJx4a65c_isEmpty_aae02 : z_mv mJx4a65c_isEmpty_aae02 9 := ⟨w2_199, w2_200, ⟨(TJx4a65c, 3), rfl⟩⟩
def mJx4a65c_outOfBoundsMsg_b52d3 : z_M := (yJx4a65c_outOfBoundsMsg_b52d3, cJx4a65c_outOfBoundsMsg_b52d3, 2, some (.object "java/lang/String"))
theorem tJx4a65c_outOfBoundsMsg_b52d3 : z_mt mJx4a65c_outOfBoundsMsg_b52d3 1 := ⟨w3_158, w1_7, ⟨by decide, by decide⟩, by decide +kernel, by decide⟩
theorem pJx4a65c_outOfBoundsMsg_b52d3 : plainFor mJx4a65c_outOfBoundsMsg_b52d3.1 = true := by decide +kernel
theorem vJx4a65c_outOfBoundsMsg_b52d3 : z_mv mJx4a65c_outOfBoundsMsg_b52d3 9 := ⟨w3_157, wS44, ⟨(TJx4a65c, 3), rfl⟩⟩
def mJx4a65c_remove_915e3 : z_M := (yJx4a65c_remove_915e3, cJx4a65c_remove_915e3, 4, some (.object "java/lang/Object"))
theorem tJx4a65c_remove_915e3 : z_mt mJx4a65c_remove_915e3 1 := ⟨w5_34, w1_7, ⟨by decide, by decide⟩, by decide +kernel, by decide⟩
theorem pJx4a65c_remove_915e3 : plainFor mJx4a65c_remove_915e3.1 = true := by decide +kernel
theorem vJx4a65c_remove_915e3 : z_mv mJx4a65c_remove_915e3 9 := ⟨w5_32, w5_33, ⟨(TJx4a65c, 3), rfl⟩⟩
def mJx4a65c_set_bcc79 : z_M := (yJx4a65c_set_bcc79, cJx4a65c_set_bcc79, 4, some (.object "java/lang/Object"))
theorem tJx4a65c_set_bcc79 : z_mt mJx4a65c_set_bcc79 2 := ⟨w6_57, w1_7, ⟨by decide, by decide⟩, by decide +kernel, by decide⟩
theorem pJx4a65c_set_bcc79 : plainFor mJx4a65c_set_bcc79.1 = true := by decide +kernel
theorem vJx4a65c_set_bcc79 : z_mv mJx4a65c_set_bcc79 9 := ⟨w6_55, w6_56, ⟨(TJx4a65c, 3), rfl⟩⟩
def mJx4a65c_size_8abf5 : z_M := (yJx4a65c_size_8abf5, cJx4a65c_size_8abf5, 1, some .int)
theorem tJx4a65c_size_8abf5 : z_mt mJx4a65c_size_8abf5 0 := ⟨w2_54, w1_7, ⟨by decide, by decide⟩, by decide +kernel, by decide⟩
theorem pJx4a65c_size_8abf5 : plainFor mJx4a65c_size_8abf5.1 = true := by decide +kernel
theorem vJx4a65c_size_8abf5 : z_mv mJx4a65c_size_8abf5 9 := ⟨w2_52, w2_53, ⟨(TJx4a65c, 3), rfl⟩⟩
def mJxa1e45_init_da8c8 : z_M := (yJxa1e45_init_da8c8, cJxa1e45_init_da8c8, 1, none)
theorem tJxa1e45_init_da8c8 : z_mt mJxa1e45_init_da8c8 0 := ⟨w1_121, w1_5, ⟨by decide, by decide⟩, by decide +kernel, by decide⟩
theorem pJxa1e45_init_da8c8 : plainFor mJxa1e45_init_da8c8.1 = true := by decide +kernel
theorem iJxa1e45_init_da8c8 : (mJxa1e45_init_da8c8.1.name = "<init>" ∧ mJxa1e45_init_da8c8.2.2.2 = none) ∧ Cond.instanceMethod mJxa1e45_init_da8c8.1 ∈ lw_tbl := ⟨⟨rfl, rfl⟩, w1_120⟩
def mJ7_fill_53178 : z_M := (yJ7_fill_53178, cJ7_fill_53178, 4, none)
theorem tJ7_fill_53178 : z_mt mJ7_fill_53178 2 := ⟨w1_192, w1_12, ⟨by decide, by decide⟩, by decide +kernel, by decide⟩
theorem pJ7_fill_53178 : plainFor mJ7_fill_53178.1 = true := by decide +kernel
theorem sJ7_fill_53178 : Cond.static mJ7_fill_53178.1 ∈ lw_tbl := w1_191
def mJ7_copyOf_6403c : z_M := (yJ7_copyOf_6403c, cJ7_copyOf_6403c, 4, some (.array (.object "java/lang/Object")))
theorem tJ7_copyOf_6403c : z_mt mJ7_copyOf_6403c 3 := ⟨w4_205, w1_12, ⟨by decide, by decide⟩, by decide +kernel, by decide⟩
theorem pJ7_copyOf_6403c : plainFor mJ7_copyOf_6403c.1 = true := by decide +kernel
theorem sJ7_copyOf_6403c : Cond.static mJ7_copyOf_6403c.1 ∈ lw_tbl := w4_204
def mJ9_min_7cf53 : z_M := (yJ9_min_7cf53, cJ9_min_7cf53, 2, some .int)
theorem tJ9_min_7cf53 : z_mt mJ9_min_7cf53 2 := ⟨w3_233, w1_27, ⟨by decide, by decide⟩, by decide +kernel, by decide⟩
theorem pJ9_min_7cf53 : plainFor mJ9_min_7cf53.1 = true := by decide +kernel
theorem sJ9_min_7cf53 : Cond.static mJ9_min_7cf53.1 ∈ lw_tbl := w3_232
def mJ9_floorMod_7cf53 : z_M := (yJ9_floorMod_7cf53, cJ9_floorMod_7cf53, 3, some .int)
theorem tJ9_floorMod_7cf53 : z_mt mJ9_floorMod_7cf53 2 := ⟨w6_64, w1_27, ⟨by decide, by decide⟩, by decide +kernel, by decide⟩
theorem pJ9_floorMod_7cf53 : plainFor mJ9_floorMod_7cf53.1 = true := by decide +kernel
theorem sJ9_floorMod_7cf53 : Cond.static mJ9_floorMod_7cf53.1 ∈ lw_tbl := w6_63
def mJ3_checkIndex_8e157 : z_M := (yJ3_checkIndex_8e157, cJ3_checkIndex_8e157, 3, some .int)
theorem tJ3_checkIndex_8e157 : z_mt mJ3_checkIndex_8e157 3 := ⟨w2_77, w1_20, ⟨by decide, by decide⟩, by decide +kernel, by decide⟩
theorem pJ3_checkIndex_8e157 : plainFor mJ3_checkIndex_8e157.1 = true := by decide +kernel
theorem sJ3_checkIndex_8e157 : Cond.static mJ3_checkIndex_8e157.1 ∈ lw_tbl := w2_76
def mJ8_hugeLength_7cf53 : z_M := (yJ8_hugeLength_7cf53, cJ8_hugeLength_7cf53, 3, some .int)
theorem tJ8_hugeLength_7cf53 : z_mt mJ8_hugeLength_7cf53 2 := ⟨w3_219, w1_26, ⟨by decide, by decide⟩, by decide +kernel, by decide⟩
theorem pJ8_hugeLength_7cf53 : plainFor mJ8_hugeLength_7cf53.1 = true := by decide +kernel
theorem sJ8_hugeLength_7cf53 : Cond.static mJ8_hugeLength_7cf53.1 ∈ lw_tbl := w3_218
def mX0_init : z_M := (yX0_init, cX0_init, 3, none)
theorem tX0_init : z_mt mX0_init 2 := ⟨w1_188, w1_11, ⟨by decide, by decide⟩, by decide +kernel, by decide⟩
theorem pX0_init : plainFor mX0_init.1 = true := by decide +kernel
theorem iX0_init : (mX0_init.1.name = "<init>" ∧ mX0_init.2.2.2 = none) ∧ Cond.instanceMethod mX0_init.1 ∈ lw_tbl := ⟨⟨rfl, rfl⟩, w1_187⟩
def mX0_points : z_M := (yX0_points, cX0_points, 1, some .int)
theorem tX0_points : z_mt mX0_points 0 := ⟨w2_123, w1_11, ⟨by decide, by decide⟩, by decide +kernel, by decide⟩
theorem pX0_points : plainFor mX0_points.1 = true := by decide +kernel
theorem vX0_points : z_mv mX0_points 0 := ⟨w2_122, wS11, ⟨(TX0, 11), rfl⟩⟩
def mX0_scoreIn : z_M := (yX0_scoreIn, cX0_scoreIn, 2, some .int)
theorem tX0_scoreIn : z_mt mX0_scoreIn 1 := ⟨w2_160, w1_11, ⟨by decide, by decide⟩, by decide +kernel, by decide⟩
theorem pX0_scoreIn : plainFor mX0_scoreIn.1 = true := by decide +kernel
theorem vX0_scoreIn : z_mv mX0_scoreIn 0 := ⟨w2_159, wS15, ⟨(TX0, 11), rfl⟩⟩
def mX0_putScore : z_M := (yX0_putScore, cX0_putScore, 3, none)
theorem tX0_putScore : z_mt mX0_putScore 2 := ⟨w2_164, w1_11, ⟨by decide, by decide⟩, by decide +kernel, by decide⟩
theorem pX0_putScore : plainFor mX0_putScore.1 = true := by decide +kernel
theorem vX0_putScore : z_mv mX0_putScore 0 := ⟨w2_163, wS16, ⟨(TX0, 11), rfl⟩⟩
def mX0_isBetterThan : z_M := (yX0_isBetterThan, cX0_isBetterThan, 3, some .boolean)
theorem tX0_isBetterThan : z_mt mX0_isBetterThan 1 := ⟨w2_90, w1_11, ⟨by decide, by decide⟩, by decide +kernel, by decide⟩
theorem pX0_isBetterThan : plainFor mX0_isBetterThan.1 = true := by decide +kernel
theorem vX0_isBetterThan : z_mv mX0_isBetterThan 0 := ⟨w2_89, wS6, ⟨(TX0, 11), rfl⟩⟩
def mX0_isAlikeWith : z_M := (yX0_isAlikeWith, cX0_isAlikeWith, 2, some .boolean)
theorem tX0_isAlikeWith : z_mt mX0_isAlikeWith 1 := ⟨w2_86, w1_11, ⟨by decide, by decide⟩, by decide +kernel, by decide⟩
theorem pX0_isAlikeWith : plainFor mX0_isAlikeWith.1 = true := by decide +kernel
theorem vX0_isAlikeWith : z_mv mX0_isAlikeWith 0 := ⟨w2_85, wS5, ⟨(TX0, 11), rfl⟩⟩
def mX0_isAheadOf : z_M := (yX0_isAheadOf, cX0_isAheadOf, 2, some .boolean)
theorem tX0_isAheadOf : z_mt mX0_isAheadOf 1 := ⟨w2_181, w1_11, ⟨by decide, by decide⟩, by decide +kernel, by decide⟩
theorem pX0_isAheadOf : plainFor mX0_isAheadOf.1 = true := by decide +kernel
theorem vX0_isAheadOf : z_mv mX0_isAheadOf 0 := ⟨w2_180, wS20, ⟨(TX0, 11), rfl⟩⟩
def mX0_keepRound : z_M := (yX0_keepRound, cX0_keepRound, 2, none)
theorem tX0_keepRound : z_mt mX0_keepRound 1 := ⟨w6_61, w1_11, ⟨by decide, by decide⟩, by decide +kernel, by decide⟩
theorem pX0_keepRound : plainFor mX0_keepRound.1 = true := by decide +kernel
theorem vX0_keepRound : z_mv mX0_keepRound 0 := ⟨w6_60, wS68, ⟨(TX0, 11), rfl⟩⟩
def mX0_gainIn : z_M := (yX0_gainIn, cX0_gainIn, 2, some .int)
theorem tX0_gainIn : z_mt mX0_gainIn 1 := ⟨w6_91, w1_11, ⟨by decide, by decide⟩, by decide +kernel, by decide⟩
theorem pX0_gainIn : plainFor mX0_gainIn.1 = true := by decide +kernel
theorem vX0_gainIn : z_mv mX0_gainIn 0 := ⟨w6_90, wS71, ⟨(TX0, 11), rfl⟩⟩
def mX0_placeIn : z_M := (yX0_placeIn, cX0_placeIn, 2, some .int)
theorem tX0_placeIn : z_mt mX0_placeIn 1 := ⟨w6_115, w1_11, ⟨by decide, by decide⟩, by decide +kernel, by decide⟩
theorem pX0_placeIn : plainFor mX0_placeIn.1 = true := by decide +kernel
theorem vX0_placeIn : z_mv mX0_placeIn 0 := ⟨w6_114, wS73, ⟨(TX0, 11), rfl⟩⟩
def mX1_init : z_M := (yX1_init, cX1_init, 1, none)
theorem tX1_init : z_mt mX1_init 0 := ⟨w1_167, w1_10, ⟨by decide, by decide⟩, by decide +kernel, by decide⟩
theorem pX1_init : plainFor mX1_init.1 = true := by decide +kernel
theorem iX1_init : (mX1_init.1.name = "<init>" ∧ mX1_init.2.2.2 = none) ∧ Cond.instanceMethod mX1_init.1 ∈ lw_tbl := ⟨⟨rfl, rfl⟩, w1_166⟩
def mX1_put : z_M := (yX1_put, cX1_put, 3, none)
theorem tX1_put : z_mt mX1_put 2 := ⟨w5_229, w1_10, ⟨by decide, by decide⟩, by decide +kernel, by decide⟩
theorem pX1_put : plainFor mX1_put.1 = true := by decide +kernel
theorem vX1_put : z_mv mX1_put 1 := ⟨w5_228, wS65, ⟨(TX1, 3), rfl⟩⟩
def mX1_take : z_M := (yX1_take, cX1_take, 3, none)
theorem tX1_take : z_mt mX1_take 1 := ⟨w5_47, w1_10, ⟨by decide, by decide⟩, by decide +kernel, by decide⟩
theorem pX1_take : plainFor mX1_take.1 = true := by decide +kernel
theorem vX1_take : z_mv mX1_take 1 := ⟨w5_46, wS55, ⟨(TX1, 3), rfl⟩⟩
def mX1_placeIn : z_M := (yX1_placeIn, cX1_placeIn, 3, some .int)
theorem tX1_placeIn : z_mt mX1_placeIn 1 := ⟨w5_51, w1_10, ⟨by decide, by decide⟩, by decide +kernel, by decide⟩
theorem pX1_placeIn : plainFor mX1_placeIn.1 = true := by decide +kernel
theorem vX1_placeIn : z_mv mX1_placeIn 1 := ⟨w5_50, wS56, ⟨(TX1, 3), rfl⟩⟩
def mX1_raise : z_M := (yX1_raise, cX1_raise, 4, none)
theorem tX1_raise : z_mt mX1_raise 2 := ⟨w6_2, w1_10, ⟨by decide, by decide⟩, by decide +kernel, by decide⟩
theorem pX1_raise : plainFor mX1_raise.1 = true := by decide +kernel
theorem vX1_raise : z_mv mX1_raise 1 := ⟨w6_1, wS66, ⟨(TX1, 3), rfl⟩⟩
def mX1_letFall : z_M := (yX1_letFall, cX1_letFall, 5, none)
theorem tX1_letFall : z_mt mX1_letFall 1 := ⟨w6_53, w1_10, ⟨by decide, by decide⟩, by decide +kernel, by decide⟩
theorem pX1_letFall : plainFor mX1_letFall.1 = true := by decide +kernel
theorem vX1_letFall : z_mv mX1_letFall 1 := ⟨w6_52, wS67, ⟨(TX1, 3), rfl⟩⟩
def mX2_init : z_M := (yX2_init, cX2_init, 1, none)
theorem tX2_init : z_mt mX2_init 0 := ⟨w1_86, w1_4, ⟨by decide, by decide⟩, by decide +kernel, by decide⟩
theorem pX2_init : plainFor mX2_init.1 = true := by decide +kernel
theorem iX2_init : (mX2_init.1.name = "<init>" ∧ mX2_init.2.2.2 = none) ∧ Cond.instanceMethod mX2_init.1 ∈ lw_tbl := ⟨⟨rfl, rfl⟩, w1_85⟩
def mX2_empty : z_M := (yX2_empty, cX2_empty, 1, none)
theorem tX2_empty : z_mt mX2_empty 0 := ⟨w3_70, w1_4, ⟨by decide, by decide⟩, by decide +kernel, by decide⟩
theorem pX2_empty : plainFor mX2_empty.1 = true := by decide +kernel
theorem vX2_empty : z_mv mX2_empty 2 := ⟨w3_69, wS31, ⟨(TX2, 3), rfl⟩⟩
def mX2_begin : z_M := (yX2_begin, cX2_begin, 3, none)
theorem tX2_begin : z_mt mX2_begin 2 := ⟨w1_102, w1_4, ⟨by decide, by decide⟩, by decide +kernel, by decide⟩
theorem pX2_begin : plainFor mX2_begin.1 = true := by decide +kernel
theorem vX2_begin : z_mv mX2_begin 2 := ⟨w1_101, wS0, ⟨(TX2, 3), rfl⟩⟩
def mX2_isCriterion : z_M := (yX2_isCriterion, cX2_isCriterion, 2, some .boolean)
theorem tX2_isCriterion : z_mt mX2_isCriterion 1 := ⟨w1_106, w1_4, ⟨by decide, by decide⟩, by decide +kernel, by decide⟩
theorem pX2_isCriterion : plainFor mX2_isCriterion.1 = true := by decide +kernel
theorem vX2_isCriterion : z_mv mX2_isCriterion 2 := ⟨w1_105, wS1, ⟨(TX2, 3), rfl⟩⟩
def mX2_addTerm : z_M := (yX2_addTerm, cX2_addTerm, 4, none)
theorem tX2_addTerm : z_mt mX2_addTerm 3 := ⟨w1_110, w1_4, ⟨by decide, by decide⟩, by decide +kernel, by decide⟩
theorem pX2_addTerm : plainFor mX2_addTerm.1 = true := by decide +kernel
theorem vX2_addTerm : z_mv mX2_addTerm 2 := ⟨w1_109, wS2, ⟨(TX2, 3), rfl⟩⟩
def mX2_valueFor : z_M := (yX2_valueFor, cX2_valueFor, 5, some .int)
theorem tX2_valueFor : z_mt mX2_valueFor 2 := ⟨w2_172, w1_4, ⟨by decide, by decide⟩, by decide +kernel, by decide⟩
theorem pX2_valueFor : plainFor mX2_valueFor.1 = true := by decide +kernel
theorem vX2_valueFor : z_mv mX2_valueFor 2 := ⟨w2_171, wS18, ⟨(TX2, 3), rfl⟩⟩
def mX2_judge : z_M := (yX2_judge, cX2_judge, 3, none)
theorem tX2_judge : z_mt mX2_judge 1 := ⟨w2_168, w1_4, ⟨by decide, by decide⟩, by decide +kernel, by decide⟩
theorem pX2_judge : plainFor mX2_judge.1 = true := by decide +kernel
theorem vX2_judge : z_mv mX2_judge 2 := ⟨w2_167, wS17, ⟨(TX2, 3), rfl⟩⟩
def mX3_init : z_M := (yX3_init, cX3_init, 2, none)
theorem tX3_init : z_mt mX3_init 1 := ⟨w1_60, w1_3, ⟨by decide, by decide⟩, by decide +kernel, by decide⟩
theorem pX3_init : plainFor mX3_init.1 = true := by decide +kernel
theorem iX3_init : (mX3_init.1.name = "<init>" ∧ mX3_init.2.2.2 = none) ∧ Cond.instanceMethod mX3_init.1 ∈ lw_tbl := ⟨⟨rfl, rfl⟩, w1_59⟩
def mX3_readOrder : z_M := (yX3_readOrder, cX3_readOrder, 3, some .boolean)
theorem tX3_readOrder : z_mt mX3_readOrder 1 := ⟨w3_66, w1_3, ⟨by decide, by decide⟩, by decide +kernel, by decide⟩
theorem pX3_readOrder : plainFor mX3_readOrder.1 = true := by decide +kernel
theorem vX3_readOrder : z_mv mX3_readOrder 3 := ⟨w3_65, wS30, ⟨(TX3, 6), rfl⟩⟩
def mX3_readToken : z_M := (yX3_readToken, cX3_readToken, 2, none)
theorem tX3_readToken : z_mt mX3_readToken 0 := ⟨w3_75, w1_3, ⟨by decide, by decide⟩, by decide +kernel, by decide⟩
theorem pX3_readToken : plainFor mX3_readToken.1 = true := by decide +kernel
theorem vX3_readToken : z_mv mX3_readToken 3 := ⟨w3_74, wS32, ⟨(TX3, 6), rfl⟩⟩
def mX3_readCriterion : z_M := (yX3_readCriterion, cX3_readCriterion, 5, some .boolean)
theorem tX3_readCriterion : z_mt mX3_readCriterion 2 := ⟨w3_103, w1_3, ⟨by decide, by decide⟩, by decide +kernel, by decide⟩
theorem pX3_readCriterion : plainFor mX3_readCriterion.1 = true := by decide +kernel
theorem vX3_readCriterion : z_mv mX3_readCriterion 3 := ⟨w3_102, wS39, ⟨(TX3, 6), rfl⟩⟩
def mX3_readTerm : z_M := (yX3_readTerm, cX3_readTerm, 5, some .boolean)
theorem tX3_readTerm : z_mt mX3_readTerm 3 := ⟨w3_108, w1_3, ⟨by decide, by decide⟩, by decide +kernel, by decide⟩
theorem pX3_readTerm : plainFor mX3_readTerm.1 = true := by decide +kernel
theorem vX3_readTerm : z_mv mX3_readTerm 3 := ⟨w3_107, wS40, ⟨(TX3, 6), rfl⟩⟩
def mX6_byteAt : z_M := (yX6_byteAt, cX6_byteAt, 2, some .int)
theorem tX6_byteAt : z_mt mX6_byteAt 1 := ⟨w3_79, w1_2, ⟨by decide, by decide⟩, by decide +kernel, by decide⟩
theorem pX6_byteAt : plainFor mX6_byteAt.1 = true := by decide +kernel
theorem vX6_byteAt : z_mv mX6_byteAt 6 := ⟨w3_78, wS33, ⟨(TX6, 2), rfl⟩⟩
def mX3_isBlank : z_M := (yX3_isBlank, cX3_isBlank, 2, some .boolean)
theorem tX3_isBlank : z_mt mX3_isBlank 1 := ⟨w3_83, w1_3, ⟨by decide, by decide⟩, by decide +kernel, by decide⟩
theorem pX3_isBlank : plainFor mX3_isBlank.1 = true := by decide +kernel
theorem vX3_isBlank : z_mv mX3_isBlank 3 := ⟨w3_82, wS34, ⟨(TX3, 6), rfl⟩⟩
def mX3_isDigit : z_M := (yX3_isDigit, cX3_isDigit, 2, some .boolean)
theorem tX3_isDigit : z_mt mX3_isDigit 1 := ⟨w3_87, w1_3, ⟨by decide, by decide⟩, by decide +kernel, by decide⟩
theorem pX3_isDigit : plainFor mX3_isDigit.1 = true := by decide +kernel
theorem vX3_isDigit : z_mv mX3_isDigit 3 := ⟨w3_86, wS35, ⟨(TX3, 6), rfl⟩⟩
def mX3_readDigits : z_M := (yX3_readDigits, cX3_readDigits, 2, none)
theorem tX3_readDigits : z_mt mX3_readDigits 0 := ⟨w3_91, w1_3, ⟨by decide, by decide⟩, by decide +kernel, by decide⟩
theorem pX3_readDigits : plainFor mX3_readDigits.1 = true := by decide +kernel
theorem vX3_readDigits : z_mv mX3_readDigits 3 := ⟨w3_90, wS36, ⟨(TX3, 6), rfl⟩⟩
def mX3_readSign : z_M := (yX3_readSign, cX3_readSign, 2, none)
theorem tX3_readSign : z_mt mX3_readSign 1 := ⟨w3_95, w1_3, ⟨by decide, by decide⟩, by decide +kernel, by decide⟩
theorem pX3_readSign : plainFor mX3_readSign.1 = true := by decide +kernel
theorem vX3_readSign : z_mv mX3_readSign 3 := ⟨w3_94, wS37, ⟨(TX3, 6), rfl⟩⟩
def mX3_isSign : z_M := (yX3_isSign, cX3_isSign, 2, some .boolean)
theorem tX3_isSign : z_mt mX3_isSign 1 := ⟨w3_99, w1_3, ⟨by decide, by decide⟩, by decide +kernel, by decide⟩
theorem pX3_isSign : plainFor mX3_isSign.1 = true := by decide +kernel
theorem vX3_isSign : z_mv mX3_isSign 3 := ⟨w3_98, wS38, ⟨(TX3, 6), rfl⟩⟩
def mX4_init : z_M := (yX4_init, cX4_init, 1, none)
theorem tX4_init : z_mt mX4_init 0 := ⟨w1_154, w1_9, ⟨by decide, by decide⟩, by decide +kernel, by decide⟩
theorem pX4_init : plainFor mX4_init.1 = true := by decide +kernel
theorem iX4_init : (mX4_init.1.name = "<init>" ∧ mX4_init.2.2.2 = none) ∧ Cond.instanceMethod mX4_init.1 ∈ lw_tbl := ⟨⟨rfl, rfl⟩, w1_153⟩
def mX4_put : z_M := (yX4_put, cX4_put, 2, none)
theorem tX4_put : z_mt mX4_put 1 := ⟨w5_17, w1_9, ⟨by decide, by decide⟩, by decide +kernel, by decide⟩
theorem pX4_put : plainFor mX4_put.1 = true := by decide +kernel
theorem vX4_put : z_mv mX4_put 4 := ⟨w5_16, wS51, ⟨(TX4, 1), rfl⟩⟩
def mX4_countUpTo : z_M := (yX4_countUpTo, cX4_countUpTo, 4, some .int)
theorem tX4_countUpTo : z_mt mX4_countUpTo 1 := ⟨w2_116, w1_9, ⟨by decide, by decide⟩, by decide +kernel, by decide⟩
theorem pX4_countUpTo : plainFor mX4_countUpTo.1 = true := by decide +kernel
theorem vX4_countUpTo : z_mv mX4_countUpTo 4 := ⟨w2_115, wS10, ⟨(TX4, 1), rfl⟩⟩
def mX4_take : z_M := (yX4_take, cX4_take, 3, none)
theorem tX4_take : z_mt mX4_take 1 := ⟨w5_42, w1_9, ⟨by decide, by decide⟩, by decide +kernel, by decide⟩
theorem pX4_take : plainFor mX4_take.1 = true := by decide +kernel
theorem vX4_take : z_mv mX4_take 4 := ⟨w5_41, wS54, ⟨(TX4, 1), rfl⟩⟩
def mX4_countBelow : z_M := (yX4_countBelow, cX4_countBelow, 4, some .int)
theorem tX4_countBelow : z_mt mX4_countBelow 1 := ⟨w2_131, w1_9, ⟨by decide, by decide⟩, by decide +kernel, by decide⟩
theorem pX4_countBelow : plainFor mX4_countBelow.1 = true := by decide +kernel
theorem vX4_countBelow : z_mv mX4_countBelow 4 := ⟨w2_130, wS12, ⟨(TX4, 1), rfl⟩⟩
def mX4_pointsAt : z_M := (yX4_pointsAt, cX4_pointsAt, 2, some .int)
theorem tX4_pointsAt : z_mt mX4_pointsAt 1 := ⟨w2_209, w1_9, ⟨by decide, by decide⟩, by decide +kernel, by decide⟩
theorem pX4_pointsAt : plainFor mX4_pointsAt.1 = true := by decide +kernel
theorem vX4_pointsAt : z_mv mX4_pointsAt 4 := ⟨w2_208, wS26, ⟨(TX4, 1), rfl⟩⟩
def mX5_init : z_M := (yX5_init, cX5_init, 1, none)
theorem tX5_init : z_mt mX5_init 0 := ⟨w1_141, w1_8, ⟨by decide, by decide⟩, by decide +kernel, by decide⟩
theorem pX5_init : plainFor mX5_init.1 = true := by decide +kernel
theorem iX5_init : (mX5_init.1.name = "<init>" ∧ mX5_init.2.2.2 = none) ∧ Cond.instanceMethod mX5_init.1 ∈ lw_tbl := ⟨⟨rfl, rfl⟩, w1_140⟩
def mX5_put : z_M := (yX5_put, cX5_put, 4, none)
theorem tX5_put : z_mt mX5_put 1 := ⟨w3_137, w1_8, ⟨by decide, by decide⟩, by decide +kernel, by decide⟩
theorem pX5_put : plainFor mX5_put.1 = true := by decide +kernel
theorem vX5_put : z_mv mX5_put 5 := ⟨w3_136, wS42, ⟨(TX5, 1), rfl⟩⟩
def mX5_numberPlaces : z_M := (yX5_numberPlaces, cX5_numberPlaces, 2, none)
theorem tX5_numberPlaces : z_mt mX5_numberPlaces 0 := ⟨w4_215, w1_8, ⟨by decide, by decide⟩, by decide +kernel, by decide⟩
theorem pX5_numberPlaces : plainFor mX5_numberPlaces.1 = true := by decide +kernel
theorem vX5_numberPlaces : z_mv mX5_numberPlaces 5 := ⟨w4_214, wS47, ⟨(TX5, 1), rfl⟩⟩
def mX5_take : z_M := (yX5_take, cX5_take, 3, none)
theorem tX5_take : z_mt mX5_take 1 := ⟨w5_30, w1_8, ⟨by decide, by decide⟩, by decide +kernel, by decide⟩
theorem pX5_take : plainFor mX5_take.1 = true := by decide +kernel
theorem vX5_take : z_mv mX5_take 5 := ⟨w5_29, wS52, ⟨(TX5, 1), rfl⟩⟩
def mX5_sharedRank : z_M := (yX5_sharedRank, cX5_sharedRank, 5, some .int)
theorem tX5_sharedRank : z_mt mX5_sharedRank 1 := ⟨w2_103, w1_8, ⟨by decide, by decide⟩, by decide +kernel, by decide⟩
theorem pX5_sharedRank : plainFor mX5_sharedRank.1 = true := by decide +kernel
theorem vX5_sharedRank : z_mv mX5_sharedRank 5 := ⟨w2_102, wS8, ⟨(TX5, 1), rfl⟩⟩
def mX5_countAhead : z_M := (yX5_countAhead, cX5_countAhead, 5, some .int)
theorem tX5_countAhead : z_mt mX5_countAhead 1 := ⟨w2_177, w1_8, ⟨by decide, by decide⟩, by decide +kernel, by decide⟩
theorem pX5_countAhead : plainFor mX5_countAhead.1 = true := by decide +kernel
theorem vX5_countAhead : z_mv mX5_countAhead 5 := ⟨w2_176, wS19, ⟨(TX5, 1), rfl⟩⟩
def mX5_denseRank : z_M := (yX5_denseRank, cX5_denseRank, 4, some .int)
theorem tX5_denseRank : z_mt mX5_denseRank 1 := ⟨w5_130, w1_8, ⟨by decide, by decide⟩, by decide +kernel, by decide⟩
theorem pX5_denseRank : plainFor mX5_denseRank.1 = true := by decide +kernel
theorem vX5_denseRank : z_mv mX5_denseRank 5 := ⟨w5_129, wS61, ⟨(TX5, 1), rfl⟩⟩
def mX5_beginsResult : z_M := (yX5_beginsResult, cX5_beginsResult, 2, some .boolean)
theorem tX5_beginsResult : z_mt mX5_beginsResult 1 := ⟨w2_67, w1_8, ⟨by decide, by decide⟩, by decide +kernel, by decide⟩
theorem pX5_beginsResult : plainFor mX5_beginsResult.1 = true := by decide +kernel
theorem vX5_beginsResult : z_mv mX5_beginsResult 5 := ⟨w2_66, wS4, ⟨(TX5, 1), rfl⟩⟩
def mX5_twiceMeanRank : z_M := (yX5_twiceMeanRank, cX5_twiceMeanRank, 2, some .int)
theorem tX5_twiceMeanRank : z_mt mX5_twiceMeanRank 1 := ⟨w2_99, w1_8, ⟨by decide, by decide⟩, by decide +kernel, by decide⟩
theorem pX5_twiceMeanRank : plainFor mX5_twiceMeanRank.1 = true := by decide +kernel
theorem vX5_twiceMeanRank : z_mv mX5_twiceMeanRank 5 := ⟨w2_98, wS7, ⟨(TX5, 1), rfl⟩⟩
def mX5_countAlike : z_M := (yX5_countAlike, cX5_countAlike, 4, some .int)
theorem tX5_countAlike : z_mt mX5_countAlike 1 := ⟨w2_108, w1_8, ⟨by decide, by decide⟩, by decide +kernel, by decide⟩
theorem pX5_countAlike : plainFor mX5_countAlike.1 = true := by decide +kernel
theorem vX5_countAlike : z_mv mX5_countAlike 5 := ⟨w2_107, wS9, ⟨(TX5, 1), rfl⟩⟩
def mX5_countWorse : z_M := (yX5_countWorse, cX5_countWorse, 4, some .int)
theorem tX5_countWorse : z_mt mX5_countWorse 1 := ⟨w6_212, w1_8, ⟨by decide, by decide⟩, by decide +kernel, by decide⟩
theorem pX5_countWorse : plainFor mX5_countWorse.1 = true := by decide +kernel
theorem vX5_countWorse : z_mv mX5_countWorse 5 := ⟨w6_211, wS83, ⟨(TX5, 1), rfl⟩⟩
def mX5_countResults : z_M := (yX5_countResults, cX5_countResults, 3, some .int)
theorem tX5_countResults : z_mt mX5_countResults 0 := ⟨w2_62, w1_8, ⟨by decide, by decide⟩, by decide +kernel, by decide⟩
theorem pX5_countResults : plainFor mX5_countResults.1 = true := by decide +kernel
theorem vX5_countResults : z_mv mX5_countResults 5 := ⟨w2_61, wS3, ⟨(TX5, 1), rfl⟩⟩
def mX5_firstPlaceOf : z_M := (yX5_firstPlaceOf, cX5_firstPlaceOf, 3, some .int)
theorem tX5_firstPlaceOf : z_mt mX5_firstPlaceOf 1 := ⟨w6_133, w1_8, ⟨by decide, by decide⟩, by decide +kernel, by decide⟩
theorem pX5_firstPlaceOf : plainFor mX5_firstPlaceOf.1 = true := by decide +kernel
theorem vX5_firstPlaceOf : z_mv mX5_firstPlaceOf 5 := ⟨w6_132, wS74, ⟨(TX5, 1), rfl⟩⟩
def mX5_countOf : z_M := (yX5_countOf, cX5_countOf, 4, some .int)
theorem tX5_countOf : z_mt mX5_countOf 1 := ⟨w6_144, w1_8, ⟨by decide, by decide⟩, by decide +kernel, by decide⟩
theorem pX5_countOf : plainFor mX5_countOf.1 = true := by decide +kernel
theorem vX5_countOf : z_mv mX5_countOf 5 := ⟨w6_143, wS75, ⟨(TX5, 1), rfl⟩⟩
def mX5_teamSum : z_M := (yX5_teamSum, cX5_teamSum, 5, some .int)
theorem tX5_teamSum : z_mt mX5_teamSum 1 := ⟨w6_155, w1_8, ⟨by decide, by decide⟩, by decide +kernel, by decide⟩
theorem pX5_teamSum : plainFor mX5_teamSum.1 = true := by decide +kernel
theorem vX5_teamSum : z_mv mX5_teamSum 5 := ⟨w6_154, wS76, ⟨(TX5, 1), rfl⟩⟩
def mX6_init : z_M := (yX6_init, cX6_init, 1, none)
theorem tX6_init : z_mt mX6_init 0 := ⟨w1_45, w1_2, ⟨by decide, by decide⟩, by decide +kernel, by decide⟩
theorem pX6_init : plainFor mX6_init.1 = true := by decide +kernel
theorem iX6_init : (mX6_init.1.name = "<init>" ∧ mX6_init.2.2.2 = none) ∧ Cond.instanceMethod mX6_init.1 ∈ lw_tbl := ⟨⟨rfl, rfl⟩, w1_44⟩
def mX6_bytesIn : z_M := (yX6_bytesIn, cX6_bytesIn, 4, some .int)
theorem tX6_bytesIn : z_mt mX6_bytesIn 1 := ⟨w2_221, w1_2, ⟨by decide, by decide⟩, by decide +kernel, by decide⟩
theorem pX6_bytesIn : plainFor mX6_bytesIn.1 = true := by decide +kernel
theorem vX6_bytesIn : z_mv mX6_bytesIn 6 := ⟨w2_220, wS27, ⟨(TX6, 2), rfl⟩⟩
def mX6_addWord : z_M := (yX6_addWord, cX6_addWord, 4, none)
theorem tX6_addWord : z_mt mX6_addWord 1 := ⟨w3_54, w1_2, ⟨by decide, by decide⟩, by decide +kernel, by decide⟩
theorem pX6_addWord : plainFor mX6_addWord.1 = true := by decide +kernel
theorem vX6_addWord : z_mv mX6_addWord 6 := ⟨w3_53, wS29, ⟨(TX6, 2), rfl⟩⟩
def mX7_init : z_M := (yX7_init, cX7_init, 1, none)
theorem tX7_init : z_mt mX7_init 0 := ⟨w1_37, w1_1, ⟨by decide, by decide⟩, by decide +kernel, by decide⟩
theorem pX7_init : plainFor mX7_init.1 = true := by decide +kernel
theorem iX7_init : (mX7_init.1.name = "<init>" ∧ mX7_init.2.2.2 = none) ∧ Cond.instanceMethod mX7_init.1 ∈ lw_tbl := ⟨⟨rfl, rfl⟩, w1_36⟩
def mX7_append : z_M := (yX7_append, cX7_append, 7, some .int)
theorem tX7_append : z_mt mX7_append 5 := ⟨w2_217, w1_1, ⟨by decide, by decide⟩, by decide +kernel, by decide⟩
theorem pX7_append : plainFor mX7_append.1 = true := by decide +kernel
theorem vX7_append : z_mv mX7_append 7 := ⟨w2_215, w2_216, ⟨(TX7, 13), rfl⟩⟩
def mX7_clearTape : z_M := (yX7_clearTape, cX7_clearTape, 2, some .int)
theorem tX7_clearTape : z_mt mX7_clearTape 0 := ⟨w2_42, w1_1, ⟨by decide, by decide⟩, by decide +kernel, by decide⟩
theorem pX7_clearTape : plainFor mX7_clearTape.1 = true := by decide +kernel
theorem vX7_clearTape : z_mv mX7_clearTape 7 := ⟨w2_40, w2_41, ⟨(TX7, 13), rfl⟩⟩
def mX7_setOrder : z_M := (yX7_setOrder, cX7_setOrder, 2, some .int)
theorem tX7_setOrder : z_mt mX7_setOrder 0 := ⟨w3_62, w1_1, ⟨by decide, by decide⟩, by decide +kernel, by decide⟩
theorem pX7_setOrder : plainFor mX7_setOrder.1 = true := by decide +kernel
theorem vX7_setOrder : z_mv mX7_setOrder 7 := ⟨w3_60, w3_61, ⟨(TX7, 13), rfl⟩⟩
def mX7_makeStandingAnew : z_M := (yX7_makeStandingAnew, cX7_makeStandingAnew, 3, none)
theorem tX7_makeStandingAnew : z_mt mX7_makeStandingAnew 0 := ⟨w3_129, w1_1, ⟨by decide, by decide⟩, by decide +kernel, by decide⟩
theorem pX7_makeStandingAnew : plainFor mX7_makeStandingAnew.1 = true := by decide +kernel
theorem vX7_makeStandingAnew : z_mv mX7_makeStandingAnew 7 := ⟨w3_128, wS41, ⟨(TX7, 13), rfl⟩⟩
def mX7_errorPosition : z_M := (yX7_errorPosition, cX7_errorPosition, 1, some .int)
theorem tX7_errorPosition : z_mt mX7_errorPosition 0 := ⟨w2_46, w1_1, ⟨by decide, by decide⟩, by decide +kernel, by decide⟩
theorem pX7_errorPosition : plainFor mX7_errorPosition.1 = true := by decide +kernel
theorem vX7_errorPosition : z_mv mX7_errorPosition 7 := ⟨w2_44, w2_45, ⟨(TX7, 13), rfl⟩⟩
def mX7_criterion : z_M := (yX7_criterion, cX7_criterion, 4, some .int)
theorem tX7_criterion : z_mt mX7_criterion 2 := ⟨w4_223, w1_1, ⟨by decide, by decide⟩, by decide +kernel, by decide⟩
theorem pX7_criterion : plainFor mX7_criterion.1 = true := by decide +kernel
theorem vX7_criterion : z_mv mX7_criterion 7 := ⟨w4_221, w4_222, ⟨(TX7, 13), rfl⟩⟩
def mX7_presentOne : z_M := (yX7_presentOne, cX7_presentOne, 2, some (.object "StandingsHall$Entrant"))
theorem tX7_presentOne : z_mt mX7_presentOne 1 := ⟨w4_227, w1_1, ⟨by decide, by decide⟩, by decide +kernel, by decide⟩
theorem pX7_presentOne : plainFor mX7_presentOne.1 = true := by decide +kernel
theorem vX7_presentOne : z_mv mX7_presentOne 7 := ⟨w4_226, wS48, ⟨(TX7, 13), rfl⟩⟩
def mX7_come : z_M := (yX7_come, cX7_come, 4, some .int)
theorem tX7_come : z_mt mX7_come 1 := ⟨w4_239, w1_1, ⟨by decide, by decide⟩, by decide +kernel, by decide⟩
theorem pX7_come : plainFor mX7_come.1 = true := by decide +kernel
theorem vX7_come : z_mv mX7_come 7 := ⟨w4_237, w4_238, ⟨(TX7, 13), rfl⟩⟩
def mX7_checkGroup : z_M := (yX7_checkGroup, cX7_checkGroup, 2, none)
theorem tX7_checkGroup : z_mt mX7_checkGroup 1 := ⟨w5_3, w1_1, ⟨by decide, by decide⟩, by decide +kernel, by decide⟩
theorem pX7_checkGroup : plainFor mX7_checkGroup.1 = true := by decide +kernel
theorem vX7_checkGroup : z_mv mX7_checkGroup 7 := ⟨w5_2, wS49, ⟨(TX7, 13), rfl⟩⟩
def mX7_leave : z_M := (yX7_leave, cX7_leave, 4, some .int)
theorem tX7_leave : z_mt mX7_leave 1 := ⟨w5_26, w1_1, ⟨by decide, by decide⟩, by decide +kernel, by decide⟩
theorem pX7_leave : plainFor mX7_leave.1 = true := by decide +kernel
theorem vX7_leave : z_mv mX7_leave 7 := ⟨w5_24, w5_25, ⟨(TX7, 13), rfl⟩⟩
def mX7_score : z_M := (yX7_score, cX7_score, 6, some .int)
theorem tX7_score : z_mt mX7_score 3 := ⟨w5_61, w1_1, ⟨by decide, by decide⟩, by decide +kernel, by decide⟩
theorem pX7_score : plainFor mX7_score.1 = true := by decide +kernel
theorem vX7_score : z_mv mX7_score 7 := ⟨w5_59, w5_60, ⟨(TX7, 13), rfl⟩⟩
def mX7_raisedScore : z_M := (yX7_raisedScore, cX7_raisedScore, 6, some .int)
theorem tX7_raisedScore : z_mt mX7_raisedScore 3 := ⟨w5_65, w1_1, ⟨by decide, by decide⟩, by decide +kernel, by decide⟩
theorem pX7_raisedScore : plainFor mX7_raisedScore.1 = true := by decide +kernel
theorem vX7_raisedScore : z_mv mX7_raisedScore 7 := ⟨w5_64, wS57, ⟨(TX7, 13), rfl⟩⟩
def mX7_changeScore : z_M := (yX7_changeScore, cX7_changeScore, 4, none)
theorem tX7_changeScore : z_mt mX7_changeScore 3 := ⟨w5_81, w1_1, ⟨by decide, by decide⟩, by decide +kernel, by decide⟩
theorem pX7_changeScore : plainFor mX7_changeScore.1 = true := by decide +kernel
theorem vX7_changeScore : z_mv mX7_changeScore 7 := ⟨w5_80, wS60, ⟨(TX7, 13), rfl⟩⟩
def mX7_setScore : z_M := (yX7_setScore, cX7_setScore, 6, some .int)
theorem tX7_setScore : z_mt mX7_setScore 3 := ⟨w5_88, w1_1, ⟨by decide, by decide⟩, by decide +kernel, by decide⟩
theorem pX7_setScore : plainFor mX7_setScore.1 = true := by decide +kernel
theorem vX7_setScore : z_mv mX7_setScore 7 := ⟨w5_86, w5_87, ⟨(TX7, 13), rfl⟩⟩
def mX7_checkKind : z_M := (yX7_checkKind, cX7_checkKind, 2, none)
theorem tX7_checkKind : z_mt mX7_checkKind 1 := ⟨w5_69, w1_1, ⟨by decide, by decide⟩, by decide +kernel, by decide⟩
theorem pX7_checkKind : plainFor mX7_checkKind.1 = true := by decide +kernel
theorem vX7_checkKind : z_mv mX7_checkKind 7 := ⟨w5_68, wS58, ⟨(TX7, 13), rfl⟩⟩
def mX7_checkScore : z_M := (yX7_checkScore, cX7_checkScore, 3, none)
theorem tX7_checkScore : z_mt mX7_checkScore 1 := ⟨w5_74, w1_1, ⟨by decide, by decide⟩, by decide +kernel, by decide⟩
theorem pX7_checkScore : plainFor mX7_checkScore.1 = true := by decide +kernel
theorem vX7_checkScore : z_mv mX7_checkScore 7 := ⟨w5_73, wS59, ⟨(TX7, 13), rfl⟩⟩
def mX7_scoreOf : z_M := (yX7_scoreOf, cX7_scoreOf, 4, some .int)
theorem tX7_scoreOf : z_mt mX7_scoreOf 2 := ⟨w5_95, w1_1, ⟨by decide, by decide⟩, by decide +kernel, by decide⟩
theorem pX7_scoreOf : plainFor mX7_scoreOf.1 = true := by decide +kernel
theorem vX7_scoreOf : z_mv mX7_scoreOf 7 := ⟨w5_93, w5_94, ⟨(TX7, 13), rfl⟩⟩
def mX7_groupOf : z_M := (yX7_groupOf, cX7_groupOf, 2, some .int)
theorem tX7_groupOf : z_mt mX7_groupOf 1 := ⟨w5_102, w1_1, ⟨by decide, by decide⟩, by decide +kernel, by decide⟩
theorem pX7_groupOf : plainFor mX7_groupOf.1 = true := by decide +kernel
theorem vX7_groupOf : z_mv mX7_groupOf 7 := ⟨w5_100, w5_101, ⟨(TX7, 13), rfl⟩⟩
def mX7_entrants : z_M := (yX7_entrants, cX7_entrants, 1, some .int)
theorem tX7_entrants : z_mt mX7_entrants 0 := ⟨w2_50, w1_1, ⟨by decide, by decide⟩, by decide +kernel, by decide⟩
theorem pX7_entrants : plainFor mX7_entrants.1 = true := by decide +kernel
theorem vX7_entrants : z_mv mX7_entrants 7 := ⟨w2_48, w2_49, ⟨(TX7, 13), rfl⟩⟩
def mX7_at : z_M := (yX7_at, cX7_at, 2, some .int)
theorem tX7_at : z_mt mX7_at 1 := ⟨w5_109, w1_1, ⟨by decide, by decide⟩, by decide +kernel, by decide⟩
theorem pX7_at : plainFor mX7_at.1 = true := by decide +kernel
theorem vX7_at : z_mv mX7_at 7 := ⟨w5_107, w5_108, ⟨(TX7, 13), rfl⟩⟩
def mX7_place : z_M := (yX7_place, cX7_place, 2, some .int)
theorem tX7_place : z_mt mX7_place 1 := ⟨w5_117, w1_1, ⟨by decide, by decide⟩, by decide +kernel, by decide⟩
theorem pX7_place : plainFor mX7_place.1 = true := by decide +kernel
theorem vX7_place : z_mv mX7_place 7 := ⟨w5_115, w5_116, ⟨(TX7, 13), rfl⟩⟩
def mX7_rank : z_M := (yX7_rank, cX7_rank, 4, some .int)
theorem tX7_rank : z_mt mX7_rank 2 := ⟨w5_124, w1_1, ⟨by decide, by decide⟩, by decide +kernel, by decide⟩
theorem pX7_rank : plainFor mX7_rank.1 = true := by decide +kernel
theorem vX7_rank : z_mv mX7_rank 7 := ⟨w5_122, w5_123, ⟨(TX7, 13), rfl⟩⟩
def mX7_alike : z_M := (yX7_alike, cX7_alike, 2, some .int)
theorem tX7_alike : z_mt mX7_alike 1 := ⟨w5_137, w1_1, ⟨by decide, by decide⟩, by decide +kernel, by decide⟩
theorem pX7_alike : plainFor mX7_alike.1 = true := by decide +kernel
theorem vX7_alike : z_mv mX7_alike 7 := ⟨w5_135, w5_136, ⟨(TX7, 13), rfl⟩⟩
def mX7_results : z_M := (yX7_results, cX7_results, 1, some .int)
theorem tX7_results : z_mt mX7_results 0 := ⟨w2_58, w1_1, ⟨by decide, by decide⟩, by decide +kernel, by decide⟩
theorem pX7_results : plainFor mX7_results.1 = true := by decide +kernel
theorem vX7_results : z_mv mX7_results 7 := ⟨w2_56, w2_57, ⟨(TX7, 13), rfl⟩⟩
def mX7_rankSum : z_M := (yX7_rankSum, cX7_rankSum, 3, some .int)
theorem tX7_rankSum : z_mt mX7_rankSum 0 := ⟨w2_94, w1_1, ⟨by decide, by decide⟩, by decide +kernel, by decide⟩
theorem pX7_rankSum : plainFor mX7_rankSum.1 = true := by decide +kernel
theorem vX7_rankSum : z_mv mX7_rankSum 7 := ⟨w2_92, w2_93, ⟨(TX7, 13), rfl⟩⟩
def mX7_wouldGain : z_M := (yX7_wouldGain, cX7_wouldGain, 6, some .int)
theorem tX7_wouldGain : z_mt mX7_wouldGain 3 := ⟨w5_145, w1_1, ⟨by decide, by decide⟩, by decide +kernel, by decide⟩
theorem pX7_wouldGain : plainFor mX7_wouldGain.1 = true := by decide +kernel
theorem vX7_wouldGain : z_mv mX7_wouldGain 7 := ⟨w5_143, w5_144, ⟨(TX7, 13), rfl⟩⟩
def mX7_tryWith : z_M := (yX7_tryWith, cX7_tryWith, 5, none)
theorem tX7_tryWith : z_mt mX7_tryWith 3 := ⟨w2_156, w1_1, ⟨by decide, by decide⟩, by decide +kernel, by decide⟩
theorem pX7_tryWith : plainFor mX7_tryWith.1 = true := by decide +kernel
theorem vX7_tryWith : z_mv mX7_tryWith 7 := ⟨w2_155, wS14, ⟨(TX7, 13), rfl⟩⟩
def mX7_needed : z_M := (yX7_needed, cX7_needed, 5, some .int)
theorem tX7_needed : z_mt mX7_needed 2 := ⟨w5_152, w1_1, ⟨by decide, by decide⟩, by decide +kernel, by decide⟩
theorem pX7_needed : plainFor mX7_needed.1 = true := by decide +kernel
theorem vX7_needed : z_mv mX7_needed 7 := ⟨w5_150, w5_151, ⟨(TX7, 13), rfl⟩⟩
def mX7_rankWith : z_M := (yX7_rankWith, cX7_rankWith, 3, some .int)
theorem tX7_rankWith : z_mt mX7_rankWith 2 := ⟨w5_159, w1_1, ⟨by decide, by decide⟩, by decide +kernel, by decide⟩
theorem pX7_rankWith : plainFor mX7_rankWith.1 = true := by decide +kernel
theorem vX7_rankWith : z_mv mX7_rankWith 7 := ⟨w5_158, wS62, ⟨(TX7, 13), rfl⟩⟩
def mX7_leastNeeded : z_M := (yX7_leastNeeded, cX7_leastNeeded, 8, some .int)
theorem tX7_leastNeeded : z_mt mX7_leastNeeded 3 := ⟨w5_163, w1_1, ⟨by decide, by decide⟩, by decide +kernel, by decide⟩
theorem pX7_leastNeeded : plainFor mX7_leastNeeded.1 = true := by decide +kernel
theorem vX7_leastNeeded : z_mv mX7_leastNeeded 7 := ⟨w5_162, wS63, ⟨(TX7, 13), rfl⟩⟩
def mX7_above : z_M := (yX7_above, cX7_above, 2, some .int)
theorem tX7_above : z_mt mX7_above 1 := ⟨w2_112, w1_1, ⟨by decide, by decide⟩, by decide +kernel, by decide⟩
theorem pX7_above : plainFor mX7_above.1 = true := by decide +kernel
theorem vX7_above : z_mv mX7_above 7 := ⟨w2_110, w2_111, ⟨(TX7, 13), rfl⟩⟩
def mX7_with : z_M := (yX7_with, cX7_with, 2, some .int)
theorem tX7_with : z_mt mX7_with 1 := ⟨w2_127, w1_1, ⟨by decide, by decide⟩, by decide +kernel, by decide⟩
theorem pX7_with : plainFor mX7_with.1 = true := by decide +kernel
theorem vX7_with : z_mv mX7_with 7 := ⟨w2_125, w2_126, ⟨(TX7, 13), rfl⟩⟩
def mX7_withAt : z_M := (yX7_withAt, cX7_withAt, 5, some .int)
theorem tX7_withAt : z_mt mX7_withAt 2 := ⟨w2_135, w1_1, ⟨by decide, by decide⟩, by decide +kernel, by decide⟩
theorem pX7_withAt : plainFor mX7_withAt.1 = true := by decide +kernel
theorem vX7_withAt : z_mv mX7_withAt 7 := ⟨w2_133, w2_134, ⟨(TX7, 13), rfl⟩⟩
def mX7_next : z_M := (yX7_next, cX7_next, 3, some .int)
theorem tX7_next : z_mt mX7_next 1 := ⟨w5_171, w1_1, ⟨by decide, by decide⟩, by decide +kernel, by decide⟩
theorem pX7_next : plainFor mX7_next.1 = true := by decide +kernel
theorem vX7_next : z_mv mX7_next 7 := ⟨w5_169, w5_170, ⟨(TX7, 13), rfl⟩⟩
def mX7_between : z_M := (yX7_between, cX7_between, 3, some .int)
theorem tX7_between : z_mt mX7_between 2 := ⟨w5_194, w1_1, ⟨by decide, by decide⟩, by decide +kernel, by decide⟩
theorem pX7_between : plainFor mX7_between.1 = true := by decide +kernel
theorem vX7_between : z_mv mX7_between 7 := ⟨w5_192, w5_193, ⟨(TX7, 13), rfl⟩⟩
def mX7_median : z_M := (yX7_median, cX7_median, 2, some .int)
theorem tX7_median : z_mt mX7_median 1 := ⟨w5_202, w1_1, ⟨by decide, by decide⟩, by decide +kernel, by decide⟩
theorem pX7_median : plainFor mX7_median.1 = true := by decide +kernel
theorem vX7_median : z_mv mX7_median 7 := ⟨w5_200, w5_201, ⟨(TX7, 13), rfl⟩⟩
def mX7_checkSomebodyIsThere : z_M := (yX7_checkSomebodyIsThere, cX7_checkSomebodyIsThere, 1, none)
theorem tX7_checkSomebodyIsThere : z_mt mX7_checkSomebodyIsThere 0 := ⟨w5_206, w1_1, ⟨by decide, by decide⟩, by decide +kernel, by decide⟩
theorem pX7_checkSomebodyIsThere : plainFor mX7_checkSomebodyIsThere.1 = true := by decide +kernel
theorem vX7_checkSomebodyIsThere : z_mv mX7_checkSomebodyIsThere 7 := ⟨w5_205, wS64, ⟨(TX7, 13), rfl⟩⟩
def mX7_medianPlace : z_M := (yX7_medianPlace, cX7_medianPlace, 3, some .int)
theorem tX7_medianPlace : z_mt mX7_medianPlace 1 := ⟨w2_205, w1_1, ⟨by decide, by decide⟩, by decide +kernel, by decide⟩
theorem pX7_medianPlace : plainFor mX7_medianPlace.1 = true := by decide +kernel
theorem vX7_medianPlace : z_mv mX7_medianPlace 7 := ⟨w2_204, wS25, ⟨(TX7, 13), rfl⟩⟩
def mX7_quantile : z_M := (yX7_quantile, cX7_quantile, 4, some .int)
theorem tX7_quantile : z_mt mX7_quantile 2 := ⟨w5_214, w1_1, ⟨by decide, by decide⟩, by decide +kernel, by decide⟩
theorem pX7_quantile : plainFor mX7_quantile.1 = true := by decide +kernel
theorem vX7_quantile : z_mv mX7_quantile 7 := ⟨w5_212, w5_213, ⟨(TX7, 13), rfl⟩⟩
def mX7_enter : z_M := (yX7_enter, cX7_enter, 3, some .int)
theorem tX7_enter : z_mt mX7_enter 1 := ⟨w5_223, w1_1, ⟨by decide, by decide⟩, by decide +kernel, by decide⟩
theorem pX7_enter : plainFor mX7_enter.1 = true := by decide +kernel
theorem vX7_enter : z_mv mX7_enter 7 := ⟨w5_221, w5_222, ⟨(TX7, 13), rfl⟩⟩
def mX7_challenge : z_M := (yX7_challenge, cX7_challenge, 8, some .int)
theorem tX7_challenge : z_mt mX7_challenge 3 := ⟨w5_237, w1_1, ⟨by decide, by decide⟩, by decide +kernel, by decide⟩
theorem pX7_challenge : plainFor mX7_challenge.1 = true := by decide +kernel
theorem vX7_challenge : z_mv mX7_challenge 7 := ⟨w5_235, w5_236, ⟨(TX7, 13), rfl⟩⟩
def mX7_mayChallenge : z_M := (yX7_mayChallenge, cX7_mayChallenge, 3, some .int)
theorem tX7_mayChallenge : z_mt mX7_mayChallenge 1 := ⟨w6_11, w1_1, ⟨by decide, by decide⟩, by decide +kernel, by decide⟩
theorem pX7_mayChallenge : plainFor mX7_mayChallenge.1 = true := by decide +kernel
theorem vX7_mayChallenge : z_mv mX7_mayChallenge 7 := ⟨w6_9, w6_10, ⟨(TX7, 13), rfl⟩⟩
def mX7_setReach : z_M := (yX7_setReach, cX7_setReach, 3, some .int)
theorem tX7_setReach : z_mt mX7_setReach 1 := ⟨w6_18, w1_1, ⟨by decide, by decide⟩, by decide +kernel, by decide⟩
theorem pX7_setReach : plainFor mX7_setReach.1 = true := by decide +kernel
theorem vX7_setReach : z_mv mX7_setReach 7 := ⟨w6_16, w6_17, ⟨(TX7, 13), rfl⟩⟩
def mX7_setPatience : z_M := (yX7_setPatience, cX7_setPatience, 3, some .int)
theorem tX7_setPatience : z_mt mX7_setPatience 1 := ⟨w6_26, w1_1, ⟨by decide, by decide⟩, by decide +kernel, by decide⟩
theorem pX7_setPatience : plainFor mX7_setPatience.1 = true := by decide +kernel
theorem vX7_setPatience : z_mv mX7_setPatience 7 := ⟨w6_24, w6_25, ⟨(TX7, 13), rfl⟩⟩
def mX7_ladderAt : z_M := (yX7_ladderAt, cX7_ladderAt, 2, some .int)
theorem tX7_ladderAt : z_mt mX7_ladderAt 1 := ⟨w6_34, w1_1, ⟨by decide, by decide⟩, by decide +kernel, by decide⟩
theorem pX7_ladderAt : plainFor mX7_ladderAt.1 = true := by decide +kernel
theorem vX7_ladderAt : z_mv mX7_ladderAt 7 := ⟨w6_32, w6_33, ⟨(TX7, 13), rfl⟩⟩
def mX7_ladderPlace : z_M := (yX7_ladderPlace, cX7_ladderPlace, 2, some .int)
theorem tX7_ladderPlace : z_mt mX7_ladderPlace 1 := ⟨w6_41, w1_1, ⟨by decide, by decide⟩, by decide +kernel, by decide⟩
theorem pX7_ladderPlace : plainFor mX7_ladderPlace.1 = true := by decide +kernel
theorem vX7_ladderPlace : z_mv mX7_ladderPlace 7 := ⟨w6_39, w6_40, ⟨(TX7, 13), rfl⟩⟩
def mX7_endRound : z_M := (yX7_endRound, cX7_endRound, 2, some .int)
theorem tX7_endRound : z_mt mX7_endRound 0 := ⟨w6_48, w1_1, ⟨by decide, by decide⟩, by decide +kernel, by decide⟩
theorem pX7_endRound : plainFor mX7_endRound.1 = true := by decide +kernel
theorem vX7_endRound : z_mv mX7_endRound 7 := ⟨w6_46, w6_47, ⟨(TX7, 13), rfl⟩⟩
def mX7_round : z_M := (yX7_round, cX7_round, 1, some .int)
theorem tX7_round : z_mt mX7_round 0 := ⟨w2_139, w1_1, ⟨by decide, by decide⟩, by decide +kernel, by decide⟩
theorem pX7_round : plainFor mX7_round.1 = true := by decide +kernel
theorem vX7_round : z_mv mX7_round 7 := ⟨w2_137, w2_138, ⟨(TX7, 13), rfl⟩⟩
def mX7_gain : z_M := (yX7_gain, cX7_gain, 2, some .int)
theorem tX7_gain : z_mt mX7_gain 1 := ⟨w6_71, w1_1, ⟨by decide, by decide⟩, by decide +kernel, by decide⟩
theorem pX7_gain : plainFor mX7_gain.1 = true := by decide +kernel
theorem vX7_gain : z_mv mX7_gain 7 := ⟨w6_69, w6_70, ⟨(TX7, 13), rfl⟩⟩
def mX7_form : z_M := (yX7_form, cX7_form, 5, some .int)
theorem tX7_form : z_mt mX7_form 3 := ⟨w6_78, w1_1, ⟨by decide, by decide⟩, by decide +kernel, by decide⟩
theorem pX7_form : plainFor mX7_form.1 = true := by decide +kernel
theorem vX7_form : z_mv mX7_form 7 := ⟨w6_76, w6_77, ⟨(TX7, 13), rfl⟩⟩
def mX7_checkForm : z_M := (yX7_checkForm, cX7_checkForm, 3, none)
theorem tX7_checkForm : z_mt mX7_checkForm 2 := ⟨w6_82, w1_1, ⟨by decide, by decide⟩, by decide +kernel, by decide⟩
theorem pX7_checkForm : plainFor mX7_checkForm.1 = true := by decide +kernel
theorem vX7_checkForm : z_mv mX7_checkForm 7 := ⟨w6_81, wS69, ⟨(TX7, 13), rfl⟩⟩
def mX7_formBy : z_M := (yX7_formBy, cX7_formBy, 9, some .int)
theorem tX7_formBy : z_mt mX7_formBy 3 := ⟨w6_87, w1_1, ⟨by decide, by decide⟩, by decide +kernel, by decide⟩
theorem pX7_formBy : plainFor mX7_formBy.1 = true := by decide +kernel
theorem vX7_formBy : z_mv mX7_formBy 7 := ⟨w6_86, wS70, ⟨(TX7, 13), rfl⟩⟩
def mX7_inForm : z_M := (yX7_inForm, cX7_inForm, 8, some .int)
theorem tX7_inForm : z_mt mX7_inForm 2 := ⟨w6_98, w1_1, ⟨by decide, by decide⟩, by decide +kernel, by decide⟩
theorem pX7_inForm : plainFor mX7_inForm.1 = true := by decide +kernel
theorem vX7_inForm : z_mv mX7_inForm 7 := ⟨w6_96, w6_97, ⟨(TX7, 13), rfl⟩⟩
def mX7_placeThen : z_M := (yX7_placeThen, cX7_placeThen, 3, some .int)
theorem tX7_placeThen : z_mt mX7_placeThen 2 := ⟨w6_105, w1_1, ⟨by decide, by decide⟩, by decide +kernel, by decide⟩
theorem pX7_placeThen : plainFor mX7_placeThen.1 = true := by decide +kernel
theorem vX7_placeThen : z_mv mX7_placeThen 7 := ⟨w6_103, w6_104, ⟨(TX7, 13), rfl⟩⟩
def mX7_checkKept : z_M := (yX7_checkKept, cX7_checkKept, 2, none)
theorem tX7_checkKept : z_mt mX7_checkKept 1 := ⟨w6_109, w1_1, ⟨by decide, by decide⟩, by decide +kernel, by decide⟩
theorem pX7_checkKept : plainFor mX7_checkKept.1 = true := by decide +kernel
theorem vX7_checkKept : z_mv mX7_checkKept 7 := ⟨w6_108, wS72, ⟨(TX7, 13), rfl⟩⟩
def mX7_climb : z_M := (yX7_climb, cX7_climb, 7, some .int)
theorem tX7_climb : z_mt mX7_climb 1 := ⟨w6_122, w1_1, ⟨by decide, by decide⟩, by decide +kernel, by decide⟩
theorem pX7_climb : plainFor mX7_climb.1 = true := by decide +kernel
theorem vX7_climb : z_mv mX7_climb 7 := ⟨w6_120, w6_121, ⟨(TX7, 13), rfl⟩⟩
def mX7_best : z_M := (yX7_best, cX7_best, 3, some .int)
theorem tX7_best : z_mt mX7_best 1 := ⟨w6_129, w1_1, ⟨by decide, by decide⟩, by decide +kernel, by decide⟩
theorem pX7_best : plainFor mX7_best.1 = true := by decide +kernel
theorem vX7_best : z_mv mX7_best 7 := ⟨w6_127, w6_128, ⟨(TX7, 13), rfl⟩⟩
def mX7_members : z_M := (yX7_members, cX7_members, 2, some .int)
theorem tX7_members : z_mt mX7_members 1 := ⟨w6_140, w1_1, ⟨by decide, by decide⟩, by decide +kernel, by decide⟩
theorem pX7_members : plainFor mX7_members.1 = true := by decide +kernel
theorem vX7_members : z_mv mX7_members 7 := ⟨w6_138, w6_139, ⟨(TX7, 13), rfl⟩⟩
def mX7_teamScore : z_M := (yX7_teamScore, cX7_teamScore, 2, some .int)
theorem tX7_teamScore : z_mt mX7_teamScore 1 := ⟨w6_151, w1_1, ⟨by decide, by decide⟩, by decide +kernel, by decide⟩
theorem pX7_teamScore : plainFor mX7_teamScore.1 = true := by decide +kernel
theorem vX7_teamScore : z_mv mX7_teamScore 7 := ⟨w6_149, w6_150, ⟨(TX7, 13), rfl⟩⟩
def mX7_groupAt : z_M := (yX7_groupAt, cX7_groupAt, 3, some .int)
theorem tX7_groupAt : z_mt mX7_groupAt 1 := ⟨w6_162, w1_1, ⟨by decide, by decide⟩, by decide +kernel, by decide⟩
theorem pX7_groupAt : plainFor mX7_groupAt.1 = true := by decide +kernel
theorem vX7_groupAt : z_mv mX7_groupAt 7 := ⟨w6_160, w6_161, ⟨(TX7, 13), rfl⟩⟩
def mX7_groupRankedAt : z_M := (yX7_groupRankedAt, cX7_groupRankedAt, 3, some .int)
theorem tX7_groupRankedAt : z_mt mX7_groupRankedAt 1 := ⟨w6_166, w1_1, ⟨by decide, by decide⟩, by decide +kernel, by decide⟩
theorem pX7_groupRankedAt : plainFor mX7_groupRankedAt.1 = true := by decide +kernel
theorem vX7_groupRankedAt : z_mv mX7_groupRankedAt 7 := ⟨w6_165, wS77, ⟨(TX7, 13), rfl⟩⟩
def mX7_inversions : z_M := (yX7_inversions, cX7_inversions, 7, some .int)
theorem tX7_inversions : z_mt mX7_inversions 2 := ⟨w6_177, w1_1, ⟨by decide, by decide⟩, by decide +kernel, by decide⟩
theorem pX7_inversions : plainFor mX7_inversions.1 = true := by decide +kernel
theorem vX7_inversions : z_mv mX7_inversions 7 := ⟨w6_175, w6_176, ⟨(TX7, 13), rfl⟩⟩
def mX7_checkTold : z_M := (yX7_checkTold, cX7_checkTold, 2, none)
theorem tX7_checkTold : z_mt mX7_checkTold 1 := ⟨w6_181, w1_1, ⟨by decide, by decide⟩, by decide +kernel, by decide⟩
theorem pX7_checkTold : plainFor mX7_checkTold.1 = true := by decide +kernel
theorem vX7_checkTold : z_mv mX7_checkTold 7 := ⟨w6_180, wS79, ⟨(TX7, 13), rfl⟩⟩
def mX7_lineUp : z_M := (yX7_lineUp, cX7_lineUp, 7, some .int)
theorem tX7_lineUp : z_mt mX7_lineUp 2 := ⟨w6_185, w1_1, ⟨by decide, by decide⟩, by decide +kernel, by decide⟩
theorem pX7_lineUp : plainFor mX7_lineUp.1 = true := by decide +kernel
theorem vX7_lineUp : z_mv mX7_lineUp 7 := ⟨w6_184, wS80, ⟨(TX7, 13), rfl⟩⟩
def mX7_swaps : z_M := (yX7_swaps, cX7_swaps, 6, some .int)
theorem tX7_swaps : z_mt mX7_swaps 2 := ⟨w6_197, w1_1, ⟨by decide, by decide⟩, by decide +kernel, by decide⟩
theorem pX7_swaps : plainFor mX7_swaps.1 = true := by decide +kernel
theorem vX7_swaps : z_mv mX7_swaps 7 := ⟨w6_195, w6_196, ⟨(TX7, 13), rfl⟩⟩
def mX7_swapNeighbours : z_M := (yX7_swapNeighbours, cX7_swapNeighbours, 5, some .int)
theorem tX7_swapNeighbours : z_mt mX7_swapNeighbours 1 := ⟨w6_201, w1_1, ⟨by decide, by decide⟩, by decide +kernel, by decide⟩
theorem pX7_swapNeighbours : plainFor mX7_swapNeighbours.1 = true := by decide +kernel
theorem vX7_swapNeighbours : z_mv mX7_swapNeighbours 7 := ⟨w6_200, wS82, ⟨(TX7, 13), rfl⟩⟩
def mX7_meanPoints : z_M := (yX7_meanPoints, cX7_meanPoints, 4, some .double)
theorem tX7_meanPoints : z_mt mX7_meanPoints 0 := ⟨w2_143, w1_1, ⟨by decide, by decide⟩, by decide +kernel, by decide⟩
theorem pX7_meanPoints : plainFor mX7_meanPoints.1 = true := by decide +kernel
theorem vX7_meanPoints : z_mv mX7_meanPoints 7 := ⟨w2_141, w2_142, ⟨(TX7, 13), rfl⟩⟩
def mX7_beats : z_M := (yX7_beats, cX7_beats, 4, some .float)
theorem tX7_beats : z_mt mX7_beats 1 := ⟨w6_208, w1_1, ⟨by decide, by decide⟩, by decide +kernel, by decide⟩
theorem pX7_beats : plainFor mX7_beats.1 = true := by decide +kernel
theorem vX7_beats : z_mv mX7_beats 7 := ⟨w6_206, w6_207, ⟨(TX7, 13), rfl⟩⟩
def mX7_errors : z_M := (yX7_errors, cX7_errors, 1, some .int)
theorem tX7_errors : z_mt mX7_errors 0 := ⟨w2_148, w1_1, ⟨by decide, by decide⟩, by decide +kernel, by decide⟩
theorem pX7_errors : plainFor mX7_errors.1 = true := by decide +kernel
theorem vX7_errors : z_mv mX7_errors 7 := ⟨w2_146, w2_147, ⟨(TX7, 13), rfl⟩⟩
def mX7_wrongPlaces : z_M := (yX7_wrongPlaces, cX7_wrongPlaces, 4, some .int)
theorem tX7_wrongPlaces : z_mt mX7_wrongPlaces 0 := ⟨w2_152, w1_1, ⟨by decide, by decide⟩, by decide +kernel, by decide⟩
theorem pX7_wrongPlaces : plainFor mX7_wrongPlaces.1 = true := by decide +kernel
theorem vX7_wrongPlaces : z_mv mX7_wrongPlaces 7 := ⟨w2_151, wS13, ⟨(TX7, 13), rfl⟩⟩
def mX7_wrongPoints : z_M := (yX7_wrongPoints, cX7_wrongPoints, 4, some .int)
theorem tX7_wrongPoints : z_mt mX7_wrongPoints 0 := ⟨w2_185, w1_1, ⟨by decide, by decide⟩, by decide +kernel, by decide⟩
theorem pX7_wrongPoints : plainFor mX7_wrongPoints.1 = true := by decide +kernel
theorem vX7_wrongPoints : z_mv mX7_wrongPoints 7 := ⟨w2_184, wS21, ⟨(TX7, 13), rfl⟩⟩
def mX7_wrongMedian : z_M := (yX7_wrongMedian, cX7_wrongMedian, 4, some .int)
theorem tX7_wrongMedian : z_mt mX7_wrongMedian 1 := ⟨w2_197, w1_1, ⟨by decide, by decide⟩, by decide +kernel, by decide⟩
theorem pX7_wrongMedian : plainFor mX7_wrongMedian.1 = true := by decide +kernel
theorem vX7_wrongMedian : z_mv mX7_wrongMedian 7 := ⟨w2_196, wS24, ⟨(TX7, 13), rfl⟩⟩
def mX7_countGroupsAhead : z_M := (yX7_countGroupsAhead, cX7_countGroupsAhead, 7, some .int)
theorem tX7_countGroupsAhead : z_mt mX7_countGroupsAhead 1 := ⟨w6_170, w1_1, ⟨by decide, by decide⟩, by decide +kernel, by decide⟩
theorem pX7_countGroupsAhead : plainFor mX7_countGroupsAhead.1 = true := by decide +kernel
theorem vX7_countGroupsAhead : z_mv mX7_countGroupsAhead 7 := ⟨w6_169, wS78, ⟨(TX7, 13), rfl⟩⟩
def mX7_placeAt : z_M := (yX7_placeAt, cX7_placeAt, 3, some .int)
theorem tX7_placeAt : z_mt mX7_placeAt 2 := ⟨w6_190, w1_1, ⟨by decide, by decide⟩, by decide +kernel, by decide⟩
theorem pX7_placeAt : plainFor mX7_placeAt.1 = true := by decide +kernel
theorem vX7_placeAt : z_mv mX7_placeAt 7 := ⟨w6_189, wS81, ⟨(TX7, 13), rfl⟩⟩
def mX7_isFirstWithItsPoints : z_M := (yX7_isFirstWithItsPoints, cX7_isFirstWithItsPoints, 3, some .boolean)
theorem tX7_isFirstWithItsPoints : z_mt mX7_isFirstWithItsPoints 1 := ⟨w2_189, w1_1, ⟨by decide, by decide⟩, by decide +kernel, by decide⟩
theorem pX7_isFirstWithItsPoints : plainFor mX7_isFirstWithItsPoints.1 = true := by decide +kernel
theorem vX7_isFirstWithItsPoints : z_mv mX7_isFirstWithItsPoints 7 := ⟨w2_188, wS22, ⟨(TX7, 13), rfl⟩⟩
def mX7_countPresentUpTo : z_M := (yX7_countPresentUpTo, cX7_countPresentUpTo, 4, some .int)
theorem tX7_countPresentUpTo : z_mt mX7_countPresentUpTo 1 := ⟨w2_193, w1_1, ⟨by decide, by decide⟩, by decide +kernel, by decide⟩
theorem pX7_countPresentUpTo : plainFor mX7_countPresentUpTo.1 = true := by decide +kernel
theorem vX7_countPresentUpTo : z_mv mX7_countPresentUpTo 7 := ⟨w2_192, wS23, ⟨(TX7, 13), rfl⟩⟩
def mX8_thrown : z_M := (yX8_thrown, cX8_thrown, 1, some .int)
theorem tX8_thrown : z_mt mX8_thrown 0 := ⟨w6_216, w1_13, ⟨by decide, by decide⟩, by decide +kernel, by decide⟩
theorem pX8_thrown : plainFor mX8_thrown.1 = true := by decide +kernel
theorem vX8_thrown : z_mv mX8_thrown 8 := ⟨w6_214, w6_215, ⟨(TX8, 32), rfl⟩⟩
def mX8_in : z_M := (yX8_in, cX8_in, 3, some .boolean)
theorem tX8_in : z_mt mX8_in 3 := ⟨w7_114, w1_13, ⟨by decide, by decide⟩, by decide +kernel, by decide⟩
theorem pX8_in : plainFor mX8_in.1 = true := by decide +kernel
theorem sX8_in : Cond.static mX8_in.1 ∈ lw_tbl := w7_113
def mX8_fails : z_M := (yX8_fails, cX8_fails, 3, some .boolean)
theorem tX8_fails : z_mt mX8_fails 2 := ⟨w7_91, w1_13, ⟨by decide, by decide⟩, by decide +kernel, by decide⟩
theorem pX8_fails : plainFor mX8_fails.1 = true := by decide +kernel
theorem vX8_fails : z_mv mX8_fails 8 := ⟨w7_90, wS84, ⟨(TX8, 32), rfl⟩⟩
def mX8_init : z_M := (yX8_init, cX8_init, 1, none)
theorem tX8_init : z_mt mX8_init 0 := ⟨w6_221, w1_13, ⟨by decide, by decide⟩, by decide +kernel, by decide⟩
theorem pX8_init : plainFor mX8_init.1 = true := by decide +kernel
theorem iX8_init : (mX8_init.1.name = "<init>" ∧ mX8_init.2.2.2 = none) ∧ Cond.instanceMethod mX8_init.1 ∈ lw_tbl := ⟨⟨rfl, rfl⟩, w6_220⟩
def mX8_bytesIn : z_M := (yX8_bytesIn, cX8_bytesIn, 3, some .int)
theorem tX8_bytesIn : z_mt mX8_bytesIn 1 := ⟨w7_87, w1_13, ⟨by decide, by decide⟩, by decide +kernel, by decide⟩
theorem pX8_bytesIn : plainFor mX8_bytesIn.1 = true := by decide +kernel
theorem sX8_bytesIn : Cond.static mX8_bytesIn.1 ∈ lw_tbl := w7_86
def mX8_takesBytes : z_M := (yX8_takesBytes, cX8_takesBytes, 4, none)
theorem tX8_takesBytes : z_mt mX8_takesBytes 1 := ⟨w7_95, w1_13, ⟨by decide, by decide⟩, by decide +kernel, by decide⟩
theorem pX8_takesBytes : plainFor mX8_takesBytes.1 = true := by decide +kernel
theorem vX8_takesBytes : z_mv mX8_takesBytes 8 := ⟨w7_94, wS85, ⟨(TX8, 32), rfl⟩⟩
def mX8_append : z_M := (yX8_append, cX8_append, 7, some .int)
theorem tX8_append : z_mt mX8_append 5 := ⟨w7_84, w1_13, ⟨by decide, by decide⟩, by decide +kernel, by decide⟩
theorem pX8_append : plainFor mX8_append.1 = true := by decide +kernel
theorem vX8_append : z_mv mX8_append 8 := ⟨w7_82, w7_83, ⟨(TX8, 32), rfl⟩⟩
def mX8_clearTape : z_M := (yX8_clearTape, cX8_clearTape, 2, some .int)
theorem tX8_clearTape : z_mt mX8_clearTape 0 := ⟨w7_99, w1_13, ⟨by decide, by decide⟩, by decide +kernel, by decide⟩
theorem pX8_clearTape : plainFor mX8_clearTape.1 = true := by decide +kernel
theorem vX8_clearTape : z_mv mX8_clearTape 8 := ⟨w7_97, w7_98, ⟨(TX8, 32), rfl⟩⟩
def mX8_isSign : z_M := (yX8_isSign, cX8_isSign, 1, some .boolean)
theorem tX8_isSign : z_mt mX8_isSign 1 := ⟨w7_117, w1_13, ⟨by decide, by decide⟩, by decide +kernel, by decide⟩
theorem pX8_isSign : plainFor mX8_isSign.1 = true := by decide +kernel
theorem sX8_isSign : Cond.static mX8_isSign.1 ∈ lw_tbl := w7_116
def mX8_reads : z_M := (yX8_reads, cX8_reads, 3, none)
theorem tX8_reads : z_mt mX8_reads 0 := ⟨w7_111, w1_13, ⟨by decide, by decide⟩, by decide +kernel, by decide⟩
theorem pX8_reads : plainFor mX8_reads.1 = true := by decide +kernel
theorem vX8_reads : z_mv mX8_reads 8 := ⟨w7_110, wS87, ⟨(TX8, 32), rfl⟩⟩
def mX8_isSignNow : z_M := (yX8_isSignNow, cX8_isSignNow, 2, some .boolean)
theorem tX8_isSignNow : z_mt mX8_isSignNow 1 := ⟨w7_125, w1_13, ⟨by decide, by decide⟩, by decide +kernel, by decide⟩
theorem pX8_isSignNow : plainFor mX8_isSignNow.1 = true := by decide +kernel
theorem vX8_isSignNow : z_mv mX8_isSignNow 8 := ⟨w7_124, wS89, ⟨(TX8, 32), rfl⟩⟩
def mX8_readsTerm : z_M := (yX8_readsTerm, cX8_readsTerm, 3, some .boolean)
theorem tX8_readsTerm : z_mt mX8_readsTerm 1 := ⟨w7_129, w1_13, ⟨by decide, by decide⟩, by decide +kernel, by decide⟩
theorem pX8_readsTerm : plainFor mX8_readsTerm.1 = true := by decide +kernel
theorem vX8_readsTerm : z_mv mX8_readsTerm 8 := ⟨w7_128, wS90, ⟨(TX8, 32), rfl⟩⟩
def mX8_readsCriterion : z_M := (yX8_readsCriterion, cX8_readsCriterion, 3, some .boolean)
theorem tX8_readsCriterion : z_mt mX8_readsCriterion 0 := ⟨w7_121, w1_13, ⟨by decide, by decide⟩, by decide +kernel, by decide⟩
theorem pX8_readsCriterion : plainFor mX8_readsCriterion.1 = true := by decide +kernel
theorem vX8_readsCriterion : z_mv mX8_readsCriterion 8 := ⟨w7_120, wS88, ⟨(TX8, 32), rfl⟩⟩
def mX8_readsOrder : z_M := (yX8_readsOrder, cX8_readsOrder, 1, some .boolean)
theorem tX8_readsOrder : z_mt mX8_readsOrder 0 := ⟨w7_107, w1_13, ⟨by decide, by decide⟩, by decide +kernel, by decide⟩
theorem pX8_readsOrder : plainFor mX8_readsOrder.1 = true := by decide +kernel
theorem vX8_readsOrder : z_mv mX8_readsOrder 8 := ⟨w7_106, wS86, ⟨(TX8, 32), rfl⟩⟩
def mX8_setOrder : z_M := (yX8_setOrder, cX8_setOrder, 3, some .int)
theorem tX8_setOrder : z_mt mX8_setOrder 0 := ⟨w7_103, w1_13, ⟨by decide, by decide⟩, by decide +kernel, by decide⟩
theorem pX8_setOrder : plainFor mX8_setOrder.1 = true := by decide +kernel
theorem vX8_setOrder : z_mv mX8_setOrder 8 := ⟨w7_101, w7_102, ⟨(TX8, 32), rfl⟩⟩
def mX8_errorPosition : z_M := (yX8_errorPosition, cX8_errorPosition, 1, some .int)
theorem tX8_errorPosition : z_mt mX8_errorPosition 0 := ⟨w7_133, w1_13, ⟨by decide, by decide⟩, by decide +kernel, by decide⟩
theorem pX8_errorPosition : plainFor mX8_errorPosition.1 = true := by decide +kernel
theorem vX8_errorPosition : z_mv mX8_errorPosition 8 := ⟨w7_131, w7_132, ⟨(TX8, 32), rfl⟩⟩
def mX8_noEntrant : z_M := (yX8_noEntrant, cX8_noEntrant, 2, some .boolean)
theorem tX8_noEntrant : z_mt mX8_noEntrant 1 := ⟨w7_141, w1_13, ⟨by decide, by decide⟩, by decide +kernel, by decide⟩
theorem pX8_noEntrant : plainFor mX8_noEntrant.1 = true := by decide +kernel
theorem vX8_noEntrant : z_mv mX8_noEntrant 8 := ⟨w7_140, wS91, ⟨(TX8, 32), rfl⟩⟩
def mX8_valueOf : z_M := (yX8_valueOf, cX8_valueOf, 5, some .int)
theorem tX8_valueOf : z_mt mX8_valueOf 2 := ⟨w7_145, w1_13, ⟨by decide, by decide⟩, by decide +kernel, by decide⟩
theorem pX8_valueOf : plainFor mX8_valueOf.1 = true := by decide +kernel
theorem vX8_valueOf : z_mv mX8_valueOf 8 := ⟨w7_144, wS92, ⟨(TX8, 32), rfl⟩⟩
def mX8_criterion : z_M := (yX8_criterion, cX8_criterion, 3, some .int)
theorem tX8_criterion : z_mt mX8_criterion 2 := ⟨w7_137, w1_13, ⟨by decide, by decide⟩, by decide +kernel, by decide⟩
theorem pX8_criterion : plainFor mX8_criterion.1 = true := by decide +kernel
theorem vX8_criterion : z_mv mX8_criterion 8 := ⟨w7_135, w7_136, ⟨(TX8, 32), rfl⟩⟩
def mX8_come : z_M := (yX8_come, cX8_come, 3, some .int)
theorem tX8_come : z_mt mX8_come 1 := ⟨w7_149, w1_13, ⟨by decide, by decide⟩, by decide +kernel, by decide⟩
theorem pX8_come : plainFor mX8_come.1 = true := by decide +kernel
theorem vX8_come : z_mv mX8_come 8 := ⟨w7_147, w7_148, ⟨(TX8, 32), rfl⟩⟩
def mX8_comesToHave : z_M := (yX8_comesToHave, cX8_comesToHave, 2, none)
theorem tX8_comesToHave : z_mt mX8_comesToHave 1 := ⟨w7_153, w1_13, ⟨by decide, by decide⟩, by decide +kernel, by decide⟩
theorem pX8_comesToHave : plainFor mX8_comesToHave.1 = true := by decide +kernel
theorem vX8_comesToHave : z_mv mX8_comesToHave 8 := ⟨w7_152, wS93, ⟨(TX8, 32), rfl⟩⟩
def mX8_leave : z_M := (yX8_leave, cX8_leave, 5, some .int)
theorem tX8_leave : z_mt mX8_leave 1 := ⟨w7_157, w1_13, ⟨by decide, by decide⟩, by decide +kernel, by decide⟩
theorem pX8_leave : plainFor mX8_leave.1 = true := by decide +kernel
theorem vX8_leave : z_mv mX8_leave 8 := ⟨w7_155, w7_156, ⟨(TX8, 32), rfl⟩⟩
def mX8_placeOf : z_M := (yX8_placeOf, cX8_placeOf, 4, some .int)
theorem tX8_placeOf : z_mt mX8_placeOf 1 := ⟨w7_161, w1_13, ⟨by decide, by decide⟩, by decide +kernel, by decide⟩
theorem pX8_placeOf : plainFor mX8_placeOf.1 = true := by decide +kernel
theorem vX8_placeOf : z_mv mX8_placeOf 8 := ⟨w7_160, wS94, ⟨(TX8, 32), rfl⟩⟩
def mX8_ladderPlaceOf : z_M := (yX8_ladderPlaceOf, cX8_ladderPlaceOf, 3, some .int)
theorem tX8_ladderPlaceOf : z_mt mX8_ladderPlaceOf 1 := ⟨w7_173, w1_13, ⟨by decide, by decide⟩, by decide +kernel, by decide⟩
theorem pX8_ladderPlaceOf : plainFor mX8_ladderPlaceOf.1 = true := by decide +kernel
theorem vX8_ladderPlaceOf : z_mv mX8_ladderPlaceOf 8 := ⟨w7_172, wS97, ⟨(TX8, 32), rfl⟩⟩
def mX8_noKind : z_M := (yX8_noKind, cX8_noKind, 3, some .boolean)
theorem tX8_noKind : z_mt mX8_noKind 2 := ⟨w7_181, w1_13, ⟨by decide, by decide⟩, by decide +kernel, by decide⟩
theorem pX8_noKind : plainFor mX8_noKind.1 = true := by decide +kernel
theorem vX8_noKind : z_mv mX8_noKind 8 := ⟨w7_180, wS98, ⟨(TX8, 32), rfl⟩⟩
def mX8_isScore : z_M := (yX8_isScore, cX8_isScore, 2, some .boolean)
theorem tX8_isScore : z_mt mX8_isScore 1 := ⟨w7_184, w1_13, ⟨by decide, by decide⟩, by decide +kernel, by decide⟩
theorem pX8_isScore : plainFor mX8_isScore.1 = true := by decide +kernel
theorem sX8_isScore : Cond.static mX8_isScore.1 ∈ lw_tbl := w7_183
def mX8_becomes : z_M := (yX8_becomes, cX8_becomes, 5, some .int)
theorem tX8_becomes : z_mt mX8_becomes 3 := ⟨w7_190, w1_13, ⟨by decide, by decide⟩, by decide +kernel, by decide⟩
theorem pX8_becomes : plainFor mX8_becomes.1 = true := by decide +kernel
theorem vX8_becomes : z_mv mX8_becomes 8 := ⟨w7_189, wS99, ⟨(TX8, 32), rfl⟩⟩
def mX8_score : z_M := (yX8_score, cX8_score, 4, some .int)
theorem tX8_score : z_mt mX8_score 3 := ⟨w7_177, w1_13, ⟨by decide, by decide⟩, by decide +kernel, by decide⟩
theorem pX8_score : plainFor mX8_score.1 = true := by decide +kernel
theorem vX8_score : z_mv mX8_score 8 := ⟨w7_175, w7_176, ⟨(TX8, 32), rfl⟩⟩
def mX8_setScore : z_M := (yX8_setScore, cX8_setScore, 4, some .int)
theorem tX8_setScore : z_mt mX8_setScore 3 := ⟨w7_194, w1_13, ⟨by decide, by decide⟩, by decide +kernel, by decide⟩
theorem pX8_setScore : plainFor mX8_setScore.1 = true := by decide +kernel
theorem vX8_setScore : z_mv mX8_setScore 8 := ⟨w7_192, w7_193, ⟨(TX8, 32), rfl⟩⟩
def mX8_scoreOf : z_M := (yX8_scoreOf, cX8_scoreOf, 3, some .int)
theorem tX8_scoreOf : z_mt mX8_scoreOf 2 := ⟨w7_198, w1_13, ⟨by decide, by decide⟩, by decide +kernel, by decide⟩
theorem pX8_scoreOf : plainFor mX8_scoreOf.1 = true := by decide +kernel
theorem vX8_scoreOf : z_mv mX8_scoreOf 8 := ⟨w7_196, w7_197, ⟨(TX8, 32), rfl⟩⟩
def mX8_groupOf : z_M := (yX8_groupOf, cX8_groupOf, 2, some .int)
theorem tX8_groupOf : z_mt mX8_groupOf 1 := ⟨w7_202, w1_13, ⟨by decide, by decide⟩, by decide +kernel, by decide⟩
theorem pX8_groupOf : plainFor mX8_groupOf.1 = true := by decide +kernel
theorem vX8_groupOf : z_mv mX8_groupOf 8 := ⟨w7_200, w7_201, ⟨(TX8, 32), rfl⟩⟩
def mX8_many : z_M := (yX8_many, cX8_many, 3, some .int)
theorem tX8_many : z_mt mX8_many 0 := ⟨w7_210, w1_13, ⟨by decide, by decide⟩, by decide +kernel, by decide⟩
theorem pX8_many : plainFor mX8_many.1 = true := by decide +kernel
theorem vX8_many : z_mv mX8_many 8 := ⟨w7_209, wS100, ⟨(TX8, 32), rfl⟩⟩
def mX8_entrants : z_M := (yX8_entrants, cX8_entrants, 1, some .int)
theorem tX8_entrants : z_mt mX8_entrants 0 := ⟨w7_206, w1_13, ⟨by decide, by decide⟩, by decide +kernel, by decide⟩
theorem pX8_entrants : plainFor mX8_entrants.1 = true := by decide +kernel
theorem vX8_entrants : z_mv mX8_entrants 8 := ⟨w7_204, w7_205, ⟨(TX8, 32), rfl⟩⟩
def mX8_compares : z_M := (yX8_compares, cX8_compares, 6, some .int)
theorem tX8_compares : z_mt mX8_compares 2 := ⟨w7_169, w1_13, ⟨by decide, by decide⟩, by decide +kernel, by decide⟩
theorem pX8_compares : plainFor mX8_compares.1 = true := by decide +kernel
theorem vX8_compares : z_mv mX8_compares 8 := ⟨w7_168, wS96, ⟨(TX8, 32), rfl⟩⟩
def mX8_better : z_M := (yX8_better, cX8_better, 4, some .int)
theorem tX8_better : z_mt mX8_better 1 := ⟨w7_165, w1_13, ⟨by decide, by decide⟩, by decide +kernel, by decide⟩
theorem pX8_better : plainFor mX8_better.1 = true := by decide +kernel
theorem vX8_better : z_mv mX8_better 8 := ⟨w7_164, wS95, ⟨(TX8, 32), rfl⟩⟩
def mX8_alikeWith : z_M := (yX8_alikeWith, cX8_alikeWith, 4, some .int)
theorem tX8_alikeWith : z_mt mX8_alikeWith 1 := ⟨w8_2, w1_13, ⟨by decide, by decide⟩, by decide +kernel, by decide⟩
theorem pX8_alikeWith : plainFor mX8_alikeWith.1 = true := by decide +kernel
theorem vX8_alikeWith : z_mv mX8_alikeWith 8 := ⟨w8_1, wS105, ⟨(TX8, 32), rfl⟩⟩
def mX8_entrantAt : z_M := (yX8_entrantAt, cX8_entrantAt, 3, some .int)
theorem tX8_entrantAt : z_mt mX8_entrantAt 1 := ⟨w7_218, w1_13, ⟨by decide, by decide⟩, by decide +kernel, by decide⟩
theorem pX8_entrantAt : plainFor mX8_entrantAt.1 = true := by decide +kernel
theorem vX8_entrantAt : z_mv mX8_entrantAt 8 := ⟨w7_217, wS101, ⟨(TX8, 32), rfl⟩⟩
def mX8_at : z_M := (yX8_at, cX8_at, 2, some .int)
theorem tX8_at : z_mt mX8_at 1 := ⟨w7_214, w1_13, ⟨by decide, by decide⟩, by decide +kernel, by decide⟩
theorem pX8_at : plainFor mX8_at.1 = true := by decide +kernel
theorem vX8_at : z_mv mX8_at 8 := ⟨w7_212, w7_213, ⟨(TX8, 32), rfl⟩⟩
def mX8_place : z_M := (yX8_place, cX8_place, 2, some .int)
theorem tX8_place : z_mt mX8_place 1 := ⟨w7_222, w1_13, ⟨by decide, by decide⟩, by decide +kernel, by decide⟩
theorem pX8_place : plainFor mX8_place.1 = true := by decide +kernel
theorem vX8_place : z_mv mX8_place 8 := ⟨w7_220, w7_221, ⟨(TX8, 32), rfl⟩⟩
def mX8_isFirst : z_M := (yX8_isFirst, cX8_isFirst, 3, some .boolean)
theorem tX8_isFirst : z_mt mX8_isFirst 1 := ⟨w7_234, w1_13, ⟨by decide, by decide⟩, by decide +kernel, by decide⟩
theorem pX8_isFirst : plainFor mX8_isFirst.1 = true := by decide +kernel
theorem vX8_isFirst : z_mv mX8_isFirst 8 := ⟨w7_233, wS103, ⟨(TX8, 32), rfl⟩⟩
def mX8_dense : z_M := (yX8_dense, cX8_dense, 4, some .int)
theorem tX8_dense : z_mt mX8_dense 1 := ⟨w7_230, w1_13, ⟨by decide, by decide⟩, by decide +kernel, by decide⟩
theorem pX8_dense : plainFor mX8_dense.1 = true := by decide +kernel
theorem vX8_dense : z_mv mX8_dense 8 := ⟨w7_229, wS102, ⟨(TX8, 32), rfl⟩⟩
def mX8_twiceMean : z_M := (yX8_twiceMean, cX8_twiceMean, 2, some .int)
theorem tX8_twiceMean : z_mt mX8_twiceMean 1 := ⟨w7_238, w1_13, ⟨by decide, by decide⟩, by decide +kernel, by decide⟩
theorem pX8_twiceMean : plainFor mX8_twiceMean.1 = true := by decide +kernel
theorem vX8_twiceMean : z_mv mX8_twiceMean 8 := ⟨w7_237, wS104, ⟨(TX8, 32), rfl⟩⟩
def mX8_rank : z_M := (yX8_rank, cX8_rank, 3, some .int)
theorem tX8_rank : z_mt mX8_rank 2 := ⟨w7_226, w1_13, ⟨by decide, by decide⟩, by decide +kernel, by decide⟩
theorem pX8_rank : plainFor mX8_rank.1 = true := by decide +kernel
theorem vX8_rank : z_mv mX8_rank 8 := ⟨w7_224, w7_225, ⟨(TX8, 32), rfl⟩⟩
def mX8_alike : z_M := (yX8_alike, cX8_alike, 2, some .int)
theorem tX8_alike : z_mt mX8_alike 1 := ⟨w8_6, w1_13, ⟨by decide, by decide⟩, by decide +kernel, by decide⟩
theorem pX8_alike : plainFor mX8_alike.1 = true := by decide +kernel
theorem vX8_alike : z_mv mX8_alike 8 := ⟨w8_4, w8_5, ⟨(TX8, 32), rfl⟩⟩
def mX8_results : z_M := (yX8_results, cX8_results, 3, some .int)
theorem tX8_results : z_mt mX8_results 0 := ⟨w8_10, w1_13, ⟨by decide, by decide⟩, by decide +kernel, by decide⟩
theorem pX8_results : plainFor mX8_results.1 = true := by decide +kernel
theorem vX8_results : z_mv mX8_results 8 := ⟨w8_8, w8_9, ⟨(TX8, 32), rfl⟩⟩
def mX8_rankSum : z_M := (yX8_rankSum, cX8_rankSum, 3, some .int)
theorem tX8_rankSum : z_mt mX8_rankSum 0 := ⟨w8_14, w1_13, ⟨by decide, by decide⟩, by decide +kernel, by decide⟩
theorem pX8_rankSum : plainFor mX8_rankSum.1 = true := by decide +kernel
theorem vX8_rankSum : z_mv mX8_rankSum 8 := ⟨w8_12, w8_13, ⟨(TX8, 32), rfl⟩⟩
def mX8_wouldGain : z_M := (yX8_wouldGain, cX8_wouldGain, 6, some .int)
theorem tX8_wouldGain : z_mt mX8_wouldGain 3 := ⟨w8_18, w1_13, ⟨by decide, by decide⟩, by decide +kernel, by decide⟩
theorem pX8_wouldGain : plainFor mX8_wouldGain.1 = true := by decide +kernel
theorem vX8_wouldGain : z_mv mX8_wouldGain 8 := ⟨w8_16, w8_17, ⟨(TX8, 32), rfl⟩⟩
def mX8_needed : z_M := (yX8_needed, cX8_needed, 6, some .int)
theorem tX8_needed : z_mt mX8_needed 2 := ⟨w8_22, w1_13, ⟨by decide, by decide⟩, by decide +kernel, by decide⟩
theorem pX8_needed : plainFor mX8_needed.1 = true := by decide +kernel
theorem vX8_needed : z_mv mX8_needed 8 := ⟨w8_20, w8_21, ⟨(TX8, 32), rfl⟩⟩
def mX8_points : z_M := (yX8_points, cX8_points, 2, some .int)
theorem tX8_points : z_mt mX8_points 1 := ⟨w8_31, w1_13, ⟨by decide, by decide⟩, by decide +kernel, by decide⟩
theorem pX8_points : plainFor mX8_points.1 = true := by decide +kernel
theorem vX8_points : z_mv mX8_points 8 := ⟨w8_30, wS106, ⟨(TX8, 32), rfl⟩⟩
def mX8_above : z_M := (yX8_above, cX8_above, 4, some .int)
theorem tX8_above : z_mt mX8_above 1 := ⟨w8_27, w1_13, ⟨by decide, by decide⟩, by decide +kernel, by decide⟩
theorem pX8_above : plainFor mX8_above.1 = true := by decide +kernel
theorem vX8_above : z_mv mX8_above 8 := ⟨w8_25, w8_26, ⟨(TX8, 32), rfl⟩⟩
def mX8_with : z_M := (yX8_with, cX8_with, 4, some .int)
theorem tX8_with : z_mt mX8_with 1 := ⟨w8_35, w1_13, ⟨by decide, by decide⟩, by decide +kernel, by decide⟩
theorem pX8_with : plainFor mX8_with.1 = true := by decide +kernel
theorem vX8_with : z_mv mX8_with 8 := ⟨w8_33, w8_34, ⟨(TX8, 32), rfl⟩⟩
def mX8_withAt : z_M := (yX8_withAt, cX8_withAt, 6, some .int)
theorem tX8_withAt : z_mt mX8_withAt 2 := ⟨w8_39, w1_13, ⟨by decide, by decide⟩, by decide +kernel, by decide⟩
theorem pX8_withAt : plainFor mX8_withAt.1 = true := by decide +kernel
theorem vX8_withAt : z_mv mX8_withAt 8 := ⟨w8_37, w8_38, ⟨(TX8, 32), rfl⟩⟩
def mX8_next : z_M := (yX8_next, cX8_next, 4, some .int)
theorem tX8_next : z_mt mX8_next 1 := ⟨w8_43, w1_13, ⟨by decide, by decide⟩, by decide +kernel, by decide⟩
theorem pX8_next : plainFor mX8_next.1 = true := by decide +kernel
theorem vX8_next : z_mv mX8_next 8 := ⟨w8_41, w8_42, ⟨(TX8, 32), rfl⟩⟩
def mX8_between : z_M := (yX8_between, cX8_between, 5, some .int)
theorem tX8_between : z_mt mX8_between 2 := ⟨w8_47, w1_13, ⟨by decide, by decide⟩, by decide +kernel, by decide⟩
theorem pX8_between : plainFor mX8_between.1 = true := by decide +kernel
theorem vX8_between : z_mv mX8_between 8 := ⟨w8_45, w8_46, ⟨(TX8, 32), rfl⟩⟩
def mX8_pointsAt : z_M := (yX8_pointsAt, cX8_pointsAt, 6, some .int)
theorem tX8_pointsAt : z_mt mX8_pointsAt 1 := ⟨w8_55, w1_13, ⟨by decide, by decide⟩, by decide +kernel, by decide⟩
theorem pX8_pointsAt : plainFor mX8_pointsAt.1 = true := by decide +kernel
theorem vX8_pointsAt : z_mv mX8_pointsAt 8 := ⟨w8_54, wS107, ⟨(TX8, 32), rfl⟩⟩
def mX8_median : z_M := (yX8_median, cX8_median, 3, some .int)
theorem tX8_median : z_mt mX8_median 1 := ⟨w8_51, w1_13, ⟨by decide, by decide⟩, by decide +kernel, by decide⟩
theorem pX8_median : plainFor mX8_median.1 = true := by decide +kernel
theorem vX8_median : z_mv mX8_median 8 := ⟨w8_49, w8_50, ⟨(TX8, 32), rfl⟩⟩
def mX8_quantile : z_M := (yX8_quantile, cX8_quantile, 5, some .int)
theorem tX8_quantile : z_mt mX8_quantile 2 := ⟨w8_59, w1_13, ⟨by decide, by decide⟩, by decide +kernel, by decide⟩
theorem pX8_quantile : plainFor mX8_quantile.1 = true := by decide +kernel
theorem vX8_quantile : z_mv mX8_quantile 8 := ⟨w8_57, w8_58, ⟨(TX8, 32), rfl⟩⟩
def mX8_enter : z_M := (yX8_enter, cX8_enter, 2, some .int)
theorem tX8_enter : z_mt mX8_enter 1 := ⟨w8_63, w1_13, ⟨by decide, by decide⟩, by decide +kernel, by decide⟩
theorem pX8_enter : plainFor mX8_enter.1 = true := by decide +kernel
theorem vX8_enter : z_mv mX8_enter 8 := ⟨w8_61, w8_62, ⟨(TX8, 32), rfl⟩⟩
def mX8_challenge : z_M := (yX8_challenge, cX8_challenge, 7, some .int)
theorem tX8_challenge : z_mt mX8_challenge 3 := ⟨w8_67, w1_13, ⟨by decide, by decide⟩, by decide +kernel, by decide⟩
theorem pX8_challenge : plainFor mX8_challenge.1 = true := by decide +kernel
theorem vX8_challenge : z_mv mX8_challenge 8 := ⟨w8_65, w8_66, ⟨(TX8, 32), rfl⟩⟩
def mX8_mayChallenge : z_M := (yX8_mayChallenge, cX8_mayChallenge, 3, some .int)
theorem tX8_mayChallenge : z_mt mX8_mayChallenge 1 := ⟨w8_71, w1_13, ⟨by decide, by decide⟩, by decide +kernel, by decide⟩
theorem pX8_mayChallenge : plainFor mX8_mayChallenge.1 = true := by decide +kernel
theorem vX8_mayChallenge : z_mv mX8_mayChallenge 8 := ⟨w8_69, w8_70, ⟨(TX8, 32), rfl⟩⟩
def mX8_setReach : z_M := (yX8_setReach, cX8_setReach, 3, some .int)
theorem tX8_setReach : z_mt mX8_setReach 1 := ⟨w8_75, w1_13, ⟨by decide, by decide⟩, by decide +kernel, by decide⟩
theorem pX8_setReach : plainFor mX8_setReach.1 = true := by decide +kernel
theorem vX8_setReach : z_mv mX8_setReach 8 := ⟨w8_73, w8_74, ⟨(TX8, 32), rfl⟩⟩
def mX8_setPatience : z_M := (yX8_setPatience, cX8_setPatience, 3, some .int)
theorem tX8_setPatience : z_mt mX8_setPatience 1 := ⟨w8_79, w1_13, ⟨by decide, by decide⟩, by decide +kernel, by decide⟩
theorem pX8_setPatience : plainFor mX8_setPatience.1 = true := by decide +kernel
theorem vX8_setPatience : z_mv mX8_setPatience 8 := ⟨w8_77, w8_78, ⟨(TX8, 32), rfl⟩⟩
def mX8_ladderAt : z_M := (yX8_ladderAt, cX8_ladderAt, 2, some .int)
theorem tX8_ladderAt : z_mt mX8_ladderAt 1 := ⟨w8_83, w1_13, ⟨by decide, by decide⟩, by decide +kernel, by decide⟩
theorem pX8_ladderAt : plainFor mX8_ladderAt.1 = true := by decide +kernel
theorem vX8_ladderAt : z_mv mX8_ladderAt 8 := ⟨w8_81, w8_82, ⟨(TX8, 32), rfl⟩⟩
def mX8_ladderPlace : z_M := (yX8_ladderPlace, cX8_ladderPlace, 2, some .int)
theorem tX8_ladderPlace : z_mt mX8_ladderPlace 1 := ⟨w8_87, w1_13, ⟨by decide, by decide⟩, by decide +kernel, by decide⟩
theorem pX8_ladderPlace : plainFor mX8_ladderPlace.1 = true := by decide +kernel
theorem vX8_ladderPlace : z_mv mX8_ladderPlace 8 := ⟨w8_85, w8_86, ⟨(TX8, 32), rfl⟩⟩
def mX8_falls : z_M := (yX8_falls, cX8_falls, 5, none)
theorem tX8_falls : z_mt mX8_falls 0 := ⟨w8_95, w1_13, ⟨by decide, by decide⟩, by decide +kernel, by decide⟩
theorem pX8_falls : plainFor mX8_falls.1 = true := by decide +kernel
theorem vX8_falls : z_mv mX8_falls 8 := ⟨w8_94, wS108, ⟨(TX8, 32), rfl⟩⟩
def mX8_gainOf : z_M := (yX8_gainOf, cX8_gainOf, 2, some .int)
theorem tX8_gainOf : z_mt mX8_gainOf 1 := ⟨w8_99, w1_13, ⟨by decide, by decide⟩, by decide +kernel, by decide⟩
theorem pX8_gainOf : plainFor mX8_gainOf.1 = true := by decide +kernel
theorem vX8_gainOf : z_mv mX8_gainOf 8 := ⟨w8_98, wS109, ⟨(TX8, 32), rfl⟩⟩
def mX8_endRound : z_M := (yX8_endRound, cX8_endRound, 3, some .int)
theorem tX8_endRound : z_mt mX8_endRound 0 := ⟨w8_91, w1_13, ⟨by decide, by decide⟩, by decide +kernel, by decide⟩
theorem pX8_endRound : plainFor mX8_endRound.1 = true := by decide +kernel
theorem vX8_endRound : z_mv mX8_endRound 8 := ⟨w8_89, w8_90, ⟨(TX8, 32), rfl⟩⟩
def mX8_round : z_M := (yX8_round, cX8_round, 1, some .int)
theorem tX8_round : z_mt mX8_round 0 := ⟨w8_103, w1_13, ⟨by decide, by decide⟩, by decide +kernel, by decide⟩
theorem pX8_round : plainFor mX8_round.1 = true := by decide +kernel
theorem vX8_round : z_mv mX8_round 8 := ⟨w8_101, w8_102, ⟨(TX8, 32), rfl⟩⟩
def mX8_gain : z_M := (yX8_gain, cX8_gain, 2, some .int)
theorem tX8_gain : z_mt mX8_gain 1 := ⟨w8_107, w1_13, ⟨by decide, by decide⟩, by decide +kernel, by decide⟩
theorem pX8_gain : plainFor mX8_gain.1 = true := by decide +kernel
theorem vX8_gain : z_mv mX8_gain 8 := ⟨w8_105, w8_106, ⟨(TX8, 32), rfl⟩⟩
def mX8_formOf : z_M := (yX8_formOf, cX8_formOf, 8, some .int)
theorem tX8_formOf : z_mt mX8_formOf 3 := ⟨w8_118, w1_13, ⟨by decide, by decide⟩, by decide +kernel, by decide⟩
theorem pX8_formOf : plainFor mX8_formOf.1 = true := by decide +kernel
theorem vX8_formOf : z_mv mX8_formOf 8 := ⟨w8_117, wS110, ⟨(TX8, 32), rfl⟩⟩
def mX8_isForm : z_M := (yX8_isForm, cX8_isForm, 2, some .boolean)
theorem tX8_isForm : z_mt mX8_isForm 2 := ⟨w8_114, w1_13, ⟨by decide, by decide⟩, by decide +kernel, by decide⟩
theorem pX8_isForm : plainFor mX8_isForm.1 = true := by decide +kernel
theorem sX8_isForm : Cond.static mX8_isForm.1 ∈ lw_tbl := w8_113
def mX8_form : z_M := (yX8_form, cX8_form, 4, some .int)
theorem tX8_form : z_mt mX8_form 3 := ⟨w8_111, w1_13, ⟨by decide, by decide⟩, by decide +kernel, by decide⟩
theorem pX8_form : plainFor mX8_form.1 = true := by decide +kernel
theorem vX8_form : z_mv mX8_form 8 := ⟨w8_109, w8_110, ⟨(TX8, 32), rfl⟩⟩
def mX8_inForm : z_M := (yX8_inForm, cX8_inForm, 6, some .int)
theorem tX8_inForm : z_mt mX8_inForm 2 := ⟨w8_122, w1_13, ⟨by decide, by decide⟩, by decide +kernel, by decide⟩
theorem pX8_inForm : plainFor mX8_inForm.1 = true := by decide +kernel
theorem vX8_inForm : z_mv mX8_inForm 8 := ⟨w8_120, w8_121, ⟨(TX8, 32), rfl⟩⟩
def mX8_isKept : z_M := (yX8_isKept, cX8_isKept, 2, some .boolean)
theorem tX8_isKept : z_mt mX8_isKept 1 := ⟨w8_130, w1_13, ⟨by decide, by decide⟩, by decide +kernel, by decide⟩
theorem pX8_isKept : plainFor mX8_isKept.1 = true := by decide +kernel
theorem vX8_isKept : z_mv mX8_isKept 8 := ⟨w8_129, wS111, ⟨(TX8, 32), rfl⟩⟩
def mX8_placeIn : z_M := (yX8_placeIn, cX8_placeIn, 3, some .int)
theorem tX8_placeIn : z_mt mX8_placeIn 2 := ⟨w8_134, w1_13, ⟨by decide, by decide⟩, by decide +kernel, by decide⟩
theorem pX8_placeIn : plainFor mX8_placeIn.1 = true := by decide +kernel
theorem vX8_placeIn : z_mv mX8_placeIn 8 := ⟨w8_133, wS112, ⟨(TX8, 32), rfl⟩⟩
def mX8_placeThen : z_M := (yX8_placeThen, cX8_placeThen, 3, some .int)
theorem tX8_placeThen : z_mt mX8_placeThen 2 := ⟨w8_126, w1_13, ⟨by decide, by decide⟩, by decide +kernel, by decide⟩
theorem pX8_placeThen : plainFor mX8_placeThen.1 = true := by decide +kernel
theorem vX8_placeThen : z_mv mX8_placeThen 8 := ⟨w8_124, w8_125, ⟨(TX8, 32), rfl⟩⟩
def mX8_climb : z_M := (yX8_climb, cX8_climb, 6, some .int)
theorem tX8_climb : z_mt mX8_climb 1 := ⟨w8_138, w1_13, ⟨by decide, by decide⟩, by decide +kernel, by decide⟩
theorem pX8_climb : plainFor mX8_climb.1 = true := by decide +kernel
theorem vX8_climb : z_mv mX8_climb 8 := ⟨w8_136, w8_137, ⟨(TX8, 32), rfl⟩⟩
def mX8_noGroup : z_M := (yX8_noGroup, cX8_noGroup, 2, some .boolean)
theorem tX8_noGroup : z_mt mX8_noGroup 1 := ⟨w8_146, w1_13, ⟨by decide, by decide⟩, by decide +kernel, by decide⟩
theorem pX8_noGroup : plainFor mX8_noGroup.1 = true := by decide +kernel
theorem vX8_noGroup : z_mv mX8_noGroup 8 := ⟨w8_145, wS113, ⟨(TX8, 32), rfl⟩⟩
def mX8_ofGroup : z_M := (yX8_ofGroup, cX8_ofGroup, 6, some .int)
theorem tX8_ofGroup : z_mt mX8_ofGroup 2 := ⟨w8_150, w1_13, ⟨by decide, by decide⟩, by decide +kernel, by decide⟩
theorem pX8_ofGroup : plainFor mX8_ofGroup.1 = true := by decide +kernel
theorem vX8_ofGroup : z_mv mX8_ofGroup 8 := ⟨w8_149, wS114, ⟨(TX8, 32), rfl⟩⟩
def mX8_best : z_M := (yX8_best, cX8_best, 2, some .int)
theorem tX8_best : z_mt mX8_best 1 := ⟨w8_142, w1_13, ⟨by decide, by decide⟩, by decide +kernel, by decide⟩
theorem pX8_best : plainFor mX8_best.1 = true := by decide +kernel
theorem vX8_best : z_mv mX8_best 8 := ⟨w8_140, w8_141, ⟨(TX8, 32), rfl⟩⟩
def mX8_members : z_M := (yX8_members, cX8_members, 4, some .int)
theorem tX8_members : z_mt mX8_members 1 := ⟨w8_154, w1_13, ⟨by decide, by decide⟩, by decide +kernel, by decide⟩
theorem pX8_members : plainFor mX8_members.1 = true := by decide +kernel
theorem vX8_members : z_mv mX8_members 8 := ⟨w8_152, w8_153, ⟨(TX8, 32), rfl⟩⟩
def mX8_team : z_M := (yX8_team, cX8_team, 2, some .int)
theorem tX8_team : z_mt mX8_team 1 := ⟨w8_162, w1_13, ⟨by decide, by decide⟩, by decide +kernel, by decide⟩
theorem pX8_team : plainFor mX8_team.1 = true := by decide +kernel
theorem vX8_team : z_mv mX8_team 8 := ⟨w8_161, wS115, ⟨(TX8, 32), rfl⟩⟩
def mX8_teamScore : z_M := (yX8_teamScore, cX8_teamScore, 2, some .int)
theorem tX8_teamScore : z_mt mX8_teamScore 1 := ⟨w8_158, w1_13, ⟨by decide, by decide⟩, by decide +kernel, by decide⟩
theorem pX8_teamScore : plainFor mX8_teamScore.1 = true := by decide +kernel
theorem vX8_teamScore : z_mv mX8_teamScore 8 := ⟨w8_156, w8_157, ⟨(TX8, 32), rfl⟩⟩
def mX8_isGroupAhead : z_M := (yX8_isGroupAhead, cX8_isGroupAhead, 3, some .boolean)
theorem tX8_isGroupAhead : z_mt mX8_isGroupAhead 2 := ⟨w8_170, w1_13, ⟨by decide, by decide⟩, by decide +kernel, by decide⟩
theorem pX8_isGroupAhead : plainFor mX8_isGroupAhead.1 = true := by decide +kernel
theorem vX8_isGroupAhead : z_mv mX8_isGroupAhead 8 := ⟨w8_169, wS116, ⟨(TX8, 32), rfl⟩⟩
def mX8_groupAt : z_M := (yX8_groupAt, cX8_groupAt, 5, some .int)
theorem tX8_groupAt : z_mt mX8_groupAt 1 := ⟨w8_166, w1_13, ⟨by decide, by decide⟩, by decide +kernel, by decide⟩
theorem pX8_groupAt : plainFor mX8_groupAt.1 = true := by decide +kernel
theorem vX8_groupAt : z_mv mX8_groupAt 8 := ⟨w8_164, w8_165, ⟨(TX8, 32), rfl⟩⟩
def mX8_apart : z_M := (yX8_apart, cX8_apart, 11, some .int)
theorem tX8_apart : z_mt mX8_apart 2 := ⟨w8_182, w1_13, ⟨by decide, by decide⟩, by decide +kernel, by decide⟩
theorem pX8_apart : plainFor mX8_apart.1 = true := by decide +kernel
theorem vX8_apart : z_mv mX8_apart 8 := ⟨w8_181, wS118, ⟨(TX8, 32), rfl⟩⟩
def mX8_noStanding : z_M := (yX8_noStanding, cX8_noStanding, 2, some .boolean)
theorem tX8_noStanding : z_mt mX8_noStanding 1 := ⟨w8_178, w1_13, ⟨by decide, by decide⟩, by decide +kernel, by decide⟩
theorem pX8_noStanding : plainFor mX8_noStanding.1 = true := by decide +kernel
theorem vX8_noStanding : z_mv mX8_noStanding 8 := ⟨w8_177, wS117, ⟨(TX8, 32), rfl⟩⟩
def mX8_inversions : z_M := (yX8_inversions, cX8_inversions, 3, some .int)
theorem tX8_inversions : z_mt mX8_inversions 2 := ⟨w8_174, w1_13, ⟨by decide, by decide⟩, by decide +kernel, by decide⟩
theorem pX8_inversions : plainFor mX8_inversions.1 = true := by decide +kernel
theorem vX8_inversions : z_mv mX8_inversions 8 := ⟨w8_172, w8_173, ⟨(TX8, 32), rfl⟩⟩
def mX8_swaps : z_M := (yX8_swaps, cX8_swaps, 3, some .int)
theorem tX8_swaps : z_mt mX8_swaps 2 := ⟨w8_186, w1_13, ⟨by decide, by decide⟩, by decide +kernel, by decide⟩
theorem pX8_swaps : plainFor mX8_swaps.1 = true := by decide +kernel
theorem vX8_swaps : z_mv mX8_swaps 8 := ⟨w8_184, w8_185, ⟨(TX8, 32), rfl⟩⟩
def mX8_meanPoints : z_M := (yX8_meanPoints, cX8_meanPoints, 3, some .double)
theorem tX8_meanPoints : z_mt mX8_meanPoints 0 := ⟨w8_190, w1_13, ⟨by decide, by decide⟩, by decide +kernel, by decide⟩
theorem pX8_meanPoints : plainFor mX8_meanPoints.1 = true := by decide +kernel
theorem vX8_meanPoints : z_mv mX8_meanPoints 8 := ⟨w8_188, w8_189, ⟨(TX8, 32), rfl⟩⟩
def mX8_beats : z_M := (yX8_beats, cX8_beats, 3, some .float)
theorem tX8_beats : z_mt mX8_beats 1 := ⟨w8_194, w1_13, ⟨by decide, by decide⟩, by decide +kernel, by decide⟩
theorem pX8_beats : plainFor mX8_beats.1 = true := by decide +kernel
theorem vX8_beats : z_mv mX8_beats 8 := ⟨w8_192, w8_193, ⟨(TX8, 32), rfl⟩⟩
def mX8_errors : z_M := (yX8_errors, cX8_errors, 1, some .int)
theorem tX8_errors : z_mt mX8_errors 0 := ⟨w8_198, w1_13, ⟨by decide, by decide⟩, by decide +kernel, by decide⟩
theorem pX8_errors : plainFor mX8_errors.1 = true := by decide +kernel
theorem vX8_errors : z_mv mX8_errors 8 := ⟨w8_196, w8_197, ⟨(TX8, 32), rfl⟩⟩
theorem thX7_97_101 : z_th "StandingsHall" 97 101 "java/lang/IllegalStateException" ["java/lang/RuntimeException", "java/lang/Exception"] := ⟨by decide, by decide, rfl, z_all (by decide +kernel)⟩
theorem thX7_115_119 : z_th "StandingsHall" 115 119 "java/lang/IllegalArgumentException" ["java/lang/RuntimeException", "java/lang/Exception"] := ⟨by decide, by decide, rfl, z_all (by decide +kernel)⟩
theorem thX7_193_197 : z_th "StandingsHall" 193 197 "java/lang/IndexOutOfBoundsException" ["java/lang/RuntimeException", "java/lang/Exception"] := ⟨by decide, by decide, rfl, z_all (by decide +kernel)⟩
theorem thX7_254_258 : z_thX "StandingsHall" 254 258 "java/util/NoSuchElementException" ["java/lang/Exception"] := ⟨13, prog_40_method_4_code, "java/lang/RuntimeException", ⟨by decide, by decide, by decide, rfl⟩, ⟨by decide +kernel, by decide +kernel, by decide +kernel, by decide +kernel⟩, z_all (by decide +kernel)⟩
