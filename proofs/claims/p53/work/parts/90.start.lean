/-! THE START: what the tables say of the classes, of the rows' classes, of ArrayList's empty row, of the texts; the room (laid by wip/p53/gen/gl90.py). -/
section STA
theorem wIn0 : (Jvm.Cond.instantiable "StandingsHall$Entrant" (11 : Nat)) ∈ lw_tbl := z_in1 (List.mem_of_getElem? (i := 63) rfl)
theorem wIn1 : (Jvm.Cond.instantiable "StandingsHall$Ladder" (3 : Nat)) ∈ lw_tbl := z_in2 (List.mem_of_getElem? (i := 37) rfl)
theorem wIn2 : (Jvm.Cond.instantiable "StandingsHall$Order" (3 : Nat)) ∈ lw_tbl := z_in1 (List.mem_of_getElem? (i := 80) rfl)
theorem wIn3 : (Jvm.Cond.instantiable "StandingsHall$OrderReader" (6 : Nat)) ∈ lw_tbl := z_in1 (List.mem_of_getElem? (i := 177) rfl)
theorem wIn4 : (Jvm.Cond.instantiable "StandingsHall$PointsRow" (1 : Nat)) ∈ lw_tbl := z_in1 (List.mem_of_getElem? (i := 122) rfl)
theorem wIn5 : (Jvm.Cond.instantiable "StandingsHall$Standing" (1 : Nat)) ∈ lw_tbl := z_in1 (List.mem_of_getElem? (i := 94) rfl)
theorem wIn6 : (Jvm.Cond.instantiable "StandingsHall$Tape" (2 : Nat)) ∈ lw_tbl := z_in1 (List.mem_of_getElem? (i := 162) rfl)
theorem wIn7 : (Jvm.Cond.instantiable "StandingsHall" (13 : Nat)) ∈ lw_tbl := z_in1 (List.mem_of_getElem? (i := 39) rfl)
theorem wIn8 : (Jvm.Cond.instantiable "StandingsHallLaw" (21 : Nat)) ∈ lw_tbl := z_in1 (List.mem_of_getElem? (i := 149) rfl)
theorem wIn9 : (Jvm.Cond.instantiable "java/util/ArrayList" (3 : Nat)) ∈ lw_tbl := z_in1 (List.mem_of_getElem? (i := 227) rfl)
theorem wIn10 : (Jvm.Cond.instantiable "java/lang/StringBuilder" (4 : Nat)) ∈ lw_tbl := z_in2 (List.mem_of_getElem? (i := 229) rfl)
theorem wIn11 : (Jvm.Cond.instantiable "java/lang/String" (4 : Nat)) ∈ lw_tbl := z_in3 (List.mem_of_getElem? (i := 195) rfl)
theorem wLa0 : (Jvm.Cond.laysStatic "java/util/ArrayList" "DEFAULTCAPACITY_EMPTY_ELEMENTDATA" "[Ljava/lang/Object;") ∈ lw_tbl := z_in1 (List.mem_of_getElem? (i := 239) rfl)
theorem wLa1 : (Jvm.Cond.laysStatic "java/lang/Throwable" "UNASSIGNED_STACK" "[Ljava/lang/StackTraceElement;") ∈ lw_tbl := z_in4 (List.mem_of_getElem? (i := 56) rfl)
theorem wLa2 : (Jvm.Cond.laysStatic "java/lang/Throwable" "SUPPRESSED_SENTINEL" "Ljava/util/List;") ∈ lw_tbl := z_in4 (List.mem_of_getElem? (i := 58) rfl)
theorem wLa3 : (Jvm.Cond.laysStatic "java/lang/String" "COMPACT_STRINGS" "Z") ∈ lw_tbl := z_in2 (List.mem_of_getElem? (i := 238) rfl)
theorem wLa4 : (Jvm.Cond.laysStatic "jdk/internal/util/Preconditions" "SIOOBE_FORMATTER" "Ljava/util/function/BiFunction;") ∈ lw_tbl := z_in3 (List.mem_of_getElem? (i := 86) rfl)
theorem wLa5 : (Jvm.Cond.laysStatic "java/lang/Integer" "DigitOnes" "[B") ∈ lw_tbl := z_in3 (List.mem_of_getElem? (i := 178) rfl)
theorem wIi0 : (Jvm.Cond.initialized "java/util/ArrayList") ∈ lw_tbl := z_in1 (List.mem_of_getElem? (i := 7) rfl)
theorem wIi1 : (Jvm.Cond.initialized "java/lang/Throwable") ∈ lw_tbl := z_in1 (List.mem_of_getElem? (i := 13) rfl)
theorem wIi3 : (Jvm.Cond.initialized "java/lang/String") ∈ lw_tbl := z_in1 (List.mem_of_getElem? (i := 26) rfl)
theorem wIi4 : (Jvm.Cond.initialized "jdk/internal/util/Preconditions") ∈ lw_tbl := z_in1 (List.mem_of_getElem? (i := 22) rfl)
theorem wIi5 : (Jvm.Cond.initialized "java/lang/Integer") ∈ lw_tbl := z_in1 (List.mem_of_getElem? (i := 30) rfl)
theorem wAr0 : (Jvm.Cond.arrayClass Jvm.ClassFile.FieldType.int) ∈ lw_tbl := z_in1 (List.mem_of_getElem? (i := 175) rfl)
theorem wAr1 : (Jvm.Cond.arrayClass Jvm.ClassFile.FieldType.boolean) ∈ lw_tbl := z_in2 (List.mem_of_getElem? (i := 214) rfl)
theorem wAr3 : (Jvm.Cond.arrayClass Jvm.ClassFile.FieldType.byte) ∈ lw_tbl := z_in3 (List.mem_of_getElem? (i := 19) rfl)
theorem wAr2 : (Jvm.Cond.arrayOver (Jvm.ClassFile.FieldType.object "java/lang/Object")) ∈ lw_tbl := z_in5 (List.mem_of_getElem? (i := 10) rfl)
theorem st_len0 {args : Array Value} {s : State} {tE : Term} {dc : Nat} {ce : Cell} (ht : tE.eval args s none [] s = some (.ref dc)) (hc : s.heap[dc]? = some ce) (h : (Cond.eq (.length tE) (.int 0)).before args s = true) : ce.slots.size = 0 := by
  cases ha : s.arrayAt? dc with
  | none => simp [Cond.before, Cond.holds, Cond.value, Term.eval, ht, ha] at h
  | some c2 =>
    obtain ⟨hc2, -⟩ := State.arrayAt?_spec ha
    have e2 : c2 = ce := Option.some.inj (hc2.symm.trans hc)
    subst e2
    by_cases hs : c2.slots.size < 2 ^ 31
    · have hev : (Term.length tE).eval args s none [] s = some (.int c2.slots.size.toInt32) := by simp [Term.eval, ht, ha, hs]
      have hv := Cond.eq_ints hev (show (Term.int 0).eval args s none [] s = some (.int 0) from rfl)
      have hd : c2.slots.size.toInt32 = 0 := by
        simpa [Cond.before, Cond.holds, hv] using h
      have h2 : (Int32.ofNat c2.slots.size).toInt = c2.slots.size := Int32.toInt_ofNat_of_lt hs
      have h3 : Int32.ofNat c2.slots.size = 0 := hd
      rw [h3] at h2
      have h4 : (0 : Int) = c2.slots.size := h2
      omega
    · simp [Cond.before, Cond.holds, Cond.value, Term.eval, ht, ha, hs] at h
theorem st_str {args : Array Value} {s : State} {own tx : String} {k : Nat} (h : (Cond.stringRef own k tx).before args s = true) : ∃ sa : Nat, vk_R own k tx sa s := by
  cases hc : s.vm.findClass own with
  | none => simp [Cond.before, Cond.holds, Cond.value, hc] at h
  | some cur =>
    obtain ⟨_, _, _, a, -, -, -, -, -, hev⟩ := Cond.stringRef_spec hc h
    exact ⟨a, vk_R.of h hev⟩
theorem stand_room {p : Program} {l : Launch} {e : Env} {R R' : Room} {s : State} {m : MethodId} {args : Array Value} {below : List Frame} {meth : Method} {c : Code} {T : State} {locs : List Loc} {cells slots : Nat} (X : Stand p l e R s m args below meth c T locs cells slots) (hf : R'.frames ≤ R.frames) (hl : R'.locals ≤ R.locals) (hc : R'.cells ≤ R.cells) (hs : R'.slots ≤ R.slots) : Stand p l e R' s m args below meth c T locs cells slots := by
  refine ⟨X.admits, X.cas, X.clock, X.frames, ?_, X.hears, X.method, X.code, X.here, X.tail, X.warmed, X.limits, X.bytes, X.same⟩
  have h := X.room
  simp only [State.hasRoom, Bool.and_eq_true, decide_eq_true_eq] at h ⊢
  obtain ⟨⟨⟨⟨h1, h2, h3, h4, h5, h6⟩, h7⟩, h8⟩, h9⟩ := h
  exact ⟨⟨⟨⟨by omega, by omega, by omega, by omega, by omega, h6⟩, by omega⟩, by omega⟩, h9⟩
/-- what a row's class is -/
theorem st_row {args : Array Value} {s : State} {ty : FieldType} (h : (Cond.arrayClass ty).before args s = true) : ∃ cA : ClassId, ArrOfT s cA ty ∧ s.vm.findClass ("[" ++ ty.toString) = some cA := by
  obtain ⟨cA, kA, comp, h1, h2, h3⟩ := Cond.arrayClass_spec h
  exact ⟨cA, fun n z => ⟨(fun k h => by cases h), kA, h2, comp, h3⟩, h1⟩
theorem st_cong {t N : Nat} {f g : Nat → Value} {A : Nat → Prop} {U : State} {H : Heap} (h : va_T .byte t N f A U H) (e : ∀ j : Nat, j < N → f j = g j) : va_T .byte t N g A U H := by
  obtain ⟨cell, h1, h2, h3, h4, h5, h6, h7⟩ := h
  exact ⟨cell, h1, h2, h3, h4, h5, fun j hj => by rw [← e j hj]; exact h6 j hj, h7⟩
/-- a constant of the law -/
theorem st_K {l : Launch} {s : State} {D : va_G} {FA : Nat → ClassId} {dc b k : Nat} {tx : String} (bs : List Int32) (hw : (Cond.stringRef "StandingsHallLaw" k tx).before #[Value.ref b] s = true) (h1 : (Cond.exactly (.string "StandingsHallLaw" k) "java/lang/String").before #[Value.ref b] s = true) (h2 : (Cond.eq (.field (.string "StandingsHallLaw" k) "java/lang/String" "coder" "B") (.int 0)).before #[Value.ref b] s = true)
    (h3 : (Cond.arrayOf (.field (.string "StandingsHallLaw" k) "java/lang/String" "value" "[B") .byte).before #[Value.ref b] s = true) (h4 : (Cond.eq (.length (.field (.string "StandingsHallLaw" k) "java/lang/String" "value" "[B")) (.int (Int32.ofNat bs.length))).before #[Value.ref b] s = true) (h5 : ∀ j : Nat, j < bs.length → (Cond.eq (.elem (.field (.string "StandingsHallLaw" k) "java/lang/String" "value" "[B") (.int (Int32.ofNat j))) (.int (bs.getD j 0))).before #[Value.ref b] s = true)
    (ht : tx.length = bs.length ∧ bs.length ≤ 10 ∧ ∀ j : Nat, j < bs.length → bs.getD j 0 = Int32.ofInt ((tx.toList.getD j 'a').toNat : Int) ∧ (tx.toList.getD j 'a').toNat ≤ 127) : ∃ sa : Nat, vk_R "StandingsHallLaw" k tx sa s ∧ sbK (l, s, D, FA, dc, #[Value.ref b]) tx sa := by
  have hA : ∀ q : Nat, q < s.heap.size → ¬ z_A (l, s, D, FA, dc, #[Value.ref b]) q := fun _ h => Nat.not_le.mpr h
  obtain ⟨t1, t2, t3⟩ := ht
  obtain ⟨adK, adV, hS, hev⟩ := vk_Sof (args := #[Value.ref b]) (s := s) (N := 1) (tm := fun _ => .string "StandingsHallLaw" k) (len := [bs.length]) (byt := [bs]) (A := z_A (l, s, D, FA, dc, #[Value.ref b])) (fun i hi => by rw [show i = 0 by omega]; show bs.length < 2 ^ 31; omega) (fun i hi => h1) (fun i hi => h2) (fun i hi => h3) (fun i hi => by rw [show i = 0 by omega]; exact h4) (fun i hi j hj => by rw [show i = 0 by omega] at hj ⊢; exact h5 j hj) (fun i j hi hj hn => absurd (show i = j by omega) hn) hA
  obtain ⟨q1, q2, q3, q4⟩ := hS.1 0 (by decide)
  refine ⟨adK 0, vk_R.of hw (hev 0 (by decide)), adV 0, ⟨q1, q2, q3, ?_⟩, fun j hj => (t3 j (by omega)).2⟩
  have q5 : va_T .byte (adV 0) bs.length (fun j => .int (bs.getD j 0)) (z_A (l, s, D, FA, dc, #[Value.ref b])) s s.heap := q4
  rw [← t1] at q5
  exact st_cong q5 fun j hj => congrArg Value.int ((t3 j (by omega)).1)
set_option maxHeartbeats 8000000 in
set_option maxRecDepth 100000 in
/-- what the texts need -/
theorem st_SB {l : Launch} {s : State} {D : va_G} {FA : Nat → ClassId} {dc b : Nat} (hts : ∀ w ∈ lw_tbl, w.before #[Value.ref b] s = true) (hgv : (Jvm.Cond.and given_1 narrow_1).before #[Value.ref b] s = true) : z_SB (l, s, D, FA, dc, #[Value.ref b]) := by
  have hfl := flat_of_before _ hgv
  have hA : ∀ q : Nat, q < s.heap.size → ¬ z_A (l, s, D, FA, dc, #[Value.ref b]) q := fun _ h => Nat.not_le.mpr h
  have hc : (Cond.eq (.static "java/lang/String" "COMPACT_STRINGS" "Z") (.int 1)).before #[Value.ref b] s = true := hfl _ (by decide +kernel)
  have hi : (Cond.isRef (.static "jdk/internal/util/Preconditions" "SIOOBE_FORMATTER" "Ljava/util/function/BiFunction;")).before #[Value.ref b] s = true := hfl _ (by decide +kernel)
  have hd : (Cond.arrayOf (.static "java/lang/Integer" "DigitOnes" "[B") .byte).before #[Value.ref b] s = true := hfl _ (by decide +kernel)
  have hl : (Cond.eq (.length (.static "java/lang/Integer" "DigitOnes" "[B")) (.int (Int32.ofNat 100))).before #[Value.ref b] s = true := hfl _ (by decide +kernel)
  have hm : ∀ j : Nat, j < 100 → Cond.eq (.elem (.static "java/lang/Integer" "DigitOnes" "[B") (.int (Int32.ofNat j))) (.int (Int32.ofInt (48 + (j : Int) % 10))) ∈ flatC (Jvm.Cond.and given_1 narrow_1) := by decide +kernel
  obtain ⟨t, e1, e2⟩ := va_Tof (args := #[Value.ref b]) (s := s) (tm := .static "java/lang/Integer" "DigitOnes" "[B") (ty := .byte) (N := 100) (f := fun j : Nat => .int (Int32.ofInt (48 + (j : Int) % 10))) (A := z_A (l, s, D, FA, dc, #[Value.ref b])) (by decide) hd (va_eqt hl) (fun j hj => va_eqt (hfl _ (hm j hj))) hA
  refine ⟨⟨va_Zof (hts _ wLa3) (hts _ wIi3) (va_eqt hc) hA, va_Zqof (hts _ wLa4) (hts _ wIi4) hi hA⟩, ⟨t, 100, fun v => 48 + v % 10, va_Zof (hts _ wLa5) (hts _ wIi5) e1 hA, e2, by decide, by decide, fun v v0 v4 => by show 48 + v % 10 = 48 + v; omega⟩, fun q hq => ?_⟩
  simp only [scL, List.mem_cons, List.not_mem_nil, or_false] at hq
  rcases hq with rfl | rfl | rfl | rfl | rfl
  · refine st_K [] (hts _ kO_81) (hfl _ (by decide +kernel)) (hfl _ (by decide +kernel)) (hfl _ (by decide +kernel)) (hfl _ (by decide +kernel)) (fun j hj => ?_) (by decide +kernel)
    exact hfl _ ((by decide +kernel : ∀ j : Nat, j < 0 → Cond.eq (.elem (.field (.string "StandingsHallLaw" 81) "java/lang/String" "value" "[B") (.int (Int32.ofNat j))) (.int (([] : List Int32).getD j 0)) ∈ flatC (Jvm.Cond.and given_1 narrow_1)) j hj)
  · refine st_K [59, 32] (hts _ kO_83) (hfl _ (by decide +kernel)) (hfl _ (by decide +kernel)) (hfl _ (by decide +kernel)) (hfl _ (by decide +kernel)) (fun j hj => ?_) (by decide +kernel)
    exact hfl _ ((by decide +kernel : ∀ j : Nat, j < 2 → Cond.eq (.elem (.field (.string "StandingsHallLaw" 83) "java/lang/String" "value" "[B") (.int (Int32.ofNat j))) (.int (([59, 32] : List Int32).getD j 0)) ∈ flatC (Jvm.Cond.and given_1 narrow_1)) j hj)
  · refine st_K [45] (hts _ kO_92) (hfl _ (by decide +kernel)) (hfl _ (by decide +kernel)) (hfl _ (by decide +kernel)) (hfl _ (by decide +kernel)) (fun j hj => ?_) (by decide +kernel)
    exact hfl _ ((by decide +kernel : ∀ j : Nat, j < 1 → Cond.eq (.elem (.field (.string "StandingsHallLaw" 92) "java/lang/String" "value" "[B") (.int (Int32.ofNat j))) (.int (([45] : List Int32).getD j 0)) ∈ flatC (Jvm.Cond.and given_1 narrow_1)) j hj)
  · refine st_K [43] (hts _ kO_94) (hfl _ (by decide +kernel)) (hfl _ (by decide +kernel)) (hfl _ (by decide +kernel)) (hfl _ (by decide +kernel)) (fun j hj => ?_) (by decide +kernel)
    exact hfl _ ((by decide +kernel : ∀ j : Nat, j < 1 → Cond.eq (.elem (.field (.string "StandingsHallLaw" 94) "java/lang/String" "value" "[B") (.int (Int32.ofNat j))) (.int (([43] : List Int32).getD j 0)) ∈ flatC (Jvm.Cond.and given_1 narrow_1)) j hj)
  · refine st_K [32, 42] (hts _ kO_99) (hfl _ (by decide +kernel)) (hfl _ (by decide +kernel)) (hfl _ (by decide +kernel)) (hfl _ (by decide +kernel)) (fun j hj => ?_) (by decide +kernel)
    exact hfl _ ((by decide +kernel : ∀ j : Nat, j < 2 → Cond.eq (.elem (.field (.string "StandingsHallLaw" 99) "java/lang/String" "value" "[B") (.int (Int32.ofNat j))) (.int (([32, 42] : List Int32).getD j 0)) ∈ flatC (Jvm.Cond.and given_1 narrow_1)) j hj)
set_option maxHeartbeats 4000000 in
set_option maxRecDepth 100000 in
/-- the tables at the start -/
theorem st_OK (l : Launch) (hst : l.stackTraces = false) {s : State} {b : Nat} (hts : ∀ w ∈ lw_tbl, w.before #[Value.ref b] s = true) (hgv : (Jvm.Cond.and given_1 narrow_1).before #[Value.ref b] s = true) : ∃ (D : va_G) (FA : Nat → ClassId) (dc : Nat), z_OK (l, s, D, FA, dc, #[Value.ref b]) ∧ z_MI (l, s, D, FA, dc, #[Value.ref b]) := by
  have hfl := flat_of_before _ hgv
  have hA : ∀ q : Nat, q < s.heap.size → ¬ (fun q : Nat => s.heap.size ≤ q) q := fun _ h => Nat.not_le.mpr h
  obtain ⟨k0, j0, n0⟩ := u_known hts cX0.2.1 (hts _ wIn0)
  obtain ⟨k1, j1, n1⟩ := u_known hts cX1.2.1 (hts _ wIn1)
  obtain ⟨k2, j2, n2⟩ := u_known hts cX2.2.1 (hts _ wIn2)
  obtain ⟨k3, j3, n3⟩ := u_known hts cX3.2.1 (hts _ wIn3)
  obtain ⟨k4, j4, n4⟩ := u_known hts cX4.2.1 (hts _ wIn4)
  obtain ⟨k5, j5, n5⟩ := u_known hts cX5.2.1 (hts _ wIn5)
  obtain ⟨k6, j6, n6⟩ := u_known hts cX6.2.1 (hts _ wIn6)
  obtain ⟨k7, j7, n7⟩ := u_known hts cX7.2.1 (hts _ wIn7)
  obtain ⟨k8, j8, n8⟩ := u_known hts cLx.2.1 (hts _ wIn8)
  obtain ⟨k9, j9, n9⟩ := u_known hts cJx4a65c.2.1 (hts _ wIn9)
  obtain ⟨k10, j10, n10⟩ := u_known hts cJ4.2.1 (hts _ wIn10)
  obtain ⟨k11, j11, n11⟩ := u_known hts cJ0.2.1 (hts _ wIn11)
  obtain ⟨a0, r0, f0⟩ := st_row (hts _ wAr0)
  obtain ⟨a1, r1, f1⟩ := st_row (hts _ wAr1)
  obtain ⟨a3, r3, f3⟩ := st_row (hts _ wAr3)
  obtain ⟨comp, a2, kA, o1, -, o2, o3, o4⟩ := Cond.arrayOver_spec (hts _ wAr2)
  have r2 : ArrOfT s a2 (.object "java/lang/Object") := fun n z => ⟨(fun k h => by cases h), kA, o2, comp, o3⟩
  have hex : (Cond.exactly (.static "java/util/ArrayList" "DEFAULTCAPACITY_EMPTY_ELEMENTDATA" "[Ljava/lang/Object;") "[Ljava/lang/Object;").before #[Value.ref b] s = true := hfl _ (by decide +kernel)
  have hao : (Cond.arrayOf (.static "java/util/ArrayList" "DEFAULTCAPACITY_EMPTY_ELEMENTDATA" "[Ljava/lang/Object;") (.object "java/lang/Object")).before #[Value.ref b] s = true := hfl _ (by decide +kernel)
  have hle : (Cond.eq (.length (.static "java/util/ArrayList" "DEFAULTCAPACITY_EMPTY_ELEMENTDATA" "[Ljava/lang/Object;")) (.int 0)).before #[Value.ref b] s = true := hfl _ (by decide +kernel)
  have hr1 : (Cond.isRef (.static Bundle.tN "UNASSIGNED_STACK" Bundle.steD)).before #[Value.ref b] s = true := hfl _ (by decide +kernel)
  have hr2 : (Cond.isRef (.static Bundle.tN "SUPPRESSED_SENTINEL" Bundle.listD)).before #[Value.ref b] s = true := hfl _ (by decide +kernel)
  have hmi : (Cond.isRef (.mirror "[Ljava/lang/Object;")).before #[Value.ref b] s = true := hfl _ (by decide +kernel)
  obtain ⟨dc, -, ce, -, d1, -, d3, -, -, -, -⟩ := Cond.exactly_spec hex
  have hdl : dc < s.heap.size := (Array.getElem?_eq_some_iff.mp d3).1
  have hK : ∃ (D1 : Nat → ClassId) (D2 : Nat → Nat → Nat), ∀ (k : Nat) (q : vw_C), z_cl[k]? = some q → u_Kn s q.1 q.2.1 q.2.2 (D1 k) (D2 k) := by
    refine ⟨fun k => if k = 0 then k0 else if k = 1 then k1 else if k = 2 then k2 else if k = 3 then k3 else if k = 4 then k4 else if k = 5 then k5 else if k = 6 then k6 else if k = 7 then k7 else if k = 8 then k8 else if k = 9 then k9 else if k = 10 then k10 else k11, fun k => if k = 0 then j0 else if k = 1 then j1 else if k = 2 then j2 else if k = 3 then j3 else if k = 4 then j4 else if k = 5 then j5 else if k = 6 then j6 else if k = 7 then j7 else if k = 8 then j8 else if k = 9 then j9 else if k = 10 then j10 else j11, ?_⟩
    intro k q hq
    match k, hq with
    | 0, hq => cases hq; exact n0
    | 1, hq => cases hq; exact n1
    | 2, hq => cases hq; exact n2
    | 3, hq => cases hq; exact n3
    | 4, hq => cases hq; exact n4
    | 5, hq => cases hq; exact n5
    | 6, hq => cases hq; exact n6
    | 7, hq => cases hq; exact n7
    | 8, hq => cases hq; exact n8
    | 9, hq => cases hq; exact n9
    | 10, hq => cases hq; exact n10
    | 11, hq => cases hq; exact n11
    | k + 12, hq => simp [z_cl] at hq
  obtain ⟨D1, D2, hK⟩ := hK
  refine ⟨(D1, D2), fun k => if k = 0 then a0 else if k = 1 then a1 else if k = 2 then a2 else a3, dc, ⟨hst, ⟨hK, fun k q hq => ?_⟩, hts, vx_Zqof (hts _ wLa1) (hts _ wIi1) hr1 hA, vx_Zqof (hts _ wLa2) (hts _ wIi1) hr2 hA, fun own k tx hw => st_str (hts _ hw), va_Zof (hts _ wLa0) (hts _ wIi0) d1 hA, ⟨ce, d3, (Cond.arrayOf_spec hao d1 d3).1, st_len0 d1 d3 hle⟩, hdl⟩, va_Mi.of hmi⟩
  · match k, hq with
    | 0, hq => cases hq; exact ⟨r0, f0⟩
    | 1, hq => cases hq; exact ⟨r1, f1⟩
    | 2, hq => cases hq; exact ⟨r2, ⟨kA, comp, o2, o3, o1, o4⟩⟩
    | 3, hq => cases hq; exact ⟨r3, f3⟩
    | k + 4, hq => simp [z_tys] at hq
end STA
