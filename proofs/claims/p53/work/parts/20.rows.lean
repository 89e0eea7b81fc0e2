/-! ROWS for rows of references: null, comparisons, casts, makings, copies. -/
section RF
theorem wACs : (Jvm.Cond.static ({ cls := "java/lang/System", name := "arraycopy", desc := "(Ljava/lang/Object;ILjava/lang/Object;II)V" } : Jvm.MethodName)) ∈ lw_tbl := z_in3 (List.mem_of_getElem? (i := 66) rfl)
theorem wACn : (Jvm.Cond.native ({ cls := "java/lang/System", name := "arraycopy", desc := "(Ljava/lang/Object;ILjava/lang/Object;II)V" } : Jvm.MethodName)) ∈ lw_tbl := z_in3 (List.mem_of_getElem? (i := 67) rfl)
theorem wACi : (Jvm.Cond.initialized "java/lang/System") ∈ lw_tbl := z_in1 (List.mem_of_getElem? (i := 20) rfl)
theorem wAC150 : (Jvm.Cond.methodLink "java/util/Arrays" (150 : Nat) ({ cls := "java/lang/System", name := "arraycopy", desc := "(Ljava/lang/Object;ILjava/lang/Object;II)V" } : Jvm.MethodName)) ∈ lw_tbl := z_in3 (List.mem_of_getElem? (i := 65) rfl)
theorem wAC112 : (Jvm.Cond.methodLink "java/util/ArrayList" (112 : Nat) ({ cls := "java/lang/System", name := "arraycopy", desc := "(Ljava/lang/Object;ILjava/lang/Object;II)V" } : Jvm.MethodName)) ∈ lw_tbl := z_in5 (List.mem_of_getElem? (i := 14) rfl)
theorem wGCi : (Jvm.Cond.instanceMethod ({ cls := "java/lang/Object", name := "getClass", desc := "()Ljava/lang/Class;" } : Jvm.MethodName)) ∈ lw_tbl := z_in4 (List.mem_of_getElem? (i := 227) rfl)
theorem wGCn : (Jvm.Cond.native ({ cls := "java/lang/Object", name := "getClass", desc := "()Ljava/lang/Class;" } : Jvm.MethodName)) ∈ lw_tbl := z_in5 (List.mem_of_getElem? (i := 5) rfl)
theorem wGCs : (Jvm.Cond.selects "[Ljava/lang/Object;" ({ cls := "java/lang/Object", name := "getClass", desc := "()Ljava/lang/Class;" } : Jvm.MethodName) ({ cls := "java/lang/Object", name := "getClass", desc := "()Ljava/lang/Class;" } : Jvm.MethodName)) ∈ lw_tbl := z_in7 (List.mem_of_getElem? (i := 69) rfl)
theorem wGCd : (Jvm.Cond.declares ({ cls := "java/lang/Object", name := "getClass", desc := "()Ljava/lang/Class;" } : Jvm.MethodName)) ∈ lw_tbl := z_in7 (List.mem_of_getElem? (i := 70) rfl)
theorem wGCl : (Jvm.Cond.methodLink "java/util/Arrays" (86 : Nat) ({ cls := "java/lang/Object", name := "getClass", desc := "()Ljava/lang/Class;" } : Jvm.MethodName)) ∈ lw_tbl := z_in4 (List.mem_of_getElem? (i := 226) rfl)
theorem wA110 : (Jvm.Cond.classLink "java/util/Arrays" (110 : Nat) "[Ljava/lang/Object;") ∈ lw_tbl := z_in5 (List.mem_of_getElem? (i := 9) rfl)
theorem wA2 : (Jvm.Cond.classLink "java/util/Arrays" (2 : Nat) "java/lang/Object") ∈ lw_tbl := z_in5 (List.mem_of_getElem? (i := 11) rfl)
theorem wL7 : (Jvm.Cond.classLink "java/util/ArrayList" (7 : Nat) "java/lang/Object") ∈ lw_tbl := z_in5 (List.mem_of_getElem? (i := 13) rfl)
theorem wD39 : (Jvm.Cond.fieldLink "java/util/ArrayList" (39 : Nat) "java/util/ArrayList" "DEFAULTCAPACITY_EMPTY_ELEMENTDATA" "[Ljava/lang/Object;") ∈ lw_tbl := z_in1 (List.mem_of_getElem? (i := 238) rfl)
theorem wCE : (Jvm.Cond.castable "StandingsHall$Entrant" "java/lang/Object") ∈ lw_tbl := z_in7 (List.mem_of_getElem? (i := 60) rfl)
theorem wAO : (Jvm.Cond.arrayOver (Jvm.ClassFile.FieldType.object "java/lang/Object")) ∈ lw_tbl := z_in5 (List.mem_of_getElem? (i := 10) rfl)
def z_MI (G : z_G) : Prop := ∃ mi : Nat, va_Mi "[Ljava/lang/Object;" mi G.2.1
def z_dc (G : z_G) : Nat := G.2.2.2.2.1
variable {Y : z_Y} {d : Nat} {M : z_M} {pc pc' : Nat} {ls ls' : List (Nat × Value)} {st st' : List Value} {h : z_H} {k n : Nat}
theorem z_null (hY : z_ok Y d M) (dd : z_at M pc .aconst_null 1 pc') (kk : z_W Y pc' ls (.null :: st) h k n) : z_W Y pc ls st h k n :=
  z_lift hY (fun p l e R s m args below meth c H locs cells slots Q lsA hx hb kk => by obtain ⟨d1, rfl⟩ := dd; exact lv_null hx hb d1 kk) kk
theorem z_acmpeq {a b : Nat} {off : Int} {tgt : Nat} (hY : z_ok Y d M) (dd : z_br M pc (.if_acmp .eq off) off pc' tgt) (kt : a = b → z_W Y tgt ls st h k n) (kf : a ≠ b → z_W Y pc' ls st h k n) : z_W Y pc ls (.ref b :: .ref a :: st) h k n := by
  refine z_lift2 hY (fun p l e R s m args below meth c H locs cells slots Q lsA hx hb kt kf => ?_) kt kf
  obtain ⟨d1, rfl, d2⟩ := dd
  exact lv_acmp_eq (rx := some a) (ry := some b) hx hb d1 d2 (fun c => kt (Option.some.inj c)) (fun c => kf (fun e => c (congrArg some e)))
theorem z_acmpne {a b : Nat} {off : Int} {tgt : Nat} (hY : z_ok Y d M) (dd : z_br M pc (.if_acmp .ne off) off pc' tgt) (kt : a ≠ b → z_W Y tgt ls st h k n) (kf : a = b → z_W Y pc' ls st h k n) : z_W Y pc ls (.ref b :: .ref a :: st) h k n := by
  refine z_lift2 hY (fun p l e R s m args below meth c H locs cells slots Q lsA hx hb kt kf => ?_) kt kf
  obtain ⟨d1, rfl, d2⟩ := dd
  exact lv_acmp_ne (rx := some a) (ry := some b) hx hb d1 d2 (fun c => kt (fun e => c (congrArg some e))) (fun c => kf (Option.some.inj c))
/-- a cast to the object's own class -/
theorem z_cast {a ci ix N : Nat} {nm : String} {T : u_T} {fs : List Value} (hY : z_ok Y d M) (dd : z_at M pc (.checkcast ix) 3 pc' ∧ Cond.classLink M.1.cls ix nm ∈ lw_tbl) (hc : z_cl[ci]? = some (nm, T, N)) (ha : h a = some (z_ob ci fs)) (kk : z_W Y pc' ls (.ref a :: st) h k n) : z_W Y pc ls (.ref a :: st) h k n := by
  obtain ⟨G, ⟨p, e, R, s, m, args, below, meth, c⟩, nL, mc, ms, φ, ψ⟩ := Y
  obtain ⟨hG, hx, hb, -, -, hown, -, -, hW, -⟩ := hY
  obtain ⟨⟨d1, rfl⟩, hl⟩ := dd
  intro H locs lsA hR hL hlv
  have kk := kk H locs lsA hR hL hlv
  have hK := z_K hG hW
  obtain ⟨r, h1, cell, q1, q2, q3, q4⟩ := (hR.1 a _ ha).1
  have hr : r = (nm, T, N) := Option.some.inj (h1.symm.trans hc)
  subst hr
  have hcls := (hK.1 ci _ hc).2
  exact va_castS hx hb hown (z_wd hG hW hl rfl) hcls ⟨cell, q1, by rw [q3]; rfl, by rw [q2]; exact hcls.1⟩ d1 kk
/-- ArrayList's empty row, read from its static field -/
theorem z_getsD (hY : z_ok Y d M) (dd : z_at M pc (.getstatic 39) 3 pc') (hown1 : M.1.cls = "java/util/ArrayList") (kk : z_W Y pc' ls (.ref (z_dc (z_gg Y)) :: st) h k n) : z_W Y pc ls st h k n := by
  obtain ⟨G, ⟨p, e, R, s, m, args, below, meth, c⟩, nL, mc, ms, φ, ψ⟩ := Y
  obtain ⟨hG, hx, hb, -, -, hown, -, -, hW, -, -, hlo, -⟩ := hY
  obtain ⟨d1, rfl⟩ := dd
  intro H locs lsA hR hL hlv
  have kk := kk H locs lsA hR hL hlv
  have hkept : ∀ q : Nat, q < G.2.1.heap.size → ¬ z_A G q → s.heap[q]? = G.2.1.heap[q]? := fun q hq _ => hlo.2 q hq
  have hZ : va_Z "java/util/ArrayList" "DEFAULTCAPACITY_EMPTY_ELEMENTDATA" "[Ljava/lang/Object;" (.ref G.2.2.2.2.1) (z_A G) s s.heap := va_Z.moved hW.alike (hG.2.2.2.2.2.2.1.kept hkept)
  have hw := z_wd (args := args) hG hW wD39 rfl
  rw [hown1] at hown
  intro Tq hTq Xq
  have hsz : s.heap.size ≤ Tq.heap.size := (vx_frame (U := Tq) Xq.same).1
  have hS : va_S (z_A G) s.heap H locs := ⟨by rw [← hTq]; exact hsz, fun q hq1 hq2 => by
    have hq3 : q < z_b G := Nat.lt_of_not_le hq2
    rw [hR.2.2 q hq3, hlo.2 q hq3], hL⟩
  exact va_gets hx hb hZ hS hown hw (fun x hx => hx) d1 kk Tq hTq Xq
theorem z_arrlenD (hY : z_ok Y d M) (dd : z_at M pc .arraylength 1 pc') (kk : z_W Y pc' ls (z_i 0 :: st) h k n) : z_W Y pc ls (.ref (z_dc (z_gg Y)) :: st) h k n := by
  obtain ⟨G, ⟨p, e, R, s, m, args, below, meth, c⟩, nL, mc, ms, φ, ψ⟩ := Y
  obtain ⟨hG, hx, hb, -, -, hown, -, -, hW, -⟩ := hY
  obtain ⟨d1, rfl⟩ := dd
  intro H locs lsA hR hL hlv
  have kk := kk H locs lsA hR hL hlv
  obtain ⟨ce, c1, c2, c3⟩ := hG.2.2.2.2.2.2.2.1
  have hDb := hG.2.2.2.2.2.2.2.2
  exact W.alen (n := Int32.ofInt 0) hx hb ((hR.2.2 _ hDb).trans c1) (State.isArrayOf_alike hW.alike c2) (by rw [c3]; rfl) rfl rfl d1 kk
/-- new Object[N] -/
theorem z_newQ {ix N : Nat} (hY : z_ok Y d M) (dd : z_at M pc (.anewarray ix) 3 pc') (hl : Cond.classLink M.1.cls ix "java/lang/Object" ∈ lw_tbl) (hN : N ≤ 100000) (hk : k + 1 ≤ z_mc Y ∧ n + N ≤ z_ms Y) (kk : ∀ q : Nat, h q = none → z_W Y pc' ls (.ref q :: st) (z_set h q (z_qa N (fun _ => none))) (k + 1) (n + N)) : z_W Y pc ls (z_i N :: st) h k n := by
  obtain ⟨G, ⟨p, e, R, s, m, args, below, meth, c⟩, nL, mc, ms, φ, ψ⟩ := Y
  obtain ⟨hG, hx, hb, -, -, hown, -, -, hW, -, hRm, -⟩ := hY
  obtain ⟨d1, rfl⟩ := dd
  subst hRm
  intro H locs lsA hR hL hlv
  have hK := z_K hG hW
  obtain ⟨kA2, comp2, k1, k2, k3, -⟩ := (hK.2 2 (G.2.2.2.1 2, .object "java/lang/Object") rfl).2
  have hnn : (Int32.ofInt (N : Int)).toInt = N := z_toInt (by omega)
  have hn0 : ¬ Int32.ofInt (N : Int) < 0 := by rw [Int32.lt_iff_toInt_lt, hnn]; show ¬ (N : Int) < 0; omega
  have hnc : (Int32.ofInt (N : Int)).toNatClampNeg = N := by show (Int32.ofInt (N : Int)).toInt.toNat = N; rw [hnn]; rfl
  refine W.anew hx hb hown (z_wd hG hW hl rfl) (va_AO.use (va_AO.moved hW.alike (va_AO.of (hG.2.2.1 _ wAO)))) rfl d1 rfl hn0 (by rw [hnc]; omega) hk.1 (by rw [hnc]; exact hk.2) fun cA kA comp f1 f2 f3 f4 => ?_
  have hcls : cA = G.2.2.2.1 2 := by
    have e1 := va_nmO (s := s) (C := "java/lang/Object") ⟨kA, comp, f2, f3, f4, f1⟩ rfl
    have e2 := va_nmO (s := s) (hK.2 2 (G.2.2.2.1 2, .object "java/lang/Object") rfl).2 rfl
    exact Option.some.inj (e1.symm.trans e2)
  subst hcls
  rw [hnc]
  generalize hH1 : H.push ({ cls := G.2.2.2.1 2, slots := Array.replicate N .null, vm := .none } : Cell) = H1
  have z1 : H1.size = H.size + 1 := by rw [← hH1, Array.size_push]
  have e1 : H1[H.size]? = some (arrV (G.2.2.2.1 2) N (fun _ => .null)) := by rw [← hH1, Array.getElem?_push_size, ← arrV_new]
  have o1 : ∀ q : Nat, q < H.size → H1[q]? = H[q]? := fun q hq => by rw [← hH1, Array.getElem?_push, if_neg (Nat.ne_of_lt hq)]
  obtain ⟨hR1, hnone⟩ := hR.push (c := z_qa N (fun _ => none)) (by show H1[H.size]? = some (vp_cell _ _); rw [vp_cell_q]; exact e1) z1 o1
  exact kk H.size hnone H1 locs lsA hR1 hL hlv
/-- a reference into a row of references -/
theorem z_upO {f : Int → Option Nat} {i : Int} {x : Option Nat} (hi : 0 ≤ i) : (fun j : Nat => z_up f i x j) = va_up (fun j : Nat => f j) i.toNat x := by
  funext j
  unfold z_up va_up
  by_cases hj : j = i.toNat
  · rw [if_pos hj, if_pos (by omega)]
  · rw [if_neg hj, if_neg (by omega)]
theorem z_aastore {a N v : Nat} {i : Int} {f : Int → Option Nat} {fs : List Value} (hY : z_ok Y d M) (dd : z_at M pc .aastore 1 pc') (ha : h a = some (z_qa N f)) (hv : h v = some (z_ob 0 fs)) (hi : 0 ≤ i ∧ i < N ∧ N ≤ 2147483647) (kk : z_W Y pc' ls st (z_set h a (z_qa N (z_up f i (some v)))) k n) : z_W Y pc ls (.ref v :: z_i i :: .ref a :: st) h k n := by
  obtain ⟨G, ⟨p, e, R, s, m, args, below, meth, c⟩, nL, mc, ms, φ, ψ⟩ := Y
  obtain ⟨hG, hx, hb, -, -, hown, -, -, hW, -⟩ := hY
  obtain ⟨d1, rfl⟩ := dd
  intro H locs lsA hR hL hlv
  have hK := z_K hG hW
  have hA := (hR.1 a _ ha).2
  obtain ⟨v1, v2⟩ := z_nat (i := i) (N := N) (by omega) (by omega)
  obtain ⟨r', hr', cellV, g1, g2, g3, -⟩ := (hR.1 v _ hv).1
  have hr0 : r' = (RX0, TX0, 11) := Option.some.inj (hr'.symm.trans rfl)
  subst hr0
  have hcls := (hK.1 0 (RX0, TX0, 11) rfl).2
  obtain ⟨kA, comp, k1, k2, k3, -⟩ := (hK.2 2 (G.2.2.2.1 2, .object "java/lang/Object") rfl).2
  obtain ⟨kE, hkE, -⟩ := Vm.findClass_spec k3
  obtain ⟨c0, t1, f1, f2, f3⟩ := Cond.castable_spec (z_wd2 (args := args) hG hW wCE rfl)
  have hc0 : G.2.2.1.1 0 = c0 := Option.some.inj (hcls.1.symm.trans f1)
  have ht1 : comp = t1 := Option.some.inj (k3.symm.trans f2)
  subst ht1
  obtain ⟨kC, hkC, -⟩ := hcls.2
  have h0 : ¬ Int32.ofInt i < 0 := fun q => v1 (Or.inl q)
  have hlt : (Int32.ofInt i).toNatClampNeg < N := Nat.not_le.mp fun q => v1 (Or.inr q)
  refine W.aast hx hb (hR.at ha 0 _ rfl) (fun q h => by cases h) (fun h => by cases h) k1 k2 rfl hkE ⟨h0, by show _ < (arrV _ _ _).slots.size; rw [arrV_size]; exact hlt⟩ g1 (fun q h => by rw [g3] at h; cases h) (by rw [g2]; exact hkC) (by rw [g2, hc0]; exact f3) rfl rfl d1 fun H1 e1 e2 e3 => ?_
  refine kk H1 _ lsA (hR.put ha ?_ e2 e3) (fun q hq => ?_) hlv
  · show H1[a]? = some (vp_cell _ _)
    rw [e1, v2]
    show some ((vp_cell _ (N, .inr (.inr (.inr (.inr (fun j : Nat => f j)))))).setSlot _ _) = some (vp_cell _ (N, .inr (.inr (.inr (.inr (fun j : Nat => z_up f i (some v) j))))))
    rw [z_upO hi.1, vp_cell_q, vp_cell_q, arrV_store]
    congr 2
    funext q
    by_cases hq : q = i.toNat
    · subst hq
      simp [updV, va_up, va_rf]
    · simp [updV, va_up, hq]
  · rcases List.mem_append.mp hq with g | g
    · exact hL q g
    · rw [List.mem_singleton.mp g]; exact hA
theorem z_aastoreN {a N : Nat} {i : Int} {f : Int → Option Nat} (hY : z_ok Y d M) (dd : z_at M pc .aastore 1 pc') (ha : h a = some (z_qa N f)) (hi : 0 ≤ i ∧ i < N ∧ N ≤ 2147483647) (kk : z_W Y pc' ls st (z_set h a (z_qa N (z_up f i none))) k n) : z_W Y pc ls (.null :: z_i i :: .ref a :: st) h k n := by
  obtain ⟨G, ⟨p, e, R, s, m, args, below, meth, c⟩, nL, mc, ms, φ, ψ⟩ := Y
  obtain ⟨hG, hx, hb, -, -, hown, -, -, hW, -⟩ := hY
  obtain ⟨d1, rfl⟩ := dd
  intro H locs lsA hR hL hlv
  have hK := z_K hG hW
  have hA := (hR.1 a _ ha).2
  obtain ⟨v1, v2⟩ := z_nat (i := i) (N := N) (by omega) (by omega)
  refine va_WaastN (C := "java/lang/Object") hx hb (hR.at ha 0 _ rfl) ((hK.2 2 (G.2.2.2.1 2, .object "java/lang/Object") rfl).1 N (fun j => va_rf (f j))) (fun h => by cases h) (by show ¬ (_ ∨ (arrV _ _ _).slots.size ≤ _); rw [arrV_size]; exact v1) rfl rfl d1 fun H1 e1 e2 e3 => ?_
  refine kk H1 _ lsA (hR.put ha ?_ e2 e3) (fun q hq => ?_) hlv
  · show H1[a]? = some (vp_cell _ _)
    rw [e1, v2]
    show some ((vp_cell _ (N, .inr (.inr (.inr (.inr (fun j : Nat => f j)))))).setSlot _ _) = some (vp_cell _ (N, .inr (.inr (.inr (.inr (fun j : Nat => z_up f i none j))))))
    rw [z_upO hi.1, vp_cell_q, vp_cell_q, arrV_store]
    congr 2
    funext q
    by_cases hq : q = i.toNat
    · subst hq
      simp [updV, va_up, va_rf]
    · simp [updV, va_up, hq]
  · rcases List.mem_append.mp hq with g | g
    · exact hL q g
    · rw [List.mem_singleton.mp g]; exact hA
def z_cpy (f g : Int → Option Nat) (sp dp n : Int) : Int → Option Nat := fun j => if dp ≤ j ∧ j < dp + n then f (sp + (j - dp)) else g j
theorem z_cpyE {f g : Int → Option Nat} {sp dp n : Int} (h : 0 ≤ sp ∧ 0 ≤ dp ∧ 0 ≤ n) : va_cpy (fun j : Nat => f j) (fun j : Nat => g j) sp.toNat dp.toNat n.toNat = fun j : Nat => z_cpy f g sp dp n j := by
  funext j
  unfold va_cpy z_cpy
  by_cases hc : dp.toNat ≤ j ∧ j < dp.toNat + n.toNat
  · rw [if_pos hc, if_pos (by omega)]
    exact congrArg f (by omega)
  · rw [if_neg hc, if_neg (by omega)]
/-- System.arraycopy between rows of references to entrants -/
theorem z_arraycopy {a0 a n0 n1 ix : Nat} {sp dp m0 : Int} {f g : Int → Option Nat} (hY : z_ok Y d M) (dd : z_at M pc (.invokestatic ix) 3 pc') (hlk : Cond.methodLink M.1.cls ix arraycopyName ∈ lw_tbl) (ha0 : h a0 = some (z_qa n0 f)) (ha1 : h a = some (z_qa n1 g)) (hr : 0 ≤ sp ∧ 0 ≤ dp ∧ 0 ≤ m0 ∧ sp + m0 ≤ n0 ∧ dp + m0 ≤ n1 ∧ n0 ≤ 2147483647 ∧ n1 ≤ 2147483647)
    (hel : ∀ i : Int, 0 ≤ i → i < m0 → ∀ y : Nat, f (sp + i) = some y → ∃ fs : List Value, h y = some (z_ob 0 fs)) (hrest : (st.map fun v => v.category).sum ≤ 8) (kk : z_W Y pc' ls st (z_set h a (z_qa n1 (z_cpy f g sp dp m0))) k n) : z_W Y pc ls (z_i m0 :: z_i dp :: .ref a :: z_i sp :: .ref a0 :: st) h k n := by
  obtain ⟨G, ⟨p, e, R, s, m, args, below, meth, c⟩, nL, mc, ms, φ, ψ⟩ := Y
  obtain ⟨hG, hx, hb, hml, hnl, hown, -, -, hW, -, hRm, -⟩ := hY
  obtain ⟨d1, rfl⟩ := dd
  subst hRm
  intro H locs lsA hR hL hlv T hT X
  have hK := z_K hG hW
  have hA := (hR.1 a _ ha1).2
  have cv : ∀ z : Int, 0 ≤ z → z ≤ 2147483647 → ¬ Int32.ofInt z < 0 ∧ (Int32.ofInt z).toInt = z ∧ (Int32.ofInt z).toNatClampNeg = z.toNat := by
    intro z h1 h2
    have e1 : (Int32.ofInt z).toInt = z := z_toInt (by omega)
    refine ⟨?_, e1, ?_⟩
    · rw [Int32.lt_iff_toInt_lt, e1]; show ¬ z < 0; omega
    · show (Int32.ofInt z).toInt.toNat = _; rw [e1]
  obtain ⟨s1, s2, s3⟩ := cv sp (by omega) (by omega)
  obtain ⟨p1, p2, p3⟩ := cv dp (by omega) (by omega)
  obtain ⟨n1', n2, n3⟩ := cv m0 (by omega) (by omega)
  have hc0 : H[a0]? = some (vp_cell (G.2.2.2.1 2) (n0, .inr (.inr (.inr (.inr (fun j : Nat => f j)))))) := hR.at ha0 0 _ rfl
  have hc1 : H[a]? = some (vp_cell (G.2.2.2.1 2) (n1, .inr (.inr (.inr (.inr (fun j : Nat => g j)))))) := hR.at ha1 0 _ rfl
  have hty := hK.2 2 (G.2.2.2.1 2, .object "java/lang/Object") rfl
  obtain ⟨-, k0, hk0, cm0, hkk0⟩ := hty.1 n0 (fun j => va_rf (f j))
  obtain ⟨-, k1, hk1, cm1, hkk1⟩ := hty.1 n1 (fun j => va_rf (g j))
  have hcls := (hK.1 0 (RX0, TX0, 11) rfl).2
  obtain ⟨c0, t1, f1, f2, f3⟩ := Cond.castable_spec (z_wd2 (args := args) hG hW wCE rfl)
  have hcc0 : G.2.2.1.1 0 = c0 := Option.some.inj (hcls.1.symm.trans f1)
  obtain ⟨vm', X', step⟩ := X.arraycopy hx hown (z_wd hG hW hlk rfl) (z_wd hG hW wACn rfl) (z_wd hG hW wACs rfl) (z_wd hG hW wACi rfl) (src := a0) (dst := a) (cs := vp_cell (G.2.2.2.1 2) (n0, .inr (.inr (.inr (.inr (fun j : Nat => f j)))))) (cd := vp_cell (G.2.2.2.1 2) (n1, .inr (.inr (.inr (.inr (fun j : Nat => g j)))))) (srcPos := Int32.ofInt sp) (destPos := Int32.ofInt dp) (n := Int32.ofInt m0) (by rw [hT]; exact hc0) (by rw [hT]; exact hc1)
    (fun _ h => by cases h) (fun _ h => by cases h) (fun h => by cases h) (fun h => by cases h) hk0 hk1 hkk0 hkk1 rfl s1 p1 n1'
    (by rw [s2, n2]; show ¬ _ > ((arrV _ n0 (fun j => va_rf (f j))).slots.size : Int); rw [arrV_size]; omega)
    (by rw [p2, n2]; show ¬ _ > ((arrV _ n1 (fun j => va_rf (g j))).slots.size : Int); rw [arrV_size]; omega)
    (fun vm₁ hal i hi => by
      rw [n3] at hi
      rw [s3]
      have e : (vp_cell (G.2.2.2.1 2) (n0, .inr (.inr (.inr (.inr (fun j : Nat => f j)))))).slots.getD (sp.toNat + i) .null = va_rf (f ((sp.toNat + i : Nat) : Int)) := by
        show (arrV _ n0 (fun j : Nat => va_rf (f j))).slots.getD _ _ = _
        rw [Array.getD_eq_getD_getElem?, arrV_read _ _ (by omega)]
        rfl
      rw [e]
      cases hy : f ((sp.toNat + i : Nat) : Int) with
      | none => exact ⟨rfl, trivial⟩
      | some y =>
        obtain ⟨fs, hfs⟩ := hel i (by omega) (by omega) y (by rw [← hy]; congr 1; omega)
        obtain ⟨r', hr', cellV, g1, g2, g3, -⟩ := (hR.1 y _ hfs).1
        have hr0 : r' = (RX0, TX0, 11) := Option.some.inj (hr'.symm.trans rfl)
        subst hr0
        obtain ⟨kA, comp, r1, r2, r3, -⟩ := hty.2
        cases hk1.symm.trans r1
        cases hkk1.symm.trans r2
        have gc : s.vm.findClass RX0 = some cellV.cls := by rw [g2]; exact hcls.1
        obtain ⟨kC, hkC, -⟩ := Vm.findClass_spec gc
        obtain ⟨kE, hkE, -⟩ := Vm.findClass_spec r3
        obtain ⟨kC', hkC', -⟩ := hal.2.2 _ _ hkC
        obtain ⟨kE', hkE', -⟩ := hal.2.2 _ _ hkE
        refine ⟨rfl, cellV, (show T.heap[y]? = some cellV by rw [hT]; exact g1), (fun q h => by rw [h] at g3; cases g3), ⟨kC', hkC'⟩, ?_, ?_⟩
        · exact ⟨kE', hkE'⟩
        · show vm₁.assignable _ _ = true
          rw [hal.assignable]
          have ht1 : cm1 = t1 := Option.some.inj (r3.symm.trans f2)
          rw [ht1, g2, hcc0]
          exact f3)
    (g := F0 m pc lsA (z_i m0 :: z_i dp :: .ref a :: z_i sp :: .ref a0 :: st)) rfl (by rw [hml]; exact hlv.1) (rest := st) rfl (by rw [hb]; exact d1) (by show 1 ≤ 7 + d; omega) (by show 2 * 0 + _ + _ ≤ 110 + 50 * d; have hw : nativeFrameWords "java/lang/System" "arraycopy" 5 ≤ 20 := (by decide); omega)
  have e1 : copied (vp_cell (G.2.2.2.1 2) (n0, .inr (.inr (.inr (.inr (fun j : Nat => f j)))))) (vp_cell (G.2.2.2.1 2) (n1, .inr (.inr (.inr (.inr (fun j : Nat => g j)))))) (Int32.ofInt sp) (Int32.ofInt dp) (Int32.ofInt m0) = vp_cell (G.2.2.2.1 2) (n1, .inr (.inr (.inr (.inr (fun j : Nat => z_cpy f g sp dp m0 j))))) := by
    rw [← z_cpyE ⟨hr.1, hr.2.1, hr.2.2.1⟩, vp_cell_q, vp_cell_q, vp_cell_q, ← s3, ← p3, ← n3]
    exact va_copied (fun z => va_rf z) _ _ _ _ (by rw [s3, n3]; omega)
  rw [e1] at X' step
  have hl : a < H.size := (Array.getElem?_eq_some_iff.mp hc1).1
  have hheap : ((T.setVm vm').setCell a (vp_cell (G.2.2.2.1 2) (n1, .inr (.inr (.inr (.inr (fun j : Nat => z_cpy f g sp dp m0 j))))))).heap = H.setIfInBounds a (vp_cell (G.2.2.2.1 2) (n1, .inr (.inr (.inr (.inr (fun j : Nat => z_cpy f g sp dp m0 j)))))) := by rw [← hT]; rfl
  have oq : ∀ q : Nat, q ≠ a → (H.setIfInBounds a (vp_cell (G.2.2.2.1 2) (n1, .inr (.inr (.inr (.inr (fun j : Nat => z_cpy f g sp dp m0 j)))))))[q]? = H[q]? := fun q hq => by simp [Array.getElem?_setIfInBounds, Ne.symm hq]
  obtain ⟨t, a1, b1⟩ := kk _ _ lsA (hR.put ha1 (c := z_qa n1 (z_cpy f g sp dp m0)) (show (H.setIfInBounds a _)[a]? = some _ by simp [Array.getElem?_setIfInBounds, hl]) (by simp) oq) (fun q hq => by
      rcases List.mem_append.mp hq with g | g
      · exact hL q g
      · obtain ⟨z, -, hz⟩ := List.mem_map.mp g
        rw [← hz]
        exact hA) hlv _ hheap X'
  exact ⟨t, step t a1, b1⟩
/-- the class object of Object[], as a constant and of a row -/
theorem z_ldcM (hY : z_ok Y d M) (hown1 : M.1.cls = "java/util/Arrays") {mi : Nat} (hM : va_Mi "[Ljava/lang/Object;" mi (z_gg Y).2.1) (dd : z_at M pc (.ldc 110) 2 pc') (kk : z_W Y pc' ls (.ref mi :: st) h k n) : z_W Y pc ls st h k n := by
  obtain ⟨G, ⟨p, e, R, s, m, args, below, meth, c⟩, nL, mc, ms, φ, ψ⟩ := Y
  obtain ⟨hG, hx, hb, -, -, hown, -, -, hW, -⟩ := hY
  obtain ⟨d1, rfl⟩ := dd
  rw [hown1] at hown
  intro H locs lsA hR hL hlv
  exact va_ldcM hx hb hown (z_wd hG hW wA110 rfl) (va_Mi.moved hW.alike hM) d1 (kk H locs lsA hR hL hlv)
theorem z_getC {a N : Nat} {f : Int → Option Nat} (hY : z_ok Y d M) (hown1 : M.1.cls = "java/util/Arrays") {mi : Nat} (hM : va_Mi "[Ljava/lang/Object;" mi (z_gg Y).2.1) (dd : z_at M pc (.invokevirtual 86) 3 pc') (ha : h a = some (z_qa N f)) (hrest : (st.map fun v => v.category).sum ≤ 8) (kk : z_W Y pc' ls (.ref mi :: st) h k n) : z_W Y pc ls (.ref a :: st) h k n := by
  obtain ⟨G, ⟨p, e, R, s, m, args, below, meth, c⟩, nL, mc, ms, φ, ψ⟩ := Y
  obtain ⟨hG, hx, hb, hml, hnl, hown, -, -, hW, -, hRm, -⟩ := hY
  obtain ⟨d1, rfl⟩ := dd
  subst hRm
  rw [hown1] at hown
  intro H locs lsA hR hL hlv
  have hK := z_K hG hW
  have hc0 : H[a]? = some (vp_cell (G.2.2.2.1 2) (N, .inr (.inr (.inr (.inr (fun j : Nat => f j)))))) := hR.at ha 0 _ rfl
  exact va_getC hx hb (by rw [hml]; exact hlv.1.symm) hown (z_wd hG hW wGCl rfl) (z_wd2 hG hW wGCd rfl) (z_wd hG hW wGCs rfl) (z_wd hG hW wGCi rfl) (z_wd hG hW wGCn rfl) (va_Mi.moved hW.alike hM)
    ⟨_, hc0, rfl, va_nmO (hK.2 2 (G.2.2.2.1 2, .object "java/lang/Object") rfl).2 rfl⟩ (by show 1 ≤ 7 + d; omega) (by show _ ≤ 110 + 50 * d; omega) d1 (kk H locs lsA hR hL hlv)

end RF
