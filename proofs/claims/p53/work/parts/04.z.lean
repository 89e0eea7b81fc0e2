/-! THE WALK OVER A HEAP THAT IS A FUNCTION: ints are integers, cells lie at numbers, what a method may not touch lies below the start's size. -/
section ZL
/-- an int, a long by its integer -/
def z_i (x : Int) : Value := .int (Int32.ofInt x)
def z_l (x : Int) : Value := .long (Int64.ofInt x)
/-- what lies at an address that the run has made; arrays by the number of their type: 0 int, 1 boolean, 2 Object, 3 byte -/
abbrev z_H : Type := Nat → Option va_E
def z_set (h : z_H) (a : Nat) (c : va_E) : z_H := fun q => if q = a then some c else h q
def z_up {α : Type} (f : Int → α) (k : Int) (v : α) : Int → α := fun j => if j = k then v else f j
def z_ia (n : Nat) (f : Int → Int) : va_E := .inl (0, n, .inl (fun j => Int32.ofInt (f j)))
def z_ba (n : Nat) (f : Int → Int) : va_E := .inl (1, n, .inl (fun j => Int32.ofInt (f j)))
def z_ya (n : Nat) (f : Int → Int) : va_E := .inl (3, n, .inl (fun j => Int32.ofInt (f j)))
def z_qa (n : Nat) (f : Int → Option Nat) : va_E := .inl (2, n, .inr (.inr (.inr (.inr (fun j => f j)))))
def z_ob (ci : Nat) (fs : List Value) : va_E := .inr (ci, fs)
/-- the launch; the start; class numbers and slots; array classes; ArrayList's empty row; the law's arguments -/
abbrev z_G : Type := Launch × State × va_G × (Nat → ClassId) × Nat × Array Value
abbrev z_cl : List vw_C := [(RX0, TX0, 11), (RX1, TX1, 3), (RX2, TX2, 3), (RX3, TX3, 6), (RX4, TX4, 1), (RX5, TX5, 1), (RX6, TX6, 2), (RX7, TX7, 13), (RL, TL, 21), (RJx4a65c, TJx4a65c, 3), (RJ4, TJ4, 4), (RJ0, TJ0, 4)]
def z_tys (G : z_G) : List (ClassId × FieldType) := [(G.2.2.2.1 0, .int), (G.2.2.2.1 1, .boolean), (G.2.2.2.1 2, .object "java/lang/Object"), (G.2.2.2.1 3, .byte)]
def z_b (G : z_G) : Nat := G.2.1.heap.size
def z_A (G : z_G) : Nat → Prop := fun q => z_b G ≤ q
def z_cell (G : z_G) (c : va_E) : va_E := match c with
  | .inl a => .inl (G.2.2.2.1 a.1, a.2)
  | .inr o => .inr o
def z_R (G : z_G) (h : z_H) (H : Heap) : Prop := (∀ (a : Nat) (c : va_E), h a = some c → va_at G.2.2.1 z_cl (a, z_cell G c) H ∧ z_b G ≤ a) ∧ z_b G ≤ H.size ∧ ∀ q : Nat, q < z_b G → H[q]? = G.2.1.heap[q]?
def z_OK (G : z_G) : Prop := G.1.stackTraces = false ∧ va_K G.2.2.1 z_cl (z_tys G) G.2.1 ∧ (∀ w ∈ lw_tbl, w.before G.2.2.2.2.2 G.2.1 = true) ∧
  vx_Zq Bundle.tN "UNASSIGNED_STACK" Bundle.steD (z_A G) G.2.1 G.2.1.heap ∧ vx_Zq Bundle.tN "SUPPRESSED_SENTINEL" Bundle.listD (z_A G) G.2.1 G.2.1.heap ∧
  (∀ (own : String) (k : Nat) (tx : String), Cond.stringRef own k tx ∈ lw_tbl → ∃ sa : Nat, vk_R own k tx sa G.2.1) ∧
  va_Z "java/util/ArrayList" "DEFAULTCAPACITY_EMPTY_ELEMENTDATA" "[Ljava/lang/Object;" (.ref G.2.2.2.2.1) (z_A G) G.2.1 G.2.1.heap ∧
  (∃ ce : Cell, G.2.1.heap[G.2.2.2.2.1]? = some ce ∧ G.2.1.isArrayOf ce (.object "java/lang/Object") ∧ ce.slots.size = 0) ∧ G.2.2.2.2.1 < z_b G
/-- a method: its name, its code, its locals, what it returns -/
abbrev z_M : Type := MethodName × ByteArray × Nat × Option FieldType
abbrev z_X : Type := Program × Env × Room × State × MethodId × Array Value × List Frame × Method × Code
abbrev z_P : Type := (Option Value → z_H → Prop) × (String → z_H → Prop)
abbrev z_Y : Type := z_G × z_X × Nat × Nat × Nat × z_P
def z_rm (d mc ms : Nat) : Room := { frames := 7 + d, cells := mc, slots := ms, locals := 110 + 50 * d }
def z_lo (G : z_G) (s : State) : Prop := z_b G ≤ s.heap.size ∧ ∀ q : Nat, q < z_b G → s.heap[q]? = G.2.1.heap[q]?
def z_ok (Y : z_Y) (d : Nat) (M : z_M) : Prop := match Y with
  | (G, (p, _, R, s, m, _, _, meth, c), nL, mc, ms, _, ψ) => z_OK G ∧ p.tables.exec = Jvm.exec ∧ c.code = M.2.1 ∧ c.maxLocals = nL ∧ nL = M.2.2.1 ∧ s.vm.findClass M.1.cls = some m.cls ∧ meth.sig.returnType = M.2.2.2 ∧ meth.locks = false ∧ G.2.1.WarmedH s.vm ∧ (∀ (E : String) (h : z_H), ψ E h → ∀ x ∈ c.exceptionTable.toList, False) ∧ R = z_rm d mc ms ∧ z_lo G s ∧ meth.name = M.1.name
def z_Qc (G : z_G) (φ : Option Value → z_H → Prop) : Array Value → State → Outcome → State → Prop := fun _ _ o t => ∃ (v : Option Value) (h : z_H), o = .returned v ∧ φ v h ∧ z_R G h t.heap
def z_XC (G : z_G) (ψ : String → z_H → Prop) : String → State → State → Prop := fun E _ t => ∃ h : z_H, ψ E h ∧ z_R G h t.heap
def z_Pc (G : z_G) (As : List Value) (h : z_H) : Array Value → State → Prop := fun v U => v = As.toArray ∧ z_R G h U.heap ∧ G.2.1.WarmedH U.vm
/-- the walk at a pc: locals, stack, heap; cells and slots spent -/
def z_W (Y : z_Y) (pc : Nat) (ls : List (Nat × Value)) (st : List Value) (h : z_H) (k n : Nat) : Prop := match Y with
  | (G, (p, e, R, s, m, args, below, meth, c), nL, mc, ms, φ, ψ) => ∀ (H : Heap) (locs : List Loc) (lsA : Array Slot), z_R G h H → (∀ q ∈ locs, z_b G ≤ q.base) → lv_has lsA nL ls →
      W p G.1 e R s m args below meth c H locs k n (vx_MQ below (z_Qc G φ) (z_XC G ψ) args s mc ms (z_A G)) (F0 m pc lsA st)
def z_ws (M : z_M) : List Cond := [Cond.code M.1 M.2.1 M.2.2.1 M.2.2.2]
/-- a method's contract: from the heap h it returns with φ, or throws with ψ; at most mc cells of ms slots are new; d bounds the calls that stand open -/
def z_T (G : z_G) (M : z_M) (As : List Value) (h : z_H) (d mc ms : Nat) (φ : Option Value → z_H → Prop) (ψ : String → z_H → Prop) : Prop :=
  vx_Met G.1 M.1 (z_ws M) (z_rm d mc ms) (z_Pc G As h) (z_Qc G φ) (z_XC G ψ) mc ms (z_A G)
/-- a method that reads: it answers r, and the heap is as it was -/
abbrev z_Tr (G : z_G) (M : z_M) (As : List Value) (h : z_H) (d : Nat) (r : Value) : Prop := z_T G M As h d 0 0 (fun v h' => v = some r ∧ h' = h) (fun _ _ => False)
abbrev z_no : String → z_H → Prop := fun _ _ => False
-- words
theorem z_in {i : Nat} {w : Cond} (h : lw_tbl[i]? = some w) : w ∈ lw_tbl := List.mem_of_getElem? h
theorem z_wd {G : z_G} {s : State} {args : Array Value} {w : Cond} (hG : z_OK G) (hW : G.2.1.WarmedH s.vm) (hw : w ∈ lw_tbl) (hg : goodWord w = true) : w.before args s = true := word_at hW (good_of_word hg) (hG.2.2.1 w hw)
theorem z_wdF {G : z_G} {s : State} {args : Array Value} {a b n d hs : String} {i : Nat} (hG : z_OK G) (hW : G.2.1.WarmedH s.vm) (hw : Cond.fieldLinkNest a i b n d hs ∈ lw_tbl) : (Cond.fieldLinkNest a i b n d hs).before args s = true :=
  va_Nw.use rfl (va_Nw.warmF hW (va_Nw.of rfl (hG.2.2.1 _ hw)))
theorem z_wdM {G : z_G} {s : State} {a hs : String} {i : Nat} {x : MethodName} (hG : z_OK G) (hW : G.2.1.WarmedH s.vm) (hw : Cond.methodLinkNest a i x hs ∈ lw_tbl) : va_Nw (Cond.methodLinkNest a i x hs) s :=
  va_Nw.warmM hW (va_Nw.of rfl (hG.2.2.1 _ hw))
-- heaps
theorem z_R.lt {G : z_G} {h : z_H} {H : Heap} (hR : z_R G h H) {a : Nat} {c : va_E} (ha : h a = some c) : a < H.size := (hR.1 a c ha).1.lt
theorem z_R.at {G : z_G} {h : z_H} {H : Heap} (hR : z_R G h H) {a : Nat} {c : va_E} (ha : h a = some c) : va_P G.2.2.1 z_cl [(a, z_cell G c)] H := by
  intro k q hk
  have hz : k < 1 := (List.getElem?_eq_some_iff.mp hk).1
  have hk0 : k = 0 := by omega
  subst hk0
  cases hk
  exact (hR.1 a c ha).1
theorem z_R.put {G : z_G} {h : z_H} {H H1 : Heap} {a : Nat} {c0 c : va_E} (hR : z_R G h H) (ha : h a = some c0) (hc : va_at G.2.2.1 z_cl (a, z_cell G c) H1) (z : H1.size = H.size) (oq : ∀ q : Nat, q ≠ a → H1[q]? = H[q]?) : z_R G (z_set h a c) H1 := by
  refine ⟨fun b e hb => ?_, by rw [z]; exact hR.2.1, fun q hq => ?_⟩
  · unfold z_set at hb
    by_cases hba : b = a
    · rw [if_pos hba] at hb
      cases hb
      subst hba
      exact ⟨hc, (hR.1 _ _ ha).2⟩
    · rw [if_neg hba] at hb
      exact ⟨((hR.1 b e hb).1).kept (oq b hba), (hR.1 b e hb).2⟩
  · have h1 := (hR.1 _ _ ha).2
    rw [oq q (by omega)]
    exact hR.2.2 q hq
theorem z_R.push {G : z_G} {h : z_H} {H H1 : Heap} {c : va_E} (hR : z_R G h H) (hc : va_at G.2.2.1 z_cl (H.size, z_cell G c) H1) (z : H1.size = H.size + 1) (oq : ∀ q : Nat, q < H.size → H1[q]? = H[q]?) : z_R G (z_set h H.size c) H1 ∧ h H.size = none := by
  have hnone : h H.size = none := by
    cases hh : h H.size with
    | none => rfl
    | some e => exact absurd (hR.lt hh) (by omega)
  refine ⟨⟨fun b e hb => ?_, by rw [z]; have := hR.2.1; omega, fun q hq => ?_⟩, hnone⟩
  · unfold z_set at hb
    by_cases hba : b = H.size
    · rw [if_pos hba] at hb
      cases hb
      subst hba
      exact ⟨hc, hR.2.1⟩
    · rw [if_neg hba] at hb
      exact ⟨((hR.1 b e hb).1).kept (oq b (hR.lt hb)), (hR.1 b e hb).2⟩
  · have := hR.2.1
    rw [oq q (by omega)]
    exact hR.2.2 q hq
theorem z_R.grow {G : z_G} {h : z_H} {H H1 : Heap} (hR : z_R G h H) (z : H.size ≤ H1.size) (oq : ∀ q : Nat, q < H.size → H1[q]? = H[q]?) : z_R G h H1 := by
  have := hR.2.1
  exact ⟨fun b e hb => ⟨((hR.1 b e hb).1).kept (oq b (hR.lt hb)), (hR.1 b e hb).2⟩, by omega, fun q hq => by rw [oq q (by omega)]; exact hR.2.2 q hq⟩
theorem z_K {G : z_G} {s : State} (hG : z_OK G) (hW : G.2.1.WarmedH s.vm) : va_K G.2.2.1 z_cl (z_tys G) s := va_K.moved hW.alike hG.2.1
theorem z_lay {G : z_G} {s : State} {args : Array Value} {C : String} {T : u_T} {N : Nat} (hG : z_OK G) (hW : G.2.1.WarmedH s.vm) (hin : ∀ w ∈ u_ws C T N, w ∈ lw_tbl) : ∀ w ∈ u_ws C T N, w.before args s = true := by
  intro w hw
  refine z_wd hG hW (hin w hw) ?_
  obtain ⟨k, -, rfl⟩ := List.mem_map.mp hw
  unfold u_lay
  split <;> rfl
-- numbers
theorem z_toInt {a : Int} (h : -2147483648 ≤ a ∧ a ≤ 2147483647) : (Int32.ofInt a).toInt = a := Int32.toInt_ofInt_of_le (by omega) (by omega)
theorem z_lt {a b : Int} (h : -2147483648 ≤ a ∧ a ≤ 2147483647 ∧ -2147483648 ≤ b ∧ b ≤ 2147483647) : Int32.ofInt a < Int32.ofInt b ↔ a < b := by
  rw [Int32.lt_iff_toInt_lt, z_toInt ⟨h.1, h.2.1⟩, z_toInt ⟨h.2.2.1, h.2.2.2⟩]
theorem z_le {a b : Int} (h : -2147483648 ≤ a ∧ a ≤ 2147483647 ∧ -2147483648 ≤ b ∧ b ≤ 2147483647) : Int32.ofInt a ≤ Int32.ofInt b ↔ a ≤ b := by
  rw [Int32.le_iff_toInt_le, z_toInt ⟨h.1, h.2.1⟩, z_toInt ⟨h.2.2.1, h.2.2.2⟩]
theorem z_eq {a b : Int} (h : -2147483648 ≤ a ∧ a ≤ 2147483647 ∧ -2147483648 ≤ b ∧ b ≤ 2147483647) : Int32.ofInt a = Int32.ofInt b ↔ a = b := by
  rw [← Int32.toInt_inj, z_toInt ⟨h.1, h.2.1⟩, z_toInt ⟨h.2.2.1, h.2.2.2⟩]
theorem z_0 : (0 : Int32) = Int32.ofInt 0 := rfl
theorem z_nat {i : Int} {N : Nat} (h : 0 ≤ i ∧ i < N) (hN : N < 2147483648) : vp_in (Int32.ofInt i) N ∧ (Int32.ofInt i).toNatClampNeg = i.toNat := by
  have h1 : (Int32.ofInt i).toInt = i := z_toInt (by omega)
  refine ⟨vp_in_iff.mpr ⟨by rw [h1]; exact h.1, by rw [h1]; exact h.2⟩, ?_⟩
  show (Int32.ofInt i).toInt.toNat = _
  rw [h1]
theorem z_of (x : Int32) : Value.int x = z_i x.toInt := by rw [z_i, Int32.ofInt_toInt]
theorem z_rg (x : Int32) : -2147483648 ≤ x.toInt ∧ x.toInt ≤ 2147483647 := by
  have h1 := x.minValue_le_toInt
  have h2 := x.toInt_le
  have e1 : Int32.minValue.toInt = -2147483648 := by decide
  have e2 : Int32.maxValue.toInt = 2147483647 := by decide
  omega
-- rows of the walk: d-words
def z_at (M : z_M) (pc : Nat) (i : Instr) (len pc' : Nat) : Prop := decode M.2.1 pc = .ok (i, len) ∧ pc + len = pc'
def z_br (M : z_M) (pc : Nat) (i : Instr) (off : Int) (pc' tgt : Nat) : Prop := decode M.2.1 pc = .ok (i, 3) ∧ pc + 3 = pc' ∧ (pc : Int) + off = (tgt : Int)
variable {Y : z_Y} {d : Nat} {M : z_M} {pc pc' : Nat} {ls ls' : List (Nat × Value)} {st st' : List Value} {h : z_H} {k n : Nat}
theorem z_lift (hY : z_ok Y d M) (f : ∀ (p : Program) (l : Launch) (e : Env) (R : Room) (s : State) (m : MethodId) (args : Array Value) (below : List Frame) (meth : Method) (c : Code) (H : Heap) (locs : List Loc) (cells slots : Nat) (Q : State → Prop) (lsA : Array Slot), p.tables.exec = Jvm.exec → c.code = M.2.1 → W p l e R s m args below meth c H locs cells slots Q (F0 m pc' lsA st') → W p l e R s m args below meth c H locs cells slots Q (F0 m pc lsA st)) (kk : z_W Y pc' ls st' h k n) : z_W Y pc ls st h k n := by
  obtain ⟨G, ⟨p, e, R, s, m, args, below, meth, c⟩, nL, mc, ms, φ, ψ⟩ := Y
  obtain ⟨hG, hx, hb, -⟩ := hY
  intro H locs lsA hR hL hl
  exact f _ _ _ _ _ _ _ _ _ _ _ _ _ _ _ _ hx hb (kk H locs lsA hR hL hl)
theorem z_liftL (hY : z_ok Y d M) (f : ∀ (p : Program) (l : Launch) (e : Env) (R : Room) (s : State) (m : MethodId) (args : Array Value) (below : List Frame) (meth : Method) (c : Code) (H : Heap) (locs : List Loc) (cells slots : Nat) (Q : State → Prop) (lsA : Array Slot), p.tables.exec = Jvm.exec → c.code = M.2.1 → lv_has lsA M.2.2.1 ls → (∀ lsB : Array Slot, lv_has lsB M.2.2.1 ls' → W p l e R s m args below meth c H locs cells slots Q (F0 m pc' lsB st')) → W p l e R s m args below meth c H locs cells slots Q (F0 m pc lsA st)) (kk : z_W Y pc' ls' st' h k n) : z_W Y pc ls st h k n := by
  obtain ⟨G, ⟨p, e, R, s, m, args, below, meth, c⟩, nL, mc, ms, φ, ψ⟩ := Y
  obtain ⟨hG, hx, hb, hml, hnl, -⟩ := hY
  intro H locs lsA hR hL hl
  rw [hnl] at hl
  exact f _ _ _ _ _ _ _ _ _ _ _ _ _ _ _ _ hx hb hl (fun lsB hB => kk H locs lsB hR hL (by rw [hnl]; exact hB))
/-- fewer locals -/
theorem z_sub (ks : List Nat) (hs : lv_pick ls ks = ls') (kk : z_W Y pc ls' st h k n) : z_W Y pc ls st h k n := by
  obtain ⟨G, ⟨p, e, R, s, m, args, below, meth, c⟩, nL, mc, ms, φ, ψ⟩ := Y
  intro H locs lsA hR hL hl
  exact kk H locs lsA hR hL (lv_sub hl ks hs)
theorem z_heq {h' : z_H} (e : h' = h) (kk : z_W Y pc ls st h k n) : z_W Y pc ls st h' k n := e ▸ kk
theorem z_widen {k' n' : Nat} (h1 : k ≤ k') (h2 : n ≤ n') (kk : z_W Y pc ls st h k' n') : z_W Y pc ls st h k n := by
  obtain ⟨G, ⟨p, e, R, s, m, args, below, meth, c⟩, nL, mc, ms, φ, ψ⟩ := Y
  intro H locs lsA hR hL hl
  exact W.widen h1 h2 (kk H locs lsA hR hL hl)
-- loads, stores, constants
def z_ld (M : z_M) (pc i pc' : Nat) : Prop := (∃ j : Fin 4, decode M.2.1 pc = .ok (.iload_n j, 1) ∧ (j : Nat) = i ∧ pc + 1 = pc') ∨ (decode M.2.1 pc = .ok (.iload i, 2) ∧ pc + 2 = pc')
def z_ad (M : z_M) (pc i pc' : Nat) : Prop := (∃ j : Fin 4, decode M.2.1 pc = .ok (.aload_n j, 1) ∧ (j : Nat) = i ∧ pc + 1 = pc') ∨ (decode M.2.1 pc = .ok (.aload i, 2) ∧ pc + 2 = pc')
def z_lld (M : z_M) (pc i pc' : Nat) : Prop := (∃ j : Fin 4, decode M.2.1 pc = .ok (.lload_n j, 1) ∧ (j : Nat) = i ∧ pc + 1 = pc') ∨ (decode M.2.1 pc = .ok (.lload i, 2) ∧ pc + 2 = pc')
def z_sd (M : z_M) (pc i pc' : Nat) : Prop := ((∃ j : Fin 4, decode M.2.1 pc = .ok (.istore_n j, 1) ∧ (j : Nat) = i ∧ pc + 1 = pc') ∨ (decode M.2.1 pc = .ok (.istore i, 2) ∧ pc + 2 = pc')) ∧ i < M.2.2.1
def z_asd (M : z_M) (pc i pc' : Nat) : Prop := ((∃ j : Fin 4, decode M.2.1 pc = .ok (.astore_n j, 1) ∧ (j : Nat) = i ∧ pc + 1 = pc') ∨ (decode M.2.1 pc = .ok (.astore i, 2) ∧ pc + 2 = pc')) ∧ i < M.2.2.1
def z_lsd (M : z_M) (pc i pc' : Nat) : Prop := ((∃ j : Fin 4, decode M.2.1 pc = .ok (.lstore_n j, 1) ∧ (j : Nat) = i ∧ pc + 1 = pc') ∨ (decode M.2.1 pc = .ok (.lstore i, 2) ∧ pc + 2 = pc')) ∧ i + 1 < M.2.2.1
theorem z_iload {i : Nat} {x : Int} (hY : z_ok Y d M) (dd : z_ld M pc i pc') (q : Nat) (hl : ls[q]? = some (i, z_i x)) (kk : z_W Y pc' ls (z_i x :: st) h k n) : z_W Y pc ls st h k n := by
  refine z_liftL hY (fun p l e R s m args below meth c H locs cells slots Q lsA hx hb hA kk => ?_) kk
  have h1 := lv_at hA q hl
  rcases dd with ⟨j, d1, d2, rfl⟩ | ⟨d1, rfl⟩
  · exact lv_iload_n hx hb d1 d2 h1 (kk lsA hA)
  · exact lv_iload hx hb d1 h1 (kk lsA hA)
theorem z_aload {i x : Nat} (hY : z_ok Y d M) (dd : z_ad M pc i pc') (q : Nat) (hl : ls[q]? = some (i, .ref x)) (kk : z_W Y pc' ls (.ref x :: st) h k n) : z_W Y pc ls st h k n := by
  refine z_liftL hY (fun p l e R s m args below meth c H locs cells slots Q lsA hx hb hA kk => ?_) kk
  have h1 := lv_at hA q hl
  rcases dd with ⟨j, d1, d2, rfl⟩ | ⟨d1, rfl⟩
  · exact lv_aload_n hx hb d1 d2 h1 (kk lsA hA)
  · exact lv_aload hx hb d1 h1 (kk lsA hA)
theorem z_lload {i : Nat} {x : Int} (hY : z_ok Y d M) (dd : z_lld M pc i pc') (q : Nat) (hl : ls[q]? = some (i, z_l x)) (kk : z_W Y pc' ls (z_l x :: st) h k n) : z_W Y pc ls st h k n := by
  refine z_liftL hY (fun p l e R s m args below meth c H locs cells slots Q lsA hx hb hA kk => ?_) kk
  have h1 := lv_at hA q hl
  rcases dd with ⟨j, d1, d2, rfl⟩ | ⟨d1, rfl⟩
  · exact lv_lload_n hx hb d1 d2 h1 (kk lsA hA)
  · exact lv_lload hx hb d1 h1 (kk lsA hA)
theorem z_istore {i : Nat} {x : Int} (hY : z_ok Y d M) (dd : z_sd M pc i pc') (hl : (i, z_i x) :: ls.filter (fun q => !(q.1 == i) && !(q.1 + 1 == i && q.2.category == 2)) = ls') (kk : z_W Y pc' ls' st h k n) : z_W Y pc ls (z_i x :: st) h k n := by
  refine z_liftL hY (fun p l e R s m args below meth c H locs cells slots Q lsA hx hb hA kk => ?_) kk
  rcases dd with ⟨⟨j, d1, d2, rfl⟩ | ⟨d1, rfl⟩, d3⟩
  · exact lv_istore_n hx hb d1 d2 hA d3 hl kk
  · exact lv_istore hx hb d1 hA d3 hl kk
theorem z_astore {i x : Nat} (hY : z_ok Y d M) (dd : z_asd M pc i pc') (hl : (i, Value.ref x) :: ls.filter (fun q => !(q.1 == i) && !(q.1 + 1 == i && q.2.category == 2)) = ls') (kk : z_W Y pc' ls' st h k n) : z_W Y pc ls (.ref x :: st) h k n := by
  refine z_liftL hY (fun p l e R s m args below meth c H locs cells slots Q lsA hx hb hA kk => ?_) kk
  rcases dd with ⟨⟨j, d1, d2, rfl⟩ | ⟨d1, rfl⟩, d3⟩
  · exact lv_astore_n hx hb d1 d2 hA d3 hl kk
  · exact lv_astore hx hb d1 hA d3 hl kk
theorem z_lstore {i : Nat} {x : Int} (hY : z_ok Y d M) (dd : z_lsd M pc i pc') (hl : (i, z_l x) :: ls.filter (fun q => !(q.1 == i) && (!(q.1 == i + 1) && !(q.1 + 1 == i && q.2.category == 2))) = ls') (kk : z_W Y pc' ls' st h k n) : z_W Y pc ls (z_l x :: st) h k n := by
  refine z_liftL hY (fun p l e R s m args below meth c H locs cells slots Q lsA hx hb hA kk => ?_) kk
  rcases dd with ⟨⟨j, d1, d2, rfl⟩ | ⟨d1, rfl⟩, d3⟩
  · exact lv_lstore_n hx hb d1 d2 hA d3 hl kk
  · exact lv_lstore hx hb d1 hA d3 hl kk
theorem z_iinc {i : Nat} {x v : Int} (hY : z_ok Y d M) (dd : z_at M pc (.iinc i v) 3 pc' ∧ i < M.2.2.1) (q : Nat) (hq : ls[q]? = some (i, z_i x)) (hl : (i, z_i (x + v)) :: ls.filter (fun q => !(q.1 == i) && !(q.1 + 1 == i && q.2.category == 2)) = ls') (kk : z_W Y pc' ls' st h k n) : z_W Y pc ls st h k n := by
  refine z_liftL hY (fun p l e R s m args below meth c H locs cells slots Q lsA hx hb hA kk => ?_) kk
  obtain ⟨⟨d1, rfl⟩, d3⟩ := dd
  exact lv_iinc hx hb d1 hA hq (Int32.ofInt_add x v).symm d3 hl kk
/-- an int constant, however it is written -/
def z_co (M : z_M) (pc : Nat) (v : Int) (pc' : Nat) : Prop := (decode M.2.1 pc = .ok (.iconst v, 1) ∧ pc + 1 = pc') ∨ (∃ u : Int, decode M.2.1 pc = .ok (.bipush u, 2) ∧ (Int8.ofInt u).toInt32 = Int32.ofInt v ∧ pc + 2 = pc') ∨ (∃ u : Int, decode M.2.1 pc = .ok (.sipush u, 3) ∧ (Int16.ofInt u).toInt32 = Int32.ofInt v ∧ pc + 3 = pc') ∨ (∃ ix : Nat, decode M.2.1 pc = .ok (.ldc ix, 2) ∧ pc + 2 = pc' ∧ Cond.constant M.1.cls ix (Int32.ofInt v) ∈ lw_tbl)
theorem z_const {v : Int} (hY : z_ok Y d M) (dd : z_co M pc v pc') (kk : z_W Y pc' ls (z_i v :: st) h k n) : z_W Y pc ls st h k n := by
  obtain ⟨G, ⟨p, e, R, s, m, args, below, meth, c⟩, nL, mc, ms, φ, ψ⟩ := Y
  obtain ⟨hG, hx, hb, -, -, hown, -, -, hW, -⟩ := hY
  intro H locs lsA hR hL hl
  have kk := kk H locs lsA hR hL hl
  rcases dd with ⟨d1, rfl⟩ | ⟨u, d1, d2, rfl⟩ | ⟨u, d1, d2, rfl⟩ | ⟨ix, d1, rfl, d3⟩
  · exact lv_iconst hx hb d1 rfl kk
  · exact lv_bipush hx hb d1 d2 kk
  · exact lv_sipush hx hb d1 d2 kk
  · exact lv_ldc hx hb hown (z_wd hG hW d3 rfl) d1 kk
/-- a long constant -/
theorem z_ldc2 {ix : Nat} {v : Int} (hY : z_ok Y d M) (dd : z_at M pc (.ldc2_w ix) 3 pc' ∧ Cond.constantLong M.1.cls ix (Int64.ofInt v) ∈ lw_tbl) (kk : z_W Y pc' ls (z_l v :: st) h k n) : z_W Y pc ls st h k n := by
  obtain ⟨G, ⟨p, e, R, s, m, args, below, meth, c⟩, nL, mc, ms, φ, ψ⟩ := Y
  obtain ⟨hG, hx, hb, -, -, hown, -, -, hW, -⟩ := hY
  intro H locs lsA hR hL hl
  obtain ⟨⟨d1, rfl⟩, d3⟩ := dd
  exact lv_ldc2 hx hb hown (z_wd hG hW d3 rfl) d1 (kk H locs lsA hR hL hl)
-- arithmetic
theorem z_iadd {a b : Int} (hY : z_ok Y d M) (dd : z_at M pc .iadd 1 pc') (kk : z_W Y pc' ls (z_i (a + b) :: st) h k n) : z_W Y pc ls (z_i b :: z_i a :: st) h k n := by
  refine z_lift hY (fun p l e R s m args below meth c H locs cells slots Q lsA hx hb kk => ?_) kk
  obtain ⟨d1, rfl⟩ := dd
  rw [z_i, Int32.ofInt_add] at kk
  exact lv_iadd hx hb d1 kk
theorem z_isub {a b : Int} (hY : z_ok Y d M) (dd : z_at M pc .isub 1 pc') (kk : z_W Y pc' ls (z_i (a - b) :: st) h k n) : z_W Y pc ls (z_i b :: z_i a :: st) h k n := by
  refine z_lift hY (fun p l e R s m args below meth c H locs cells slots Q lsA hx hb kk => ?_) kk
  obtain ⟨d1, rfl⟩ := dd
  rw [z_i, Int32.ofInt_sub] at kk
  exact lv_isub hx hb d1 kk
theorem z_imul {a b : Int} (hY : z_ok Y d M) (dd : z_at M pc .imul 1 pc') (kk : z_W Y pc' ls (z_i (a * b) :: st) h k n) : z_W Y pc ls (z_i b :: z_i a :: st) h k n := by
  refine z_lift hY (fun p l e R s m args below meth c H locs cells slots Q lsA hx hb kk => ?_) kk
  obtain ⟨d1, rfl⟩ := dd
  rw [z_i, Int32.ofInt_mul] at kk
  exact lv_imul hx hb d1 kk
theorem z_dvd {a b : Int} (hr : -2147483648 ≤ a ∧ a ≤ 2147483647 ∧ 0 < b ∧ b ≤ 2147483647) : Int32.ofInt (a.tdiv b) = Int32.ofInt a / Int32.ofInt b := by
  have e1 : Int32.minValue.toInt = -2147483648 := by decide
  have e2 : Int32.maxValue.toInt = 2147483647 := by decide
  exact Int32.ofInt_tdiv (by omega) (by omega) (by omega) (by omega)
theorem z_idiv {a b : Int} (hY : z_ok Y d M) (dd : z_at M pc .idiv 1 pc') (hr : 0 ≤ a ∧ a ≤ 2147483647 ∧ 0 < b ∧ b ≤ 2147483647) (kk : z_W Y pc' ls (z_i (a / b) :: st) h k n) : z_W Y pc ls (z_i b :: z_i a :: st) h k n := by
  refine z_lift hY (fun p l e R s m args below meth c H locs cells slots Q lsA hx hb kk => ?_) kk
  obtain ⟨d1, rfl⟩ := dd
  have e : a / b = a.tdiv b := (Int.tdiv_eq_ediv_of_nonneg hr.1).symm
  rw [z_i, e, z_dvd (by omega)] at kk
  refine lv_idiv hx hb d1 (fun hz => ?_) kk
  rw [z_0, z_eq (by omega)] at hz
  omega
theorem z_irem {a b : Int} (hY : z_ok Y d M) (dd : z_at M pc .irem 1 pc') (hr : 0 ≤ a ∧ a ≤ 2147483647 ∧ 0 < b ∧ b ≤ 2147483647) (kk : z_W Y pc' ls (z_i (a % b) :: st) h k n) : z_W Y pc ls (z_i b :: z_i a :: st) h k n := by
  refine z_lift hY (fun p l e R s m args below meth c H locs cells slots Q lsA hx hb kk => ?_) kk
  obtain ⟨d1, rfl⟩ := dd
  have e : a % b = a - a.tdiv b * b := by
    rw [Int.tdiv_eq_ediv_of_nonneg hr.1, Int.emod_def, Int.mul_comm]
  rw [z_i, e, Int32.ofInt_sub, Int32.ofInt_mul, z_dvd (by omega)] at kk
  refine lv_irem hx hb d1 (fun hz => ?_) kk
  rw [z_0, z_eq (by omega)] at hz
  omega
theorem z_i2l {a : Int} (hY : z_ok Y d M) (dd : z_at M pc .i2l 1 pc') (hr : -2147483648 ≤ a ∧ a ≤ 2147483647) (kk : z_W Y pc' ls (z_l a :: st) h k n) : z_W Y pc ls (z_i a :: st) h k n := by
  refine z_lift hY (fun p l e R s m args below meth c H locs cells slots Q lsA hx hb kk => ?_) kk
  obtain ⟨d1, rfl⟩ := dd
  refine lv_i2l hx hb d1 ?_ kk
  have e1 : Int32.minValue.toInt = -2147483648 := by decide
  have e2 : Int32.maxValue.toInt = 2147483647 := by decide
  exact Int32.toInt64_ofInt (by omega) (by omega)
theorem z_l2i {a : Int} (hY : z_ok Y d M) (dd : z_at M pc .l2i 1 pc') (hr : -2147483648 ≤ a ∧ a ≤ 2147483647) (kk : z_W Y pc' ls (z_i a :: st) h k n) : z_W Y pc ls (z_l a :: st) h k n := by
  refine z_lift hY (fun p l e R s m args below meth c H locs cells slots Q lsA hx hb kk => ?_) kk
  obtain ⟨d1, rfl⟩ := dd
  refine lv_l2i hx hb d1 ?_ kk
  rw [← Int32.toInt_inj, Int64.toInt_toInt32, z_toInt hr, Int64.toInt_ofInt_of_le (by omega) (by omega)]
  exact Int.bmod_eq_of_le (by omega) (by omega)
theorem z_ladd {a b : Int} (hY : z_ok Y d M) (dd : z_at M pc .ladd 1 pc') (kk : z_W Y pc' ls (z_l (a + b) :: st) h k n) : z_W Y pc ls (z_l b :: z_l a :: st) h k n := by
  refine z_lift hY (fun p l e R s m args below meth c H locs cells slots Q lsA hx hb kk => ?_) kk
  obtain ⟨d1, rfl⟩ := dd
  rw [z_l, Int64.ofInt_add] at kk
  exact lv_ladd hx hb d1 kk
-- the stack
theorem z_dup {v : Value} (hY : z_ok Y d M) (dd : z_at M pc .dup 1 pc') (hv : v.category = 1) (kk : z_W Y pc' ls (v :: v :: st) h k n) : z_W Y pc ls (v :: st) h k n := by
  refine z_lift hY (fun p l e R s m args below meth c H locs cells slots Q lsA hx hb kk => ?_) kk
  obtain ⟨d1, rfl⟩ := dd
  exact lv_dup hx hb d1 hv kk
theorem z_pop {v : Value} (hY : z_ok Y d M) (dd : z_at M pc .pop 1 pc') (hv : v.category = 1) (kk : z_W Y pc' ls st h k n) : z_W Y pc ls (v :: st) h k n := by
  refine z_lift hY (fun p l e R s m args below meth c H locs cells slots Q lsA hx hb kk => ?_) kk
  obtain ⟨d1, rfl⟩ := dd
  exact lv_pop hx hb d1 hv kk
theorem z_dup_x1 {v w : Value} (hY : z_ok Y d M) (dd : z_at M pc .dup_x1 1 pc') (hv : v.category = 1) (hw : w.category = 1) (kk : z_W Y pc' ls (v :: w :: v :: st) h k n) : z_W Y pc ls (v :: w :: st) h k n := by
  refine z_lift hY (fun p l e R s m args below meth c H locs cells slots Q lsA hx hb kk => ?_) kk
  obtain ⟨d1, rfl⟩ := dd
  exact lv_dup_x1 hx hb d1 hv hw kk
theorem z_dup2 {v w : Value} (hY : z_ok Y d M) (dd : z_at M pc .dup2 1 pc') (hv : v.category = 1) (hw : w.category = 1) (kk : z_W Y pc' ls (v :: w :: v :: w :: st) h k n) : z_W Y pc ls (v :: w :: st) h k n := by
  refine z_lift hY (fun p l e R s m args below meth c H locs cells slots Q lsA hx hb kk => ?_) kk
  obtain ⟨d1, rfl⟩ := dd
  exact lv_dup2_11 hx hb d1 hv hw kk
-- branches
theorem z_goto {off : Int} {tgt : Nat} (hY : z_ok Y d M) (dd : z_br M pc (.goto off) off pc' tgt) (kk : z_W Y tgt ls st h k n) : z_W Y pc ls st h k n :=
  z_lift hY (fun p l e R s m args below meth c H locs cells slots Q lsA hx hb kk => lv_goto hx hb dd.1 dd.2.2 kk) kk
theorem z_lift2 {tgt : Nat} {A B : Prop} (hY : z_ok Y d M) (f : ∀ (p : Program) (l : Launch) (e : Env) (R : Room) (s : State) (m : MethodId) (args : Array Value) (below : List Frame) (meth : Method) (c : Code) (H : Heap) (locs : List Loc) (cells slots : Nat) (Q : State → Prop) (lsA : Array Slot), p.tables.exec = Jvm.exec → c.code = M.2.1 → (A → W p l e R s m args below meth c H locs cells slots Q (F0 m tgt lsA st')) → (B → W p l e R s m args below meth c H locs cells slots Q (F0 m pc' lsA st')) → W p l e R s m args below meth c H locs cells slots Q (F0 m pc lsA st)) (kt : A → z_W Y tgt ls st' h k n) (kf : B → z_W Y pc' ls st' h k n) : z_W Y pc ls st h k n := by
  obtain ⟨G, ⟨p, e, R, s, m, args, below, meth, c⟩, nL, mc, ms, φ, ψ⟩ := Y
  obtain ⟨hG, hx, hb, -⟩ := hY
  intro H locs lsA hR hL hl
  exact f _ _ _ _ _ _ _ _ _ _ _ _ _ _ _ _ hx hb (fun a => kt a H locs lsA hR hL hl) (fun b => kf b H locs lsA hR hL hl)
theorem z_iflt {a off : Int} {tgt : Nat} (hY : z_ok Y d M) (dd : z_br M pc (.ifCond .lt off) off pc' tgt) (hr : -2147483648 ≤ a ∧ a ≤ 2147483647) (kt : a < 0 → z_W Y tgt ls st h k n) (kf : 0 ≤ a → z_W Y pc' ls st h k n) : z_W Y pc ls (z_i a :: st) h k n := by
  refine z_lift2 hY (fun p l e R s m args below meth c H locs cells slots Q lsA hx hb kt kf => ?_) kt kf
  obtain ⟨d1, rfl, d2⟩ := dd
  exact lv_if_lt hx hb d1 d2 (fun c => kt (by rw [z_0, z_lt (by omega)] at c; exact c)) (fun c => kf (by rw [z_0, z_lt (by omega)] at c; omega))
theorem z_ifge {a off : Int} {tgt : Nat} (hY : z_ok Y d M) (dd : z_br M pc (.ifCond .ge off) off pc' tgt) (hr : -2147483648 ≤ a ∧ a ≤ 2147483647) (kt : 0 ≤ a → z_W Y tgt ls st h k n) (kf : a < 0 → z_W Y pc' ls st h k n) : z_W Y pc ls (z_i a :: st) h k n := by
  refine z_lift2 hY (fun p l e R s m args below meth c H locs cells slots Q lsA hx hb kt kf => ?_) kt kf
  obtain ⟨d1, rfl, d2⟩ := dd
  exact lv_if_ge hx hb d1 d2 (fun c => kt (by rw [z_0, z_le (by omega)] at c; exact c)) (fun c => kf (by rw [z_0, z_le (by omega)] at c; omega))
theorem z_ifgt {a off : Int} {tgt : Nat} (hY : z_ok Y d M) (dd : z_br M pc (.ifCond .gt off) off pc' tgt) (hr : -2147483648 ≤ a ∧ a ≤ 2147483647) (kt : 0 < a → z_W Y tgt ls st h k n) (kf : a ≤ 0 → z_W Y pc' ls st h k n) : z_W Y pc ls (z_i a :: st) h k n := by
  refine z_lift2 hY (fun p l e R s m args below meth c H locs cells slots Q lsA hx hb kt kf => ?_) kt kf
  obtain ⟨d1, rfl, d2⟩ := dd
  exact lv_if_gt hx hb d1 d2 (fun c => kt (by rw [z_0, z_lt (by omega)] at c; exact c)) (fun c => kf (by rw [z_0, z_lt (by omega)] at c; omega))
theorem z_ifle {a off : Int} {tgt : Nat} (hY : z_ok Y d M) (dd : z_br M pc (.ifCond .le off) off pc' tgt) (hr : -2147483648 ≤ a ∧ a ≤ 2147483647) (kt : a ≤ 0 → z_W Y tgt ls st h k n) (kf : 0 < a → z_W Y pc' ls st h k n) : z_W Y pc ls (z_i a :: st) h k n := by
  refine z_lift2 hY (fun p l e R s m args below meth c H locs cells slots Q lsA hx hb kt kf => ?_) kt kf
  obtain ⟨d1, rfl, d2⟩ := dd
  exact lv_if_le hx hb d1 d2 (fun c => kt (by rw [z_0, z_le (by omega)] at c; exact c)) (fun c => kf (by rw [z_0, z_le (by omega)] at c; omega))
theorem z_ifeq {a off : Int} {tgt : Nat} (hY : z_ok Y d M) (dd : z_br M pc (.ifCond .eq off) off pc' tgt) (hr : -2147483648 ≤ a ∧ a ≤ 2147483647) (kt : a = 0 → z_W Y tgt ls st h k n) (kf : a ≠ 0 → z_W Y pc' ls st h k n) : z_W Y pc ls (z_i a :: st) h k n := by
  refine z_lift2 hY (fun p l e R s m args below meth c H locs cells slots Q lsA hx hb kt kf => ?_) kt kf
  obtain ⟨d1, rfl, d2⟩ := dd
  exact lv_if_eq hx hb d1 d2 (fun c => kt (by rw [z_0, z_eq (by omega)] at c; exact c)) (fun c => kf (by rw [z_0, z_eq (by omega)] at c; exact c))
theorem z_ifne {a off : Int} {tgt : Nat} (hY : z_ok Y d M) (dd : z_br M pc (.ifCond .ne off) off pc' tgt) (hr : -2147483648 ≤ a ∧ a ≤ 2147483647) (kt : a ≠ 0 → z_W Y tgt ls st h k n) (kf : a = 0 → z_W Y pc' ls st h k n) : z_W Y pc ls (z_i a :: st) h k n := by
  refine z_lift2 hY (fun p l e R s m args below meth c H locs cells slots Q lsA hx hb kt kf => ?_) kt kf
  obtain ⟨d1, rfl, d2⟩ := dd
  exact lv_if_ne hx hb d1 d2 (fun c => kt (by rw [z_0, z_eq (by omega)] at c; exact c)) (fun c => kf (by first | (rw [z_0, z_eq (by omega)] at c; exact c) | (rw [z_0, z_eq (by omega)] at c; omega)))
theorem z_icmplt {a b off : Int} {tgt : Nat} (hY : z_ok Y d M) (dd : z_br M pc (.if_icmp .lt off) off pc' tgt) (hr : -2147483648 ≤ a ∧ a ≤ 2147483647 ∧ -2147483648 ≤ b ∧ b ≤ 2147483647) (kt : a < b → z_W Y tgt ls st h k n) (kf : b ≤ a → z_W Y pc' ls st h k n) : z_W Y pc ls (z_i b :: z_i a :: st) h k n := by
  refine z_lift2 hY (fun p l e R s m args below meth c H locs cells slots Q lsA hx hb kt kf => ?_) kt kf
  obtain ⟨d1, rfl, d2⟩ := dd
  exact lv_icmp_lt hx hb d1 d2 (fun c => kt (by rw [z_lt hr] at c; exact c)) (fun c => kf (by rw [z_lt hr] at c; omega))
theorem z_icmpge {a b off : Int} {tgt : Nat} (hY : z_ok Y d M) (dd : z_br M pc (.if_icmp .ge off) off pc' tgt) (hr : -2147483648 ≤ a ∧ a ≤ 2147483647 ∧ -2147483648 ≤ b ∧ b ≤ 2147483647) (kt : b ≤ a → z_W Y tgt ls st h k n) (kf : a < b → z_W Y pc' ls st h k n) : z_W Y pc ls (z_i b :: z_i a :: st) h k n := by
  refine z_lift2 hY (fun p l e R s m args below meth c H locs cells slots Q lsA hx hb kt kf => ?_) kt kf
  obtain ⟨d1, rfl, d2⟩ := dd
  have hr2 : -2147483648 ≤ b ∧ b ≤ 2147483647 ∧ -2147483648 ≤ a ∧ a ≤ 2147483647 := ⟨hr.2.2.1, hr.2.2.2, hr.1, hr.2.1⟩
  exact lv_icmp_ge hx hb d1 d2 (fun c => kt (by rw [z_le hr2] at c; exact c)) (fun c => kf (by rw [z_le hr2] at c; omega))
theorem z_icmpgt {a b off : Int} {tgt : Nat} (hY : z_ok Y d M) (dd : z_br M pc (.if_icmp .gt off) off pc' tgt) (hr : -2147483648 ≤ a ∧ a ≤ 2147483647 ∧ -2147483648 ≤ b ∧ b ≤ 2147483647) (kt : b < a → z_W Y tgt ls st h k n) (kf : a ≤ b → z_W Y pc' ls st h k n) : z_W Y pc ls (z_i b :: z_i a :: st) h k n := by
  refine z_lift2 hY (fun p l e R s m args below meth c H locs cells slots Q lsA hx hb kt kf => ?_) kt kf
  obtain ⟨d1, rfl, d2⟩ := dd
  have hr2 : -2147483648 ≤ b ∧ b ≤ 2147483647 ∧ -2147483648 ≤ a ∧ a ≤ 2147483647 := ⟨hr.2.2.1, hr.2.2.2, hr.1, hr.2.1⟩
  exact lv_icmp_gt hx hb d1 d2 (fun c => kt (by rw [z_lt hr2] at c; exact c)) (fun c => kf (by rw [z_lt hr2] at c; omega))
theorem z_icmple {a b off : Int} {tgt : Nat} (hY : z_ok Y d M) (dd : z_br M pc (.if_icmp .le off) off pc' tgt) (hr : -2147483648 ≤ a ∧ a ≤ 2147483647 ∧ -2147483648 ≤ b ∧ b ≤ 2147483647) (kt : a ≤ b → z_W Y tgt ls st h k n) (kf : b < a → z_W Y pc' ls st h k n) : z_W Y pc ls (z_i b :: z_i a :: st) h k n := by
  refine z_lift2 hY (fun p l e R s m args below meth c H locs cells slots Q lsA hx hb kt kf => ?_) kt kf
  obtain ⟨d1, rfl, d2⟩ := dd
  exact lv_icmp_le hx hb d1 d2 (fun c => kt (by rw [z_le hr] at c; exact c)) (fun c => kf (by rw [z_le hr] at c; omega))
theorem z_icmpeq {a b off : Int} {tgt : Nat} (hY : z_ok Y d M) (dd : z_br M pc (.if_icmp .eq off) off pc' tgt) (hr : -2147483648 ≤ a ∧ a ≤ 2147483647 ∧ -2147483648 ≤ b ∧ b ≤ 2147483647) (kt : a = b → z_W Y tgt ls st h k n) (kf : a ≠ b → z_W Y pc' ls st h k n) : z_W Y pc ls (z_i b :: z_i a :: st) h k n := by
  refine z_lift2 hY (fun p l e R s m args below meth c H locs cells slots Q lsA hx hb kt kf => ?_) kt kf
  obtain ⟨d1, rfl, d2⟩ := dd
  exact lv_icmp_eq hx hb d1 d2 (fun c => kt (by rw [z_eq hr] at c; exact c)) (fun c => kf (by rw [z_eq hr] at c; exact c))
theorem z_icmpne {a b off : Int} {tgt : Nat} (hY : z_ok Y d M) (dd : z_br M pc (.if_icmp .ne off) off pc' tgt) (hr : -2147483648 ≤ a ∧ a ≤ 2147483647 ∧ -2147483648 ≤ b ∧ b ≤ 2147483647) (kt : a ≠ b → z_W Y tgt ls st h k n) (kf : a = b → z_W Y pc' ls st h k n) : z_W Y pc ls (z_i b :: z_i a :: st) h k n := by
  refine z_lift2 hY (fun p l e R s m args below meth c H locs cells slots Q lsA hx hb kt kf => ?_) kt kf
  obtain ⟨d1, rfl, d2⟩ := dd
  exact lv_icmp_ne hx hb d1 d2 (fun c => kt (by rw [z_eq hr] at c; exact c)) (fun c => kf (by first | (rw [z_eq hr] at c; exact c) | (rw [z_eq hr] at c; omega)))
/-- a truth value: a branch on it is a branch on what it says -/
def z_bl (p : Prop) [Decidable p] : Int := if p then 1 else 0
theorem z_ifeqb {p : Prop} [Decidable p] {off : Int} {tgt : Nat} (hY : z_ok Y d M) (dd : z_br M pc (.ifCond .eq off) off pc' tgt) (kt : ¬ p → z_W Y tgt ls st h k n) (kf : p → z_W Y pc' ls st h k n) : z_W Y pc ls (z_i (z_bl p) :: st) h k n := by
  by_cases hp : p
  · rw [show z_bl p = 1 from if_pos hp]
    exact z_ifeq hY dd (by omega) (fun c => absurd c (by decide)) (fun _ => kf hp)
  · rw [show z_bl p = 0 from if_neg hp]
    exact z_ifeq hY dd (by omega) (fun _ => kt hp) (fun c => absurd rfl c)
theorem z_ifneb {p : Prop} [Decidable p] {off : Int} {tgt : Nat} (hY : z_ok Y d M) (dd : z_br M pc (.ifCond .ne off) off pc' tgt) (kt : p → z_W Y tgt ls st h k n) (kf : ¬ p → z_W Y pc' ls st h k n) : z_W Y pc ls (z_i (z_bl p) :: st) h k n := by
  by_cases hp : p
  · rw [show z_bl p = 1 from if_pos hp]
    exact z_ifne hY dd (by omega) (fun _ => kt hp) (fun c => absurd c (by decide))
  · rw [show z_bl p = 0 from if_neg hp]
    exact z_ifne hY dd (by omega) (fun c => absurd rfl c) (fun _ => kf hp)
end ZL
