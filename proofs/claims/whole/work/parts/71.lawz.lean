/-! ROWS of methods with a table of handlers, of longs and doubles in rows, of the law's script (laid by wip/whole/gen/gen71.py). -/
section LZ
/-- an exception that is none of another class: of these four, no two -/
def z_EX : List String := ["java/lang/IllegalArgumentException", "java/lang/IllegalStateException", "java/lang/IndexOutOfBoundsException", "java/util/NoSuchElementException"]
def z_NC (G : z_G) : Prop := ∀ a ∈ z_EX, ∀ b ∈ z_EX, a ≠ b → va_Nc a b G.2.1
def z_okT (Y : z_Y) (d : Nat) (M : z_M) (hh : List (Nat × Nat × Nat × Nat)) : Prop := match Y with
  | (G, (p, _, R, s, m, _, _, meth, c), nL, mc, ms, _, _) => z_OK G ∧ p.tables.exec = Jvm.exec ∧ c.code = M.2.1 ∧ c.maxLocals = nL ∧ nL = M.2.2.1 ∧ s.vm.findClass M.1.cls = some m.cls ∧ meth.sig.returnType = M.2.2.2 ∧ meth.locks = false ∧ G.2.1.WarmedH s.vm ∧ c.exceptionTable.toList = tableOf hh ∧ R = z_rm d mc ms ∧ z_lo G s
variable {Y : z_Y} {d : Nat} {M M' : z_M} {hh : List (Nat × Nat × Nat × Nat)} {pc pc' : Nat} {ls ls' : List (Nat × Value)} {st st' rest : List Value} {h : z_H} {k n : Nat}
theorem zt_lift (hY : z_okT Y d M hh) (f : ∀ (p : Program) (l : Launch) (e : Env) (R : Room) (s : State) (m : MethodId) (args : Array Value) (below : List Frame) (meth : Method) (c : Code) (H : Heap) (locs : List Loc) (cells slots : Nat) (Q : State → Prop) (lsA : Array Slot), p.tables.exec = Jvm.exec → c.code = M.2.1 → W p l e R s m args below meth c H locs cells slots Q (F0 m pc' lsA st') → W p l e R s m args below meth c H locs cells slots Q (F0 m pc lsA st)) (kk : z_W Y pc' ls st' h k n) : z_W Y pc ls st h k n := by
  obtain ⟨G, ⟨p, e, R, s, m, args, below, meth, c⟩, nL, mc, ms, φ, ψ⟩ := Y
  obtain ⟨hG, hx, hb, -⟩ := hY
  intro H locs lsA hR hL hl
  exact f _ _ _ _ _ _ _ _ _ _ _ _ _ _ _ _ hx hb (kk H locs lsA hR hL hl)
theorem zt_liftL (hY : z_okT Y d M hh) (f : ∀ (p : Program) (l : Launch) (e : Env) (R : Room) (s : State) (m : MethodId) (args : Array Value) (below : List Frame) (meth : Method) (c : Code) (H : Heap) (locs : List Loc) (cells slots : Nat) (Q : State → Prop) (lsA : Array Slot), p.tables.exec = Jvm.exec → c.code = M.2.1 → lv_has lsA M.2.2.1 ls → (∀ lsB : Array Slot, lv_has lsB M.2.2.1 ls' → W p l e R s m args below meth c H locs cells slots Q (F0 m pc' lsB st')) → W p l e R s m args below meth c H locs cells slots Q (F0 m pc lsA st)) (kk : z_W Y pc' ls' st' h k n) : z_W Y pc ls st h k n := by
  obtain ⟨G, ⟨p, e, R, s, m, args, below, meth, c⟩, nL, mc, ms, φ, ψ⟩ := Y
  obtain ⟨hG, hx, hb, hml, hnl, -⟩ := hY
  intro H locs lsA hR hL hl
  rw [hnl] at hl
  exact f _ _ _ _ _ _ _ _ _ _ _ _ _ _ _ _ hx hb hl (fun lsB hB => kk H locs lsB hR hL (by rw [hnl]; exact hB))
theorem zt_iload {i : Nat} {x : Int} (hY : z_okT Y d M hh) (dd : z_ld M pc i pc') (q : Nat) (hl : ls[q]? = some (i, z_i x)) (kk : z_W Y pc' ls (z_i x :: st) h k n) : z_W Y pc ls st h k n := by
  refine zt_liftL hY (fun p l e R s m args below meth c H locs cells slots Q lsA hx hb hA kk => ?_) kk
  have h1 := lv_at hA q hl
  rcases dd with ⟨j, d1, d2, rfl⟩ | ⟨d1, rfl⟩
  · exact lv_iload_n hx hb d1 d2 h1 (kk lsA hA)
  · exact lv_iload hx hb d1 h1 (kk lsA hA)
theorem zt_aload {i x : Nat} (hY : z_okT Y d M hh) (dd : z_ad M pc i pc') (q : Nat) (hl : ls[q]? = some (i, .ref x)) (kk : z_W Y pc' ls (.ref x :: st) h k n) : z_W Y pc ls st h k n := by
  refine zt_liftL hY (fun p l e R s m args below meth c H locs cells slots Q lsA hx hb hA kk => ?_) kk
  have h1 := lv_at hA q hl
  rcases dd with ⟨j, d1, d2, rfl⟩ | ⟨d1, rfl⟩
  · exact lv_aload_n hx hb d1 d2 h1 (kk lsA hA)
  · exact lv_aload hx hb d1 h1 (kk lsA hA)
theorem zt_const {v : Int} (hY : z_okT Y d M hh) (dd : z_co M pc v pc') (kk : z_W Y pc' ls (z_i v :: st) h k n) : z_W Y pc ls st h k n := by
  obtain ⟨G, ⟨p, e, R, s, m, args, below, meth, c⟩, nL, mc, ms, φ, ψ⟩ := Y
  obtain ⟨hG, hx, hb, -, -, hown, -, -, hW, -⟩ := hY
  intro H locs lsA hR hL hl
  have kk := kk H locs lsA hR hL hl
  rcases dd with ⟨d1, rfl⟩ | ⟨u, d1, d2, rfl⟩ | ⟨u, d1, d2, rfl⟩ | ⟨ix, d1, rfl, d3⟩
  · exact lv_iconst hx hb d1 rfl kk
  · exact lv_bipush hx hb d1 d2 kk
  · exact lv_sipush hx hb d1 d2 kk
  · exact lv_ldc hx hb hown (z_wd hG hW d3 rfl) d1 kk
theorem zt_astore {i x : Nat} (hY : z_okT Y d M hh) (dd : z_asd M pc i pc') (hl : (i, Value.ref x) :: ls.filter (fun q => !(q.1 == i) && !(q.1 + 1 == i && q.2.category == 2)) = ls') (kk : z_W Y pc' ls' st h k n) : z_W Y pc ls (.ref x :: st) h k n := by
  refine zt_liftL hY (fun p l e R s m args below meth c H locs cells slots Q lsA hx hb hA kk => ?_) kk
  rcases dd with ⟨⟨j, d1, d2, rfl⟩ | ⟨d1, rfl⟩, d3⟩
  · exact lv_astore_n hx hb d1 d2 hA d3 hl kk
  · exact lv_astore hx hb d1 hA d3 hl kk
theorem zt_i2l {a : Int} (hY : z_okT Y d M hh) (dd : z_at M pc .i2l 1 pc') (hr : -2147483648 ≤ a ∧ a ≤ 2147483647) (kk : z_W Y pc' ls (z_l a :: st) h k n) : z_W Y pc ls (z_i a :: st) h k n := by
  refine zt_lift hY (fun p l e R s m args below meth c H locs cells slots Q lsA hx hb kk => ?_) kk
  obtain ⟨d1, rfl⟩ := dd
  refine lv_i2l hx hb d1 ?_ kk
  have e1 : Int32.minValue.toInt = -2147483648 := by decide
  have e2 : Int32.maxValue.toInt = 2147483647 := by decide
  exact Int32.toInt64_ofInt (by omega) (by omega)
theorem zt_goto {off : Int} {tgt : Nat} (hY : z_okT Y d M hh) (dd : z_br M pc (.goto off) off pc' tgt) (kk : z_W Y tgt ls st h k n) : z_W Y pc ls st h k n :=
  zt_lift hY (fun p l e R s m args below meth c H locs cells slots Q lsA hx hb kk => lv_goto hx hb dd.1 dd.2.2 kk) kk
theorem zt_lastore {a N : Nat} {i x : Int} {f : Int → Int} (hY : z_okT Y d M hh) (dd : z_at M pc .lastore 1 pc') (ha : h a = some (z_la N f)) (hi : 0 ≤ i ∧ i < N ∧ N ≤ 2147483647) (kk : z_W Y pc' ls st (z_set h a (z_la N (z_up f i x))) k n) : z_W Y pc ls (z_l x :: z_i i :: .ref a :: st) h k n := by
  obtain ⟨G, ⟨p, e, R, s, m, args, below, meth, c⟩, nL, mc, ms, φ, ψ⟩ := Y
  obtain ⟨hG, hx, hb, -, -, hown, -, -, hW, -⟩ := hY
  obtain ⟨d1, rfl⟩ := dd
  intro H locs lsA hR hL hlv
  have hA := (hR.1 a _ ha).2
  obtain ⟨v1, v2⟩ := z_nat (i := i) (N := N) (by omega) (by omega)
  refine W.last hx hb (hR.at ha 0 _ rfl) (((z_K hG hW).2 3 _ rfl).1 N (fun j => .long (Int64.ofInt (f j)))) (fun q => by cases q) (by show ¬ (_ ∨ (arrV _ _ _).slots.size ≤ _); rw [arrV_size]; exact v1) rfl rfl d1 fun H1 e1 e2 e3 => ?_
  refine kk H1 _ lsA (hR.put ha ?_ e2 e3) (fun q hq => ?_) hlv
  · show H1[a]? = some (vp_cell _ _)
    rw [e1, v2]
    show some ((arrV _ _ _).setSlot _ _) = some (arrV _ _ (fun j => .long (Int64.ofInt (z_up f i x j))))
    rw [arrV_store]
    congr 2
    funext q
    unfold z_up
    by_cases hq : q = i.toNat
    · simp only [updV, hq, if_true]
      rw [if_pos (by omega)]
    · simp only [updV, hq, if_false]
      rw [if_neg (by omega)]
  · rcases List.mem_append.mp hq with g | g
    · exact hL q g
    · rw [List.mem_singleton.mp g]; exact hA
theorem zt_ireturn {r : Int} (hY : z_okT Y d M hh) (dd : z_at M pc .ireturn 1 pc') (hret : M.2.2.2 = some .int) (hφ : z_φ Y (some (z_i r)) h) (hk : k ≤ z_mc Y ∧ n ≤ z_ms Y) : z_W Y pc ls [z_i r] h k n := by
  obtain ⟨G, ⟨p, e, R, s, m, args, below, meth, c⟩, nL, mc, ms, φ, ψ⟩ := Y
  obtain ⟨hG, hx, hb, -, -, -, hr, hlocks, -⟩ := hY
  obtain ⟨d1, rfl⟩ := dd
  intro H locs lsA hR hL hlv
  refine W.widen hk.1 hk.2 (vx_ret ?_)
  exact W.iret hx hb (by rw [hr, hret]) (fun t ht _ => ⟨_, h, rfl, hφ, by rw [ht]; exact hR⟩) hL d1 hlocks
theorem zt_f2d {x : UInt32} (hY : z_okT Y d M hh) (dd : z_at M pc .f2d 1 pc') (hx0 : vf_n64 (FP.f2d x)) (kk : z_W Y pc' ls (.double (FP.f2d x) :: st) h k n) : z_W Y pc ls (.float x :: st) h k n :=
  zt_lift hY (fun p l e R s m args below meth c H locs cells slots Q lsA hx hb kk => by obtain ⟨d1, rfl⟩ := dd; exact lv_f2d hx hb d1 hx0 kk) kk
theorem zt_dastore {a N : Nat} {i : Int} {x : UInt64} {f : Int → UInt64} (hY : z_okT Y d M hh) (dd : z_at M pc .dastore 1 pc') (ha : h a = some (z_da N f)) (hi : 0 ≤ i ∧ i < N ∧ N ≤ 2147483647) (kk : z_W Y pc' ls st (z_set h a (z_da N (fun j => if j = i then x else f j))) k n) : z_W Y pc ls (.double x :: z_i i :: .ref a :: st) h k n := by
  obtain ⟨G, ⟨p, e, R, s, m, args, below, meth, c⟩, nL, mc, ms, φ, ψ⟩ := Y
  obtain ⟨hG, hx, hb, -, -, hown, -, -, hW, -⟩ := hY
  obtain ⟨d1, rfl⟩ := dd
  intro H locs lsA hR hL hlv
  have hA := (hR.1 a _ ha).2
  obtain ⟨v1, v2⟩ := z_nat (i := i) (N := N) (by omega) (by omega)
  refine W.dast hx hb (hR.at ha 0 _ rfl) (((z_K hG hW).2 4 _ rfl).1 N (fun j => .double (f j))) (fun q => by cases q) (by show ¬ (_ ∨ (arrV _ _ _).slots.size ≤ _); rw [arrV_size]; exact v1) rfl rfl d1 fun H1 e1 e2 e3 => ?_
  refine kk H1 _ lsA (hR.put ha ?_ e2 e3) (fun q hq => ?_) hlv
  · show H1[a]? = some (vp_cell _ _)
    rw [e1, v2]
    show some ((arrV _ _ _).setSlot _ _) = some (arrV _ _ (fun j : Nat => .double (if (j : Int) = i then x else f j)))
    rw [arrV_store]
    congr 2
    funext q
    by_cases hq : q = i.toNat
    · simp only [updV, hq, if_true]
      rw [if_pos (by omega)]
    · simp only [updV, hq, if_false]
      rw [if_neg (by omega)]
  · rcases List.mem_append.mp hq with g | g
    · exact hL q g
    · rw [List.mem_singleton.mp g]; exact hA
/-- which handler takes an exception of the class E at a pc -/
def z_tk (own : String) (hh : List (Nat × Nat × Nat × Nat)) (pc : Nat) (E : String) (hpc : Nat) : Prop := ∃ (pre suf : List ExceptionTableEntry) (x : ExceptionTableEntry), tableOf hh = pre ++ x :: suf ∧ (∀ z ∈ pre, z.catchType ≠ 0 ∧ ∃ nm ∈ z_EX, E ≠ nm ∧ Cond.classLink own z.catchType nm ∈ lw_tbl) ∧ covers x pc = true ∧ x.catchType ≠ 0 ∧ x.handlerPc = hpc ∧ E ∈ z_EX ∧ Cond.classLink own x.catchType E ∈ lw_tbl ∧ Cond.castable E E ∈ lw_tbl
/-- a call of the hall's: it returns, or a handler takes what it throws -/
theorem zt_callV {ix b ci d1 mc1 ms1 : Nat} {As : List Value} {fs : List Value} {φ1 : Option Value → z_H → Prop} {ψ1 : String → z_H → Prop} (hN : z_NC (z_gg Y)) (hY : z_okT Y d M hh) (dd : z_at M pc (.invokevirtual ix) 3 pc' ∧ z_lk M.1.cls ix M'.1 ∧ z_mt M' As.length ∧ z_mv M' ci) (ht : z_T (z_gg Y) M' (.ref b :: As) h d1 mc1 ms1 φ1 ψ1) (hb : h b = some (z_ob ci fs)) (hd : d1 < d) (hrest : (rest.map fun v => v.category).sum ≤ 8) (hc : k + mc1 ≤ z_mc Y ∧ n + ms1 ≤ z_ms Y)
    (kx : ∀ (E : String) (h' : z_H), ψ1 E h' → ∃ hpc : Nat, z_tk M.1.cls hh pc E hpc ∧ ∀ q : Nat, z_W Y hpc ls [.ref q] h' (k + mc1) (n + ms1)) (kk : ∀ (v : Option Value) (h' : z_H), φ1 v h' → z_W Y pc' ls (v.toList ++ rest) h' (k + mc1) (n + ms1)) : z_W Y pc ls (As.reverse ++ .ref b :: rest) h k n := by
  obtain ⟨G, ⟨p, e, R, s, m, args, below, meth, c⟩, nL, mc, ms, φ, ψ⟩ := Y
  obtain ⟨hG, hx, hbc, hml, hnl, hown, -, -, hW, htab, hRm, -⟩ := hY
  obtain ⟨⟨d2, rfl⟩, hlk, hm, w1, w2, ⟨T, N⟩, hcl⟩ := dd
  subst hRm
  intro H locs lsA hR hL hlv
  have hrec := va_recv (z_K hG hW) (hR.at hb) (ci := ci) (q0 := 0) hcl rfl
  have hp : PreV s H M'.1.cls b (z_Pc G (.ref b :: As) h) As := ⟨z_blind, hrec, fun U hU hWU => ⟨rfl, by rw [hU]; exact hR, State.WarmedH.trans hW hWU⟩⟩
  have fin : vx_Run p G.1 e (z_rm d mc ms) s m args below meth c H locs k n mc1 ms1 (F0 m pc lsA (As.reverse ++ .ref b :: rest)) rest (z_Qc G φ1 (.ref b :: As).toArray) (z_XC G ψ1) (z_A G) → W p G.1 e (z_rm d mc ms) s m args below meth c H locs k n (vx_MQ below (z_Qc G φ) (z_XC G ψ) args s mc ms (z_A G)) (F0 m pc lsA (As.reverse ++ .ref b :: rest)) := by
    intro hr Ts hTs X
    rcases hr Ts hTs X with ⟨v, st₀, t, T', L, h0, X', hL1, e1, e2, ⟨v', h', hv, hφ, hR'⟩, stp⟩ | ⟨q, st₀, t, T', L, E, ce, h0, X', hL1, e1, e2, ⟨h', hψ, hR'⟩, hce, hcv, hcls, stp⟩
    · cases hv
      obtain ⟨t2, a1, b1⟩ := kk v h' hφ T'.heap (locs ++ L) lsA (by rw [e1]; exact hR') (fun q hq => by
        rcases List.mem_append.mp hq with g | g
        · exact hL q g
        · exact hL1 q g) hlv T' rfl X'
      exact ⟨t2, stp t2 a1, b1⟩
    · obtain ⟨hpc, ⟨pre, suf, x, t1, t2, t3, t4, rfl, t6, t7, t8⟩, kh⟩ := kx E h' hψ
      have kW : W p G.1 e (z_rm d mc ms) s m args below meth c T'.heap (locs ++ L) (k + mc1) (n + ms1) (vx_MQ below (z_Qc G φ) (z_XC G ψ) args s mc ms (z_A G)) (F0 m x.handlerPc lsA [.ref q]) := kh q T'.heap (locs ++ L) lsA (by rw [e1]; exact hR') (fun z hz => by
        rcases List.mem_append.mp hz with g | g
        · exact hL z g
        · exact hL1 z g) hlv
      have hcat : vx_W p G.1 e (z_rm d mc ms) s m args below meth c T'.heap (locs ++ L) (k + mc1) (n + ms1) (vx_MQ below (z_Qc G φ) (z_XC G ψ) args s mc ms (z_A G)) (F0 m pc lsA rest) q :=
        vx_catch (own := M.1.cls) (name := E) hown pre x suf (htab.trans t1) (fun z hz => by
          obtain ⟨z1, nm, z2, z3, z4⟩ := t2 z hz
          exact Or.inr ⟨z1, nm, z_wd hG hW z4 rfl, va_Nc.moved hW.alike (hN E t6 nm z2 z3)⟩) t3 t4 (z_wd hG hW t7 rfl) (z_wd2 hG hW t8 rfl) (by rw [e1]; exact hce) hcv hcls kW
      obtain ⟨t2', a1, b1⟩ := hcat T' rfl X'
      exact ⟨t2', stp.trans a1, b1⟩
  rcases hlk with hlk | ⟨host, hlk⟩
  · exact fin (vx_runV (Ts := []) ⟨hx, hbc, hml, hown, fun w hw => by cases hw⟩ ht ⟨z_cb hG hW hm hd hlk, z_wd hG hW w1 rfl, z_wd hG hW w2 rfl⟩ hp rfl rfl (by rw [hnl] at hlv ⊢; exact hlv.1) rfl (lv_room hrest) d2 hc)
  · exact fin (vx_runVN (Ts := []) ⟨hx, hbc, hml, hown, fun w hw => by cases hw⟩ ht ⟨z_cn hG hW hm hd hlk, z_wd hG hW w1 rfl, z_wd hG hW w2 rfl⟩ hp rfl rfl (by rw [hnl] at hlv ⊢; exact hlv.1) rfl (lv_room hrest) d2 hc)
def z_wsH (M : z_M) (hh : List (Nat × Nat × Nat × Nat)) : List Cond := [Cond.codeWith M.1 M.2.1 M.2.2.1 M.2.2.2 hh]
/-- a contract of a method with a table -/
def z_TH (G : z_G) (M : z_M) (hh : List (Nat × Nat × Nat × Nat)) (As : List Value) (h : z_H) (d mc ms : Nat) (φ : Option Value → z_H → Prop) : Prop :=
  vx_Met G.1 M.1 (z_wsH M hh) (z_rm d mc ms) (z_Pc G As h) (z_Qc G φ) (z_XC G z_no) mc ms (z_A G)
theorem z_TH_of {G : z_G} {As : List Value} {ls0 : List (Nat × Value)} {mc ms : Nat} {φ : Option Value → z_H → Prop} (hG : z_OK G) (hpl : plainName M.1.cls = true) (hn : (lg_sl As).length ≤ M.2.2.1) (hls : lv_args 0 As = ls0)
    (body : ∀ Y : z_Y, z_okT Y d M hh → z_gg Y = G → z_mc Y = mc → z_ms Y = ms → z_φ Y = φ → z_ψ Y = z_no → z_W Y 0 ls0 [] h 0 0) : z_TH G M hh As h d mc ms φ := by
  refine vx_ofWH (cc := M.2.1) (maxL := M.2.2.1) (ret := M.2.2.2) (hh := hh) hpl rfl ?_
  intro p e s m args below meth c s₁ B hml hv
  obtain ⟨rfl, hR, hW⟩ := hv
  have hlo : z_lo G s := ⟨hR.2.1, hR.2.2⟩
  have hown : s.vm.findClass M.1.cls = some m.cls := findClass_of_methodNamed B.named
  have htab : c.exceptionTable.toList = tableOf hh := vx_table (x := M.1) B (atoms_spec (ws := z_wsH M hh) B.pre _ List.mem_cons_self)
  have Kb := body (G, (p, e, z_rm d mc ms, s, m, As.toArray, below, meth, c), M.2.2.1, mc, ms, φ, z_no)
    ⟨hG, B.exec, B.bytes, hml, rfl, hown, B.returns, B.notSynchronized, hW, htab, rfl, hlo⟩ rfl rfl rfl rfl rfl
  have hl := lv_entry As hn
  rw [lg_entry_eq]
  refine Kb s.heap [] _ hR (fun q hq => by cases hq) ?_
  rw [← hls]
  exact hl
theorem z_callSH {ix d1 mc1 ms1 : Nat} {As : List Value} {φ1 : Option Value → z_H → Prop} (hY : z_ok Y d M) (dd : z_at M pc (.invokestatic ix) 3 pc' ∧ Cond.methodLink M.1.cls ix M'.1 ∈ lw_tbl ∧ z_mtH M' hh As.length ∧ Cond.static M'.1 ∈ lw_tbl) (ht : z_TH (z_gg Y) M' hh As h d1 mc1 ms1 φ1) (hd : d1 < d) (hrest : (rest.map fun v => v.category).sum ≤ 8) (hc : k + mc1 ≤ z_mc Y ∧ n + ms1 ≤ z_ms Y)
    (kk : ∀ (v : Option Value) (h' : z_H), φ1 v h' → z_W Y pc' ls (v.toList ++ rest) h' (k + mc1) (n + ms1)) : z_W Y pc ls (As.reverse ++ rest) h k n := by
  obtain ⟨G, ⟨p, e, R, s, m, args, below, meth, c⟩, nL, mc, ms, φ, ψ⟩ := Y
  have hY' := hY
  obtain ⟨hG, hx, hbc, hml, hnl, hown, -, -, hW, -, hRm, -⟩ := hY
  obtain ⟨⟨d2, rfl⟩, hlk, ⟨h1, h2, h3, h4, h5⟩, w1⟩ := dd
  subst hRm
  intro H locs lsA hR hL hlv
  have hp : PreS s H (z_Pc G As h) As := ⟨z_blind, fun U hU hWU => ⟨rfl, by rw [hU]; exact hR, State.WarmedH.trans hW hWU⟩⟩
  refine z_run hY' (vx_runSX (hh := hh) (Ts := []) (n := As.length) ⟨hx, hbc, hml, hown, fun w hw => by cases hw⟩ ht ⟨⟨rfl, rfl, ?_, ?_, fun w hw a' U hU => ?_, List.mem_singleton.mpr rfl⟩, z_wd hG hW h1 rfl, z_wd hG hW h2 rfl, h3, fun sig hs => ?_, z_wd hG hW hlk rfl, z_wd hG hW w1 rfl⟩ hp rfl rfl hlv.1 rfl (lv_room hrest) d2 hc) hL hlv hc (fun _ _ q => q.elim) kk
  · show 10 + d1 + 1 ≤ 10 + d
    omega
  · show 8 + (M'.2.2.1 + 11) + (160 + 100 * d1) ≤ 160 + 100 * d
    omega
  · rw [List.mem_singleton.mp hw]
    exact word_at hU (Or.inl rfl) (z_wd (args := args) hG hW h1 rfl)
  · rw [hs] at h4
    exact (Option.some.inj h4).symm
end LZ
