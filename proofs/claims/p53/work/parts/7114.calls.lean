/-! CALLS of inherited methods on a builder, and of super methods. -/
/-! ===== BEGIN super.m(..) that may throw (follows va_callSU, va_runSU) ===== -/
section
variable {p : Program} {l : Launch} {e : Env} {R : Room} {s : State} {m : MethodId} {args : Array Value} {below : List Frame} {meth : Method} {c : Code} {H : Heap} {locs : List Loc} {cells slots : Nat}
theorem vx_callSU {T : State} {locs : List Loc} {cells slots : Nat} (X : Stand p l e R s m args below meth c T locs cells slots) (hexec : p.tables.exec = Jvm.exec) {own : String} {index : Nat} {y : MethodName} {bytes : ByteArray} {maxL : Nat} {ret : Option FieldType}
    (hown : s.vm.findClass own = some m.cls) (hlink : (Cond.methodLink own index y).before args s = true) (hsame : (Cond.sameMethod y.cls y.cls y.name y.desc).before args s = true) (hsup : (Cond.superclass own y.cls).before args s = true)
    (hinst : (Cond.instanceMethod y).before args s = true) (hcode : (Cond.code y bytes maxL ret).before args s = true) (hno : y.name ≠ "<init>")
    {W : Nat} {Pre : Pt → Array Value → Prop} {Post : Pt → Array Value → Option Value → Pt → Prop} {PostX : Pt → Array Value → Addr → Pt → Prop} (hK : vx_Back l R p e below s args y 3 W Pre Post PostX)
    {b : Addr} {cellB : Cell} {kB : Class} (hcell : T.heap[b]? = some cellB) (hobj : cellB.vm.isStatics = false) (hkB : s.vm.classes[cellB.cls]? = some kB)
    {g : JFrame} (hg : g.method = m) (hsize : g.locals.size = c.maxLocals) {argsL rest : List Value} (hlen : ∀ sig, parseMethodDescriptor y.desc = some sig → argsL.length = sig.parameters.length)
    (hstack : g.stack = argsL.reverse ++ .ref b :: rest) (hW : 2 * g.monitorRoom + (rest.map fun v => v.category).sum ≤ W) (hdg : decode c.code g.pc = .ok (.invokespecial index, 3))
    (hpre : ∀ vm₁, s.WarmedH vm₁ → Pre ⟨T.setVm vm₁, locs, cells, slots⟩ (Value.ref b :: argsL).toArray) :
    (∃ (v : Option Value) (vm₁ : Vm) (B : Pt), s.WarmedH vm₁ ∧ Stand p l e R s m args below meth c B.U B.locs B.cells B.slots ∧ Post ⟨T.setVm vm₁, locs, cells, slots⟩ (Value.ref b :: argsL).toArray v B ∧
      ∀ target, Steps p.tables e below (B.U.setTop { g with pc := g.pc + 3, stack := v.toList ++ rest }) target → Steps p.tables e below (T.setTop g) target) ∨
    (∃ (q : Addr) (vm₁ : Vm) (B : Pt), s.WarmedH vm₁ ∧ Stand p l e R s m args below meth c B.U B.locs B.cells B.slots ∧ PostX ⟨T.setVm vm₁, locs, cells, slots⟩ (Value.ref b :: argsL).toArray q B ∧
      Steps p.tables e below (T.setTop g) ((B.U.setTop { g with stack := rest }).pushFrame (.throwing q))) := by
  obtain ⟨mk, methM, hnamed, hmethM, hstM, habM⟩ := Cond.instanceMethod_spec hinst
  obtain ⟨methM', cM, hmethM', -, -, -, -, -, -, hsigM⟩ := Cond.code_spec hnamed hcode
  cases hmethM.symm.trans hmethM'
  obtain ⟨ps, dk, kp, hps, hdk, hkp, hsuper, -, -, hnid⟩ := Cond.superclass_spec hown hsup
  have hn : s.methodNamed? ⟨y.cls, y.name, y.desc⟩ = some mk := hnamed
  have hpm : ps = mk.cls := Option.some.inj (hps.symm.trans (findClass_of_methodNamed hnamed))
  have hsub : s.vm.isSubclass ps mk.cls = true := by rw [hpm]; simp [Vm.isSubclass, Vm.isSubclassAux]
  obtain ⟨vm₁, X₁, hstep₁⟩ := X.invokespecialUp hexec hown hlink hsame hn hmethM hstM habM hno hdk hnid hps hsuper hsub (a := b) (cell := cellB) hcell
    (fun z h => by rw [h] at hobj; cases hobj) hkB (g := g) hg (argsL := argsL) (rest := rest) (hlen _ hsigM) hstack hdg
  rcases hK m meth c ⟨T.setVm vm₁, locs, cells, slots⟩ { g with stack := rest } (.invokespecial index) mk (Value.ref b :: argsL).toArray X₁ hg hsize hdg hW (X₁.named hnamed) (hpre vm₁ X₁.warmed) with ⟨v, B, X', hpost, hsteps⟩ | ⟨q, B, X', hpost, hsteps⟩
  · exact Or.inl ⟨v, vm₁, B, X₁.warmed, X', hpost, fun target h => hstep₁ _ (by rw [doInvoke_state]; exact hsteps.trans h)⟩
  · exact Or.inr ⟨q, vm₁, B, X₁.warmed, X', hpost, hstep₁ _ (by rw [doInvoke_state]; exact hsteps)⟩
theorem vx_runSU {y : MethodName} {bytes cc : ByteArray} {maxL nL mc ms n index : Nat} {ret : Option FieldType} {ws : List Cond} {rm : Room} {Pc : Array Value → State → Prop} {Qc : Array Value → State → Outcome → State → Prop} {XC : String → State → State → Prop} {free : Addr → Prop} {Ts : List Cond} {own C : String} {cC : ClassId} {b : Addr} {As rest : List Value} {g : JFrame}
    (hat : ClassAt s C cC) (S : CallFix p m c cc nL s args Ts own) (hM : vx_Met l y ws rm Pc Qc XC mc ms free) (cw : va_CS R s args own index y bytes maxL ret ws rm mc ms n) (hp : PreV s H C b Pc As)
    (hg : g.method = m) (hn : As.length = n) (hsize : g.locals.size = nL) (hstack : g.stack = As.reverse ++ .ref b :: rest) (hW : 2 * g.monitorRoom + (rest.map fun v => v.category).sum ≤ 8) (hdg : decode cc g.pc = .ok (.invokespecial index, 3)) (hf : cells + mc ≤ R.cells ∧ slots + ms ≤ R.slots) :
    vx_Run p l e R s m args below meth c H locs cells slots mc ms g rest (Qc (Value.ref b :: As).toArray) XC free := by
  obtain ⟨⟨hrc, hrs, hfr, hlo, hws, hcw⟩, hl1, hl2, hl3, hl4, hini, hcode, hno, hlen⟩ := cw
  have hK : vx_Back l R p e below s args y 3 8 (PreOf R mc ms Pc) (PostOf Qc mc ms free) (vx_Post XC mc ms free) := vx_back (bytes := bytes) (maxL := maxL) (ret := ret) hM hp.1 hrc hrs hfr hlo hws hcw (fun a' U hW => word_at hW (Or.inl (by first | rfl | simp [Cond.onTables, Cond.keeps, Cond.steady])) hini)
  obtain ⟨hx, hb, hml, ho, -⟩ := S
  obtain ⟨-, ⟨cellB, hcB, hoB, hclB⟩, hPc⟩ := hp
  obtain ⟨hfc, kB, hkB, -⟩ := hat
  cases hfc.symm.trans hclB
  intro T hT X
  rcases vx_callSU X hx (bytes := bytes) (maxL := maxL) (ret := ret) ho hl1 hl2 hl3 hl4 hcode hno hK (by rw [hT]; exact hcB) hoB hkB hg (hsize.trans hml.symm) (argsL := As) (rest := rest) (fun sig h => hn.trans (hlen sig h)) hstack hW (by rw [hb]; exact hdg)
    (fun vm₁ hW₁ => ⟨hf.1, hf.2, hPc (T.setVm vm₁) hT hW₁⟩) with ⟨v, vm₁, ⟨U', l2, c2, s2⟩, hW₁, X', ⟨g', mk, t, L, e1, e2, hq, h1, hL, h2, h3⟩, st⟩ | ⟨q, vm₁, ⟨U', l2, c2, s2⟩, hW₁, X', ⟨g', mk, t, L, E, ce, e1, e2, hq, hce, hcv, hcl, h1, hL, h2, h3⟩, st⟩
  · dsimp only [Pt.U, Pt.locs, Pt.cells, Pt.slots] at X' e1 e2 h1 h2 h3 st
    subst h1; subst h2; subst h3
    exact Or.inl ⟨v, (T.setVm vm₁).calling g' mk (Value.ref b :: As).toArray, t, U', L, hT, X', hL, e1, e2, hq, st⟩
  · dsimp only [Pt.U, Pt.locs, Pt.cells, Pt.slots] at X' e1 e2 h1 h2 h3 st hcl
    subst h1; subst h2; subst h3
    exact Or.inr ⟨q, (T.setVm vm₁).calling g' mk (Value.ref b :: As).toArray, t, U', L, E, ce, hT, X', hL, e1, e2, hq, hce, hcv, vx_cls hW₁ hcl, st⟩
end
/-! ===== END ===== -/
section LVC
variable {Y : z_Y} {d : Nat} {M M' : z_M} {pc pc' : Nat} {ls : List (Nat × Value)} {rest : List Value} {h : z_H} {k n : Nat}
/-- the word of an inherited method at an object of the class of kind ci: found there, or private -/
def z_mu (M : z_M) (ci : Nat) : Prop := Cond.instanceMethod M.1 ∈ lw_tbl ∧ ∃ (C : String) (q : u_T × Nat), z_cl[ci]? = some (C, q.1, q.2) ∧ (Cond.selects C M.1 M.1 ∈ lw_tbl ∨ (Cond.privateMethod M.1 ∈ lw_tbl ∧ ∃ z : MethodName, Cond.selects C z z ∈ lw_tbl ∧ z.cls = M.1.cls))
theorem z_selP {s : State} {args : Array Value} {C : String} {z y : MethodName} (hy : y.cls ≠ "java/lang/invoke/MethodHandle" ∧ y.cls ≠ "java/lang/invoke/VarHandle") (hz : (Cond.selects C z z).before args s = true) (hzy : z.cls = y.cls) (hi : (Cond.instanceMethod y).before args s = true) (hp : (Cond.privateMethod y).before args s = true) : (Cond.selects C y y).before args s = true := by
  obtain ⟨mk, methM, hnamed, hmethM, -, -⟩ := Cond.instanceMethod_spec hi
  obtain ⟨c, r, m, h1, h2, h3, h4, kP, hk, hki⟩ := Cond.selects_spec hz
  have e : m.cls = mk.cls := by
    have z1 := findClass_of_methodNamed h3
    rw [hzy] at z1
    exact Option.some.inj (z1.symm.trans (findClass_of_methodNamed hnamed))
  rw [e] at hk
  have hfound : s.methodFound? y.cls y.name y.desc = some mk := State.methodFound?_of_named hnamed hy
  have hsel : selectMethod {} s.vm c mk = .method mk := selectMethod_private hmethM (Cond.privateMethod_at hp mk methM hnamed hmethM)
  simp only [Cond.before, Cond.holds, Cond.value, h1, hfound, hnamed, hsel, hk]
  simp; exact hki
theorem z_callU {ix b ci d1 mc1 ms1 : Nat} {As : List Value} {fs : List Value} {φ1 : Option Value → z_H → Prop} {ψ1 : String → z_H → Prop} (hY : z_ok Y d M) (dd : z_at M pc (.invokevirtual ix) 3 pc' ∧ z_lk M.1.cls ix M'.1 ∧ z_mt M' As.length ∧ z_mu M' ci) (ht : z_T (z_gg Y) M' (.ref b :: As) h d1 mc1 ms1 φ1 ψ1) (hb : h b = some (z_ob ci fs)) (hd : d1 < d) (hrest : (rest.map fun v => v.category).sum ≤ 8) (hc : k + mc1 ≤ z_mc Y ∧ n + ms1 ≤ z_ms Y)
    (kx : ∀ (E : String) (h' : z_H), ψ1 E h' → z_ψ Y E h') (kk : ∀ (v : Option Value) (h' : z_H), φ1 v h' → z_W Y pc' ls (v.toList ++ rest) h' (k + mc1) (n + ms1)) : z_W Y pc ls (As.reverse ++ .ref b :: rest) h k n := by
  obtain ⟨G, ⟨p, e, R, s, m, args, below, meth, c⟩, nL, mc, ms, φ, ψ⟩ := Y
  have hY' := hY
  obtain ⟨hG, hx, hbc, hml, hnl, hown, -, -, hW, -, hRm, -⟩ := hY
  obtain ⟨⟨d2, rfl⟩, hlk, hm, w1, C, ⟨T, N⟩, hcl, w2⟩ := dd
  subst hRm
  intro H locs lsA hR hL hlv
  have hrec := va_recv (z_K hG hW) (hR.at hb) (ci := ci) (q0 := 0) hcl rfl
  have hp : PreV s H C b (z_Pc G (.ref b :: As) h) As := ⟨z_blind, hrec, fun U hU hWU => ⟨rfl, by rw [hU]; exact hR, State.WarmedH.trans hW hWU⟩⟩
  have hi : (Cond.instanceMethod M'.1).before args s = true := z_wd hG hW w1 rfl
  have hs : (Cond.selects C M'.1 M'.1).before args s = true := by
    rcases w2 with w2 | ⟨w2, z, w3, e3⟩
    · exact z_wd hG hW w2 rfl
    · exact word_at hW (good_of_word rfl) (z_selP hm.2.2.1 (hG.2.2.1 _ w3) e3 (hG.2.2.1 _ w1) (hG.2.2.1 _ w2))
  rcases hlk with hlk | ⟨host, hlk⟩
  · exact z_run hY' (vx_runV (Ts := []) ⟨hx, hbc, hml, hown, fun w hw => by cases hw⟩ ht ⟨z_cb hG hW hm hd hlk, hi, hs⟩ hp rfl rfl hlv.1 rfl (lv_room hrest) d2 hc) hL hlv hc kx kk
  · exact z_run hY' (vx_runVN (Ts := []) ⟨hx, hbc, hml, hown, fun w hw => by cases hw⟩ ht ⟨z_cn hG hW hm hd hlk, hi, hs⟩ hp rfl rfl hlv.1 rfl (lv_room hrest) d2 hc) hL hlv hc kx kk
theorem z_callUr {ix b ci d1 : Nat} {As : List Value} {fs : List Value} {r : Value} (hY : z_ok Y d M) (dd : z_at M pc (.invokevirtual ix) 3 pc' ∧ z_lk M.1.cls ix M'.1 ∧ z_mt M' As.length ∧ z_mu M' ci) (ht : z_Tr (z_gg Y) M' (.ref b :: As) h d1 r) (hb : h b = some (z_ob ci fs)) (hd : d1 < d) (hrest : (rest.map fun v => v.category).sum ≤ 8) (hc : k ≤ z_mc Y ∧ n ≤ z_ms Y)
    (kk : z_W Y pc' ls (r :: rest) h k n) : z_W Y pc ls (As.reverse ++ .ref b :: rest) h k n :=
  z_callU hY dd ht hb hd hrest hc (fun _ _ q => q.elim) (fun v h' q => by obtain ⟨rfl, rfl⟩ := q; exact kk)
/-- the words of a super call -/
def z_ms' (own : String) (M : z_M) : Prop := Cond.sameMethod M.1.cls M.1.cls M.1.name M.1.desc ∈ lw_tbl ∧ Cond.superclass own M.1.cls ∈ lw_tbl ∧ Cond.instanceMethod M.1 ∈ lw_tbl ∧ M.1.name ≠ "<init>"
theorem z_callQ {ix b ci d1 mc1 ms1 : Nat} {As : List Value} {fs : List Value} {φ1 : Option Value → z_H → Prop} {ψ1 : String → z_H → Prop} (hY : z_ok Y d M) (dd : z_at M pc (.invokespecial ix) 3 pc' ∧ Cond.methodLink M.1.cls ix M'.1 ∈ lw_tbl ∧ z_mt M' As.length ∧ z_ms' M.1.cls M') (hci : ∃ q : String × u_T × Nat, z_cl[ci]? = some q) (ht : z_T (z_gg Y) M' (.ref b :: As) h d1 mc1 ms1 φ1 ψ1) (hb : h b = some (z_ob ci fs)) (hd : d1 < d) (hrest : (rest.map fun v => v.category).sum ≤ 8) (hc : k + mc1 ≤ z_mc Y ∧ n + ms1 ≤ z_ms Y)
    (kx : ∀ (E : String) (h' : z_H), ψ1 E h' → z_ψ Y E h') (kk : ∀ (v : Option Value) (h' : z_H), φ1 v h' → z_W Y pc' ls (v.toList ++ rest) h' (k + mc1) (n + ms1)) : z_W Y pc ls (As.reverse ++ .ref b :: rest) h k n := by
  obtain ⟨G, ⟨p, e, R, s, m, args, below, meth, c⟩, nL, mc, ms, φ, ψ⟩ := Y
  have hY' := hY
  obtain ⟨hG, hx, hbc, hml, hnl, hown, -, -, hW, -, hRm, -⟩ := hY
  obtain ⟨⟨d2, rfl⟩, hlk, hm, w1, w2, w3, w4⟩ := dd
  obtain ⟨⟨C, T, N⟩, hcl⟩ := hci
  subst hRm
  intro H locs lsA hR hL hlv
  have hrec := va_recv (z_K hG hW) (hR.at hb) (ci := ci) (q0 := 0) hcl rfl
  have hat := ((z_K hG hW).1 ci _ hcl).2
  have hp : PreV s H C b (z_Pc G (.ref b :: As) h) As := ⟨z_blind, hrec, fun U hU hWU => ⟨rfl, by rw [hU]; exact hR, State.WarmedH.trans hW hWU⟩⟩
  have cb := z_cb (args := args) (mc := mc) (ms := ms) (mc1 := mc1) (ms1 := ms1) (s := s) hG hW hm hd hlk
  obtain ⟨c1, c2, c3, c4, c5, c6, c7, c8, c9, c10, c11⟩ := cb
  exact z_run hY' (vx_runSU (Ts := []) hat ⟨hx, hbc, hml, hown, fun w hw => by cases hw⟩ ht ⟨⟨c1, c2, c3, c4, c5, c6⟩, z_wd hG hW hlk rfl, z_wd hG hW w1 rfl, z_wd hG hW w2 rfl, z_wd hG hW w3 rfl, z_wd hG hW hm.2.1 rfl, z_wd hG hW hm.1 rfl, w4, c10⟩ hp rfl rfl hlv.1 rfl (lv_room hrest) d2 hc) hL hlv hc kx kk
end LVC
