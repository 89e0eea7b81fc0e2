/-! TEXTS: toString. (What stands ahead of LVQ began as a starting text of the kit.) -/
section
variable {p : Program} {l : Launch} {e : Env} {R : Room} {s : State} {m : MethodId} {args : Array Value} {below : List Frame} {meth : Method} {c : Code} {H : Heap} {locs : List Loc} {cells slots : Nat}
theorem vx_callVU {T : State} {locs : List Loc} {cells slots : Nat} (X : Stand p l e R s m args below meth c T locs cells slots) (hexec : p.tables.exec = Jvm.exec) {own C owner : String} {index : Nat} {x y : MethodName} {bytes : ByteArray} {maxL : Nat} {ret : Option FieldType}
    (hown : s.vm.findClass own = some m.cls) (hlink : (Cond.methodLink own index x).before args s = true) (hsame : (Cond.sameMethod x.cls owner x.name x.desc).before args s = true)
    (hd0 : va_Decl s ⟨owner, x.name, x.desc⟩) (howner : owner ≠ "java/lang/invoke/MethodHandle" ∧ owner ≠ "java/lang/invoke/VarHandle")
    (hsel : (Cond.selects C x y).before args s = true) (hinst : (Cond.instanceMethod y).before args s = true) (hcode : (Cond.code y bytes maxL ret).before args s = true)
    {W : Nat} {Pre : Pt → Array Value → Prop} {Post : Pt → Array Value → Option Value → Pt → Prop} {PostX : Pt → Array Value → Addr → Pt → Prop} (hK : vx_Back l R p e below s args y 3 W Pre Post PostX)
    {b : Addr} {cellB : Cell} (hcell : T.heap[b]? = some cellB) (hobj : cellB.vm.isStatics = false) (hcls : s.vm.findClass C = some cellB.cls)
    {g : JFrame} (hg : g.method = m) (hsize : g.locals.size = c.maxLocals) {argsL rest : List Value} (hlen : ∀ sig, parseMethodDescriptor x.desc = some sig → argsL.length = sig.parameters.length)
    (hstack : g.stack = argsL.reverse ++ .ref b :: rest) (hW : 2 * g.monitorRoom + (rest.map fun v => v.category).sum ≤ W) (hdg : decode c.code g.pc = .ok (.invokevirtual index, 3))
    (hpre : ∀ vm₁, s.WarmedH vm₁ → Pre ⟨T.setVm vm₁, locs, cells, slots⟩ (Value.ref b :: argsL).toArray) :
    (∃ (v : Option Value) (vm₁ : Vm) (B : Pt), s.WarmedH vm₁ ∧ Stand p l e R s m args below meth c B.U B.locs B.cells B.slots ∧ Post ⟨T.setVm vm₁, locs, cells, slots⟩ (Value.ref b :: argsL).toArray v B ∧
      ∀ target, Steps p.tables e below (B.U.setTop { g with pc := g.pc + 3, stack := v.toList ++ rest }) target → Steps p.tables e below (T.setTop g) target) ∨
    (∃ (q : Addr) (vm₁ : Vm) (B : Pt), s.WarmedH vm₁ ∧ Stand p l e R s m args below meth c B.U B.locs B.cells B.slots ∧ PostX ⟨T.setVm vm₁, locs, cells, slots⟩ (Value.ref b :: argsL).toArray q B ∧
      Steps p.tables e below (T.setTop g) ((B.U.setTop { g with stack := rest }).pushFrame (.throwing q))) := by
  obtain ⟨r0, r, hn, hrm, hstR, hsigR⟩ := hd0
  obtain ⟨cn, ck, r1, hcn, hck, hni, hf, hn1⟩ := Cond.sameMethod_found hsame
  cases hn.symm.trans hn1
  obtain ⟨mk, methM, hnamed, hmethM, -, habM⟩ := Cond.instanceMethod_spec hinst
  obtain ⟨c2, r2, m2, q1, q2, q3, q4, kP, hkP, hkPi⟩ := Cond.selects_spec hsel
  cases hcls.symm.trans q1
  cases hf.symm.trans q2
  cases hnamed.symm.trans q3
  have hselP : selectMethod e.platform s.vm cellB.cls r0 = .method mk := by rw [Launch.admits_selectMethod X.admits]; exact q4
  obtain ⟨vm₁, X₁, hstep₁⟩ := X.invokevirtualUp hexec hown hlink hsame howner hn hrm hstR (a := b) (cell := cellB) hcell
    (fun z h => by rw [h] at hobj; cases hobj) hselP hmethM habM hkP hkPi (g := g) hg (argsL := argsL) (rest := rest) (hlen _ hsigR) hstack hdg
  rcases hK m meth c ⟨T.setVm vm₁, locs, cells, slots⟩ { g with stack := rest } (.invokevirtual index) mk (Value.ref b :: argsL).toArray X₁ hg hsize hdg hW (X₁.named hnamed) (hpre vm₁ X₁.warmed) with ⟨v, B, X', hpost, hsteps⟩ | ⟨q, B, X', hpost, hsteps⟩
  · exact Or.inl ⟨v, vm₁, B, X₁.warmed, X', hpost, fun target h => hstep₁ _ fun acts => by rw [doInvoke_state]; exact hsteps.trans h⟩
  · exact Or.inr ⟨q, vm₁, B, X₁.warmed, X', hpost, hstep₁ _ fun acts => by rw [doInvoke_state]; exact hsteps⟩
theorem vx_runU {x y : MethodName} {bytes cc : ByteArray} {maxL nL mc ms n index : Nat} {ret : Option FieldType} {ws : List Cond} {rm : Room} {Pc : Array Value → State → Prop} {Qc : Array Value → State → Outcome → State → Prop} {XC : String → State → State → Prop} {free : Addr → Prop} {Ts : List Cond} {own C owner : String} {b : Addr} {As rest : List Value} {g : JFrame}
    (S : CallFix p m c cc nL s args Ts own) (hM : vx_Met l y ws rm Pc Qc XC mc ms free) (cw : va_CU R s args own C owner index x y bytes maxL ret ws rm mc ms n) (hp : PreV s H C b Pc As)
    (hg : g.method = m) (hn : As.length = n) (hsize : g.locals.size = nL) (hstack : g.stack = As.reverse ++ .ref b :: rest) (hW : 2 * g.monitorRoom + (rest.map fun v => v.category).sum ≤ 8) (hdg : decode cc g.pc = .ok (.invokevirtual index, 3)) (hf : cells + mc ≤ R.cells ∧ slots + ms ≤ R.slots) :
    vx_Run p l e R s m args below meth c H locs cells slots mc ms g rest (Qc (Value.ref b :: As).toArray) XC free := by
  obtain ⟨hrc, hrs, hfr, hlo, hws, hcw⟩ := cw.back
  have hini := cw.init
  have hK : vx_Back l R p e below s args y 3 8 (PreOf R mc ms Pc) (PostOf Qc mc ms free) (vx_Post XC mc ms free) := vx_back (bytes := bytes) (maxL := maxL) (ret := ret) hM hp.1 hrc hrs hfr hlo hws hcw (fun a' U hW => word_at hW (Or.inl (by first | rfl | simp [Cond.onTables, Cond.keeps, Cond.steady])) hini)
  obtain ⟨hx, hb, hml, ho, -⟩ := S
  obtain ⟨-, ⟨cellB, hcB, hoB, hclB⟩, hPc⟩ := hp
  intro T hT X
  rcases vx_callVU X hx (C := C) (owner := owner) (bytes := bytes) (maxL := maxL) (ret := ret) ho cw.link cw.same cw.decl cw.notMH cw.sel cw.inst cw.code hK (by rw [hT]; exact hcB) hoB hclB hg (hsize.trans hml.symm) (argsL := As) (rest := rest) (fun sig h => hn.trans (cw.len sig h)) hstack hW (by rw [hb]; exact hdg)
    (fun vm₁ hW₁ => ⟨hf.1, hf.2, hPc (T.setVm vm₁) hT hW₁⟩) with ⟨v, vm₁, ⟨U', l2, c2, s2⟩, hW₁, X', ⟨g', mk, t, L, e1, e2, hq, h1, hL, h2, h3⟩, st⟩ | ⟨q, vm₁, ⟨U', l2, c2, s2⟩, hW₁, X', ⟨g', mk, t, L, E, ce, e1, e2, hq, hce, hcv, hcl, h1, hL, h2, h3⟩, st⟩
  · dsimp only [Pt.U, Pt.locs, Pt.cells, Pt.slots] at X' e1 e2 h1 h2 h3 st
    subst h1; subst h2; subst h3
    exact Or.inl ⟨v, (T.setVm vm₁).calling g' mk (Value.ref b :: As).toArray, t, U', L, hT, X', hL, e1, e2, hq, st⟩
  · dsimp only [Pt.U, Pt.locs, Pt.cells, Pt.slots] at X' e1 e2 h1 h2 h3 st hcl
    subst h1; subst h2; subst h3
    exact Or.inr ⟨q, (T.setVm vm₁).calling g' mk (Value.ref b :: As).toArray, t, U', L, E, ce, hT, X', hL, e1, e2, hq, hce, hcv, vx_cls hW₁ hcl, st⟩
end
section LVQ
section
variable {Y : z_Y} {d : Nat} {M : z_M} {pc pc' : Nat} {ls : List (Nat × Value)} {rest : List Value} {h : z_H} {k n : Nat}
theorem wB3_211 : (Jvm.Cond.selects "java/lang/StringBuilder" ({ cls := "java/lang/AbstractStringBuilder", name := "length", desc := "()I" } : Jvm.MethodName) ({ cls := "java/lang/StringBuilder", name := "length", desc := "()I" } : Jvm.MethodName)) ∈ lw_tbl := z_in3 (List.mem_of_getElem? (i := 211) rfl)
theorem wB3_212 : (Jvm.Cond.instanceMethod ({ cls := "java/lang/StringBuilder", name := "length", desc := "()I" } : Jvm.MethodName)) ∈ lw_tbl := z_in3 (List.mem_of_getElem? (i := 212) rfl)
/-- a builder's length, by the name that stands above it -/
theorem z_callLen {b a : Nat} {w : Int} {f : Int → Int} (hY : z_ok Y d M) (dd : z_at M pc (.invokevirtual 549) 3 pc') (ho : M.1.cls = "java/lang/String") (hs : sbS h b a w f) (hd : 2 < d) (hrest : (rest.map fun v => v.category).sum ≤ 8) (hc : k ≤ z_mc Y ∧ n ≤ z_ms Y) (kk : z_W Y pc' ls (z_i w :: rest) h k n) : z_W Y pc ls (.ref b :: rest) h k n := by
  obtain ⟨G, ⟨p, e, R, s, m, args, below, meth, c⟩, nL, mc, ms, φ, ψ⟩ := Y
  have hY' := hY
  obtain ⟨hG, hx, hbc, hml, hnl, hown, -, -, hW, -, hRm, -⟩ := hY
  obtain ⟨d2, rfl⟩ := dd
  have ht : z_Tr G mJ4_length_8abf5 [.ref b] h 2 (z_i w) := sb_len hG hs
  obtain ⟨ml, N, g, h1, -⟩ := hs
  subst hRm
  intro H locs lsA hR hL hlv
  have hrec := va_recv (z_K hG hW) (hR.at h1) (ci := 10) (q0 := 0) (q := (RJ4, TJ4, 4)) rfl rfl
  have hp : PreV s H "java/lang/StringBuilder" b (z_Pc G [.ref b] h) [] := ⟨z_blind, hrec, fun U hU hWU => ⟨rfl, by rw [hU]; exact hR, State.WarmedH.trans hW hWU⟩⟩
  have wd : ∀ {w : Cond}, w ∈ lw_tbl → goodWord w = true → w.before args s = true := fun hw hg => z_wd hG hW hw hg
  have hU : va_CU (z_rm d mc ms) s args M.1.cls "java/lang/StringBuilder" "java/lang/AbstractStringBuilder" 549 mJ5_length_8abf5.1 mJ4_length_8abf5.1 mJ4_length_8abf5.2.1 mJ4_length_8abf5.2.2.1 mJ4_length_8abf5.2.2.2 (z_ws mJ4_length_8abf5) (z_rm 2 0 0) 0 0 0 := by
    refine ⟨⟨rfl, rfl, ?_, ?_, fun w hw a' U hU => ?_, List.mem_singleton.mpr rfl⟩, wd tJ4_length_8abf5.1 rfl, wd tJ4_length_8abf5.2.1 rfl, by decide, fun sig hsig => ?_, by rw [ho]; exact wd wB3_208 rfl, wd wB3_210 rfl, va_Decl.of (args := args) (wd wB3_209 rfl) (wd tJ5_length_8abf5.1 rfl), wd wB3_211 rfl, wd wB3_212 rfl⟩
    · show 7 + 2 + 1 ≤ 7 + d
      omega
    · show 8 + (1 + 11) + (110 + 50 * 2) ≤ 110 + 50 * d
      omega
    · rw [List.mem_singleton.mp hw]
      exact word_at hU (Or.inl rfl) (z_wd (args := args) hG hW tJ4_length_8abf5.1 rfl)
    · have h4 := tJ5_length_8abf5.2.2.2.1
      rw [hsig] at h4
      exact (Option.some.inj h4).symm
  exact z_run hY' (vx_runU (Ts := []) ⟨hx, hbc, hml, hown, fun w hw => by cases hw⟩ ht hU hp rfl rfl hlv.1 rfl (lv_room hrest) d2 hc) hL hlv hc (fun _ _ q => q.elim) (fun v h' q => by obtain ⟨rfl, rfl⟩ := q; exact kk)
end
variable {G : z_G} {H : z_H} {b a : Nat} {n : Int} {f : Int → Int}
theorem sq_checkLength (hG : z_OK G) {x y : Int} (hr : 0 ≤ x ∧ x ≤ y ∧ y ≤ 1000) : z_T G mJ7_checkLength_df160 [z_i x, z_i y] H 0 0 0 (fun v H' => v = none ∧ H' = H) z_no := by
  refine z_T_of hG pJ7_checkLength_df160 (Nat.le_of_ble_eq_true rfl) (ls0 := [(0, z_i x), (1, z_i y)]) rfl fun Y hY hg hmc hms hφ hψ => ?_
  subst hg
  refine z_iload hY eJ7_checkLength_df160_0 1 rfl ?_
  refine z_iload hY eJ7_checkLength_df160_1 0 rfl ?_
  refine z_icmpge hY eJ7_checkLength_df160_2 (by omega) (fun _ => ?_) (fun c => by exfalso; omega)
  exact z_return hY eJ7_checkLength_df160_37 rfl (by rw [hφ]; exact ⟨rfl, rfl⟩) (by rw [hmc, hms]; omega)
theorem sq_rangeB {N n1 : Nat} {g : Int → Int} (hG : z_OK G) (ha : H a = some (z_ya N g)) (hn : n1 < N ∧ N ≤ 1000) (h8 : ∀ i, 0 ≤ i → i < (N : Int) → -128 ≤ g i ∧ g i ≤ 127) : z_T G mJ7_copyOfRangeByte_39247 [.ref a, z_i 0, z_i n1] H 1 1 n1 (fun v H' => ∃ q : Nat, v = some (.ref q) ∧ H q = none ∧ H' = z_set (z_set H q (z_ya n1 (fun _ => 0))) q (z_ya n1 (z_cpY g (fun _ => 0) 0 0 n1))) z_no := by
  refine z_T_of hG pJ7_copyOfRangeByte_39247 (Nat.le_of_ble_eq_true rfl) (ls0 := [(0, .ref a), (1, z_i 0), (2, z_i n1)]) rfl fun Y hY hg hmc hms hφ hψ => ?_
  subst hg
  refine z_iload hY eJ7_copyOfRangeByte_39247_0 1 rfl ?_
  refine z_iload hY eJ7_copyOfRangeByte_39247_1 2 rfl ?_
  refine z_callS (As := [z_i 0, z_i n1]) (rest := []) hY eJ7_copyOfRangeByte_39247_2 (sq_checkLength hG (by omega)) (by decide) (Nat.le_of_ble_eq_true rfl) (by rw [hmc, hms]; omega) (fun _ _ q => q.elim) (fun v h' q => ?_)
  obtain ⟨rfl, rfl⟩ := q
  refine z_iload hY eJ7_copyOfRangeByte_39247_5 2 rfl ?_
  refine z_iload hY eJ7_copyOfRangeByte_39247_6 1 rfl ?_
  refine z_isub hY eJ7_copyOfRangeByte_39247_7 ?_
  rw [Int.sub_zero]
  refine z_istore hY eJ7_copyOfRangeByte_39247_8 (ls' := [(3, z_i n1), (0, .ref a), (1, z_i 0), (2, z_i n1)]) rfl ?_
  refine z_iload hY eJ7_copyOfRangeByte_39247_9 0 rfl ?_
  refine z_newY (N := n1) hY eJ7_copyOfRangeByte_39247_10 (by omega) (by rw [hmc, hms]; omega) (fun q hq => ?_)
  have hqa : a ≠ q := fun e => by rw [e, hq] at ha; cases ha
  have ha' : z_set h' q (z_ya n1 (fun _ => 0)) a = some (z_ya N g) := (z_set_ne hqa).trans ha
  refine z_astore hY eJ7_copyOfRangeByte_39247_12 (ls' := [(4, .ref q), (3, z_i n1), (0, .ref a), (1, z_i 0), (2, z_i n1)]) rfl ?_
  refine z_aload hY eJ7_copyOfRangeByte_39247_14 2 rfl ?_
  refine z_iload hY eJ7_copyOfRangeByte_39247_15 3 rfl ?_
  refine z_aload hY eJ7_copyOfRangeByte_39247_16 0 rfl ?_
  refine z_const hY eJ7_copyOfRangeByte_39247_18 ?_
  refine z_aload hY eJ7_copyOfRangeByte_39247_19 2 rfl ?_
  refine z_arrlen hY eJ7_copyOfRangeByte_39247_20 ha' (by decide) ?_
  refine z_iload hY eJ7_copyOfRangeByte_39247_21 3 rfl ?_
  refine z_isub hY eJ7_copyOfRangeByte_39247_22 ?_
  rw [Int.sub_zero]
  refine z_iload hY eJ7_copyOfRangeByte_39247_23 1 rfl ?_
  refine z_callSr (As := [z_i N, z_i n1]) (rest := [z_i 0, .ref q, z_i 0, .ref a]) (r := z_i (if (n1 : Int) < N then n1 else N)) hY eJ7_copyOfRangeByte_39247_24 (ma_min hG (by omega)) (by decide) (Nat.le_of_ble_eq_true rfl) (by rw [hmc, hms]; omega) ?_
  rw [if_pos (by omega)]
  refine z_copyY hY eJ7_copyOfRangeByte_39247_27 wAC150 (z_sr_of hG ha') z_set_at (by omega) (fun i i0 i1 => by rw [Int.zero_add]; exact h8 i i0 (by omega)) (Nat.le_of_ble_eq_true rfl) ?_
  refine z_aload hY eJ7_copyOfRangeByte_39247_30 0 rfl ?_
  exact z_areturn hY eJ7_copyOfRangeByte_39247_32 ⟨_, rfl, Or.inr ⟨_, rfl⟩⟩ (by rw [hφ]; exact ⟨q, rfl, hq, rfl⟩) (by rw [hmc, hms]; omega)
theorem sq_range {N n1 : Nat} {g : Int → Int} (hG : z_OK G) (ha : H a = some (z_ya N g)) (hn : n1 < N ∧ N ≤ 1000) (h8 : ∀ i, 0 ≤ i → i < (N : Int) → -128 ≤ g i ∧ g i ≤ 127) : z_T G mJ7_copyOfRange_39247 [.ref a, z_i 0, z_i n1] H 2 1 n1 (fun v H' => ∃ q : Nat, v = some (.ref q) ∧ H q = none ∧ H' = z_set (z_set H q (z_ya n1 (fun _ => 0))) q (z_ya n1 (z_cpY g (fun _ => 0) 0 0 n1))) z_no := by
  refine z_T_of hG pJ7_copyOfRange_39247 (Nat.le_of_ble_eq_true rfl) (ls0 := [(0, .ref a), (1, z_i 0), (2, z_i n1)]) rfl fun Y hY hg hmc hms hφ hψ => ?_
  subst hg
  refine z_iload hY eJ7_copyOfRange_39247_0 1 rfl ?_
  refine z_ifne hY eJ7_copyOfRange_39247_1 (by decide) (fun c => absurd rfl c) (fun _ => ?_)
  refine z_iload hY eJ7_copyOfRange_39247_4 2 rfl ?_
  refine z_aload hY eJ7_copyOfRange_39247_5 0 rfl ?_
  refine z_arrlen hY eJ7_copyOfRange_39247_6 ha (by decide) ?_
  refine z_icmpeq hY eJ7_copyOfRange_39247_7 (by omega) (fun c => by exfalso; omega) (fun _ => ?_)
  refine z_aload hY eJ7_copyOfRange_39247_10 0 rfl ?_
  refine z_iload hY eJ7_copyOfRange_39247_11 1 rfl ?_
  refine z_iload hY eJ7_copyOfRange_39247_12 2 rfl ?_
  refine z_callS (As := [.ref a, z_i 0, z_i n1]) (rest := []) hY eJ7_copyOfRange_39247_13 (sq_rangeB hG ha hn h8) (by decide) (Nat.le_of_ble_eq_true rfl) (by rw [hmc, hms]; omega) (fun _ _ q => q.elim) (fun v h' q => ?_)
  obtain ⟨q, rfl, hq, rfl⟩ := q
  exact z_areturn hY eJ7_copyOfRange_39247_16 ⟨_, rfl, Or.inr ⟨_, rfl⟩⟩ (by rw [hφ]; exact ⟨q, rfl, hq, rfl⟩) (by rw [hmc, hms]; omega)
/-- a text made of the builder's -/
abbrev stP (H : z_H) (s : Nat) (n : Int) (f : Int → Int) : Option Value → z_H → Prop := fun v H' => v = none ∧ ∃ (q n1 : Nat) (g : Int → Int), (n1 : Int) = n ∧ H' s = some (z_ob 11 [.ref q, z_i 0, z_i 0, z_i 0]) ∧ H' q = some (z_ya n1 g) ∧ (∀ i, 0 ≤ i → i < n → g i = f i ∧ -128 ≤ g i ∧ g i ≤ 127) ∧ ∀ x c, H x = some c → x ≠ s → H' x = some c
theorem st_init2 {s : Nat} (hG : z_OK G) (hS : z_SBs G) (hs : sbS H b a n f) (hn : n ≤ 15) (ho : H s = some (z_ob 11 [.null, z_i 0, z_i 0, z_i 0])) : z_T G mJ0_init_db425 [.ref s, .ref b, .null] H 4 1 15 (stP H s n f) z_no := by
  have hs' := hs
  obtain ⟨ml, N, g, h1, h2, h3, h4, h5, h6, h7, h8, h9⟩ := hs'
  have hsb : b ≠ s := fun e => by
    rw [e, ho] at h1
    have z : (11 : Nat) = 10 := congrArg (fun q : Option va_E => match q with | some (Sum.inr o) => o.1 | _ => 0) h1
    omega
  have hsa : a ≠ s := fun e => by
    rw [e, ho] at h2
    have z : (1 : Nat) = 0 := congrArg (fun q : Option va_E => match q with | some (Sum.inr _) => 1 | _ => 0) h2
    omega
  obtain ⟨n1, hn1⟩ : ∃ n1 : Nat, (n1 : Int) = n := ⟨n.toNat, Int.toNat_of_nonneg h5⟩
  subst hn1
  refine z_T_of hG pJ0_init_db425 (Nat.le_of_ble_eq_true rfl) (ls0 := [(0, .ref s), (1, .ref b), (2, .null)]) rfl fun Y hY hg hmc hms hφ hψ => ?_
  subst hg
  refine z_aload hY eJ0_init_db425_0 0 rfl ?_
  refine z_objInit hY eJ0_init_db425_1 ⟨wOI, wOC⟩ (Nat.le_of_ble_eq_true rfl) ?_
  refine z_aload hY eJ0_init_db425_4 1 rfl ?_
  refine z_callUr (As := []) (rest := []) (r := .ref a) hY eJ0_init_db425_5 (sq_getValue hG h1) h1 (by decide) (Nat.le_of_ble_eq_true rfl) (by rw [hmc, hms]; omega) ?_
  refine z_astore hY eJ0_init_db425_8 (ls' := [(3, .ref a), (0, .ref s), (1, .ref b), (2, .null)]) rfl ?_
  refine z_aload hY eJ0_init_db425_9 2 rfl ?_
  refine z_callLen hY eJ0_init_db425_10 rfl hs (by decide) (Nat.le_of_ble_eq_true rfl) (by rw [hmc, hms]; omega) ?_
  refine z_istore hY eJ0_init_db425_13 (ls' := [(4, z_i n1), (3, .ref a), (0, .ref s), (1, .ref b), (2, .null)]) rfl ?_
  refine z_aload hY eJ0_init_db425_15 3 rfl ?_
  refine z_callUr (As := []) (rest := []) (r := z_i 1) hY eJ0_init_db425_16 (sq_isLatin1 hG hS h1) h1 (by decide) (Nat.le_of_ble_eq_true rfl) (by rw [hmc, hms]; omega) ?_
  refine z_ifeq hY eJ0_init_db425_19 (by decide) (fun c => absurd c (by decide)) (fun _ => ?_)
  refine z_aload hY eJ0_init_db425_22 2 rfl ?_
  refine z_const hY eJ0_init_db425_23 ?_
  refine z_putfinal hY rfl eJ0_init_db425_24 ho (z_nb (by decide) (by decide)) (z_f8 (by decide) (by decide)) (show 1 < 4 by decide) ?_
  refine z_aload hY eJ0_init_db425_27 2 rfl ?_
  refine z_aload hY eJ0_init_db425_28 1 rfl ?_
  refine z_const hY eJ0_init_db425_29 ?_
  refine z_iload hY eJ0_init_db425_30 0 rfl ?_
  refine z_callS (As := [.ref a, z_i 0, z_i n1]) (rest := [.ref s]) hY eJ0_init_db425_32 (sq_range hG ((z_set_ne hsa).trans h2) (by omega) h9) (by decide) (Nat.le_of_ble_eq_true rfl) (by rw [hmc, hms]; omega) (fun _ _ q => q.elim) (fun v h' q => ?_)
  obtain ⟨q, rfl, hq, rfl⟩ := q
  have hqs : s ≠ q := fun e => by rw [← e, z_set_at] at hq; cases hq
  refine z_putfinal hY rfl eJ0_init_db425_35 ((z_set_ne hqs).trans ((z_set_ne hqs).trans z_set_at)) rfl rfl (show 0 < 4 by decide) ?_
  refine z_goto hY eJ0_init_db425_38 ?_
  refine z_return hY eJ0_init_db425_97 rfl ?_ (by rw [hmc, hms]; omega)
  rw [hφ]
  refine ⟨rfl, q, n1, z_cpY g (fun _ => 0) 0 0 n1, rfl, z_set_at, (z_set_ne (Ne.symm hqs)).trans z_set_at, fun i i0 i1 => ?_, fun x cc hx hxs => ?_⟩
  · unfold z_cpY
    rw [if_pos (by omega), show (0 : Int) + (i - 0) = i by omega]
    exact ⟨h3 i i0 (by omega), h9 i i0 (by omega)⟩
  · have hxq : x ≠ q := fun e => by rw [z_set_ne (e ▸ hxs), ← e, hx] at hq; cases hq
    rw [z_set_ne hxs, z_set_ne hxq, z_set_ne hxq, z_set_ne hxs]; exact hx
theorem st_init1 {s : Nat} (hG : z_OK G) (hS : z_SBs G) (hs : sbS H b a n f) (hn : n ≤ 15) (ho : H s = some (z_ob 11 [.null, z_i 0, z_i 0, z_i 0])) : z_T G mJ0_init_81219 [.ref s, .ref b] H 5 1 15 (stP H s n f) z_no := by
  refine z_T_of hG pJ0_init_81219 (Nat.le_of_ble_eq_true rfl) (ls0 := [(0, .ref s), (1, .ref b)]) rfl fun Y hY hg hmc hms hφ hψ => ?_
  subst hg
  refine z_aload hY eJ0_init_81219_0 0 rfl ?_
  refine z_aload hY eJ0_init_81219_1 1 rfl ?_
  refine z_null hY eJ0_init_81219_2 ?_
  refine z_callI (As := [.ref b, .null]) (b := s) (rest := []) hY eJ0_init_81219_3 (st_init2 hG hS hs hn ho) (by decide) (Nat.le_of_ble_eq_true rfl) (by rw [hmc, hms]; omega) (fun _ _ q => q.elim) (fun v h' q => ?_)
  obtain ⟨rfl, q⟩ := q
  exact z_return hY eJ0_init_81219_6 rfl (by rw [hφ]; exact ⟨rfl, q⟩) (by rw [hmc, hms]; omega)
theorem sb_str (hG : z_OK G) (hSB : z_SB G) (hs : sbS H b a n f) (hn : n ≤ 15) : z_T G mJ4_toString_0e30d [.ref b] H 8 2 220 (fun v H' => ∃ s, v = some (.ref s) ∧ H s = none ∧ sbT G H' s n f ∧ ∀ x c, H x = some c → H' x = some c) z_no := by
  have hs' := hs
  obtain ⟨ml, N, g, h1, h2, h3, h4, h5, h6, h7, h8, h9⟩ := hs'
  refine z_T_of hG pJ4_toString_0e30d (Nat.le_of_ble_eq_true rfl) (ls0 := [(0, .ref b)]) rfl fun Y hY hg hmc hms hφ hψ => ?_
  subst hg
  refine z_new hY eJ4_toString_0e30d_0 (by rw [hmc, hms]; omega) (fun s hsn => ?_)
  have hsb : b ≠ s := fun e => by rw [e, hsn] at h1; cases h1
  have hsa : a ≠ s := fun e => by rw [e, hsn] at h2; cases h2
  have hs2 : sbS (z_set H s (z_ob 11 [.null, z_i 0, z_i 0, z_i 0])) b a n f := ⟨ml, N, g, (z_set_ne hsb).trans h1, (z_set_ne hsa).trans h2, h3, h4, h5, h6, h7, h8, h9⟩
  refine z_dup hY eJ4_toString_0e30d_3 rfl ?_
  refine z_aload hY eJ4_toString_0e30d_4 0 rfl ?_
  refine z_callI (As := [.ref b]) (b := s) (rest := [.ref s]) hY eJ4_toString_0e30d_5 (st_init1 hG hSB.1 hs2 hn z_set_at) (by decide) (Nat.le_of_ble_eq_true rfl) (by rw [hmc, hms]; omega) (fun _ _ q => q.elim) (fun v h' q => ?_)
  obtain ⟨rfl, q, n1, g1, e1, e2, e3, e4, e5⟩ := q
  refine z_areturn hY eJ4_toString_0e30d_8 ⟨_, rfl, Or.inl ⟨_, rfl⟩⟩ ?_ (by rw [hmc, hms]; omega)
  rw [hφ]
  refine ⟨s, rfl, hsn, ⟨q, n1, g1, e1, e4, Or.inl ⟨_, _, e2, e3⟩⟩, fun x c hx => ?_⟩
  have hxs : x ≠ s := fun e => by rw [e, hsn] at hx; cases hx
  exact e5 x c ((z_set_ne hxs).trans hx) hxs
end LVQ
