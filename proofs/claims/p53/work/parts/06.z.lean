/-! THE WALK: calls and throws. -/
section ZN
/-- what the tables say of a method that is called: n parameters -/
def z_mt (M : z_M) (n : Nat) : Prop := Cond.code M.1 M.2.1 M.2.2.1 M.2.2.2 ∈ lw_tbl ∧ Cond.initialized M.1.cls ∈ lw_tbl ∧ (M.1.cls ≠ "java/lang/invoke/MethodHandle" ∧ M.1.cls ≠ "java/lang/invoke/VarHandle") ∧ (parseMethodDescriptor M.1.desc).map (fun d => d.parameters.length) = some n ∧ M.2.2.1 ≤ 31
/-- a virtual method, called at an object of its own class, kind ci -/
def z_mv (M : z_M) (ci : Nat) : Prop := Cond.instanceMethod M.1 ∈ lw_tbl ∧ Cond.selects M.1.cls M.1 M.1 ∈ lw_tbl ∧ ∃ q : u_T × Nat, z_cl[ci]? = some (M.1.cls, q.1, q.2)
def z_lk (own : String) (ix : Nat) (y : MethodName) : Prop := Cond.methodLink own ix y ∈ lw_tbl ∨ ∃ host : String, Cond.methodLinkNest own ix y host ∈ lw_tbl
section R1
variable {p : Program} {l : Launch} {e : Env} {R : Room} {s : State} {m : MethodId} {args : Array Value} {below : List Frame} {meth : Method} {c : Code} {H : Heap} {locs : List Loc} {cells slots : Nat}
theorem z_cb {G : z_G} {M : z_M} {own : String} {ix n d d' mc ms mc1 ms1 : Nat} (hG : z_OK G) (hW : G.2.1.WarmedH s.vm) (hm : z_mt M n) (hd : d' < d) (hl : Cond.methodLink own ix M.1 ∈ lw_tbl) : CallB (z_rm d mc ms) s args own ix M.1 M.2.1 M.2.2.1 M.2.2.2 (z_ws M) (z_rm d' mc1 ms1) mc1 ms1 n := by
  obtain ⟨h1, h2, h3, h4, h5⟩ := hm
  refine ⟨rfl, rfl, ?_, ?_, fun w hw a' U hU => ?_, List.mem_singleton.mpr rfl, z_wd hG hW h1 rfl, z_wd hG hW h2 rfl, h3, fun sig hs => ?_, z_wd hG hW hl rfl⟩
  · show 7 + d' + 1 ≤ 7 + d
    omega
  · show 8 + (M.2.2.1 + 11) + (110 + 50 * d') ≤ 110 + 50 * d
    omega
  · rw [List.mem_singleton.mp hw]
    exact word_at hU (Or.inl rfl) (z_wd (args := args) hG hW h1 rfl)
  · rw [hs] at h4
    exact (Option.some.inj h4).symm
theorem z_cn {G : z_G} {M : z_M} {own host : String} {ix n d d' mc ms mc1 ms1 : Nat} (hG : z_OK G) (hW : G.2.1.WarmedH s.vm) (hm : z_mt M n) (hd : d' < d) (hl : Cond.methodLinkNest own ix M.1 host ∈ lw_tbl) : va_CN (z_rm d mc ms) s args own ix M.1 host M.2.1 M.2.2.1 M.2.2.2 (z_ws M) (z_rm d' mc1 ms1) mc1 ms1 n := by
  obtain ⟨h1, h2, h3, h4, h5⟩ := hm
  refine ⟨⟨rfl, rfl, ?_, ?_, fun w hw a' U hU => ?_, List.mem_singleton.mpr rfl⟩, z_wd hG hW h1 rfl, z_wd hG hW h2 rfl, h3, fun sig hs => ?_, va_Nw.use rfl (z_wdM hG hW hl)⟩
  · show 7 + d' + 1 ≤ 7 + d
    omega
  · show 8 + (M.2.2.1 + 11) + (110 + 50 * d') ≤ 110 + 50 * d
    omega
  · rw [List.mem_singleton.mp hw]
    exact word_at hU (Or.inl rfl) (z_wd (args := args) hG hW h1 rfl)
  · rw [hs] at h4
    exact (Option.some.inj h4).symm
theorem z_blind {G : z_G} {As : List Value} {h : z_H} : FrameBlind (z_Pc G As h) := fun a U g mk hq => hq
/-- behind a call -/
theorem z_run {G : z_G} {H : Heap} {locs : List Loc} {nL mc ms mc1 ms1 k n pc d : Nat} {lsA : Array Slot} {ls : List (Nat × Value)} {st0 rest : List Value} {φ φ1 : Option Value → z_H → Prop} {ψ ψ1 : String → z_H → Prop} {a : Array Value} {M : z_M}
    (hY : z_ok (G, (p, e, R, s, m, args, below, meth, c), nL, mc, ms, φ, ψ) d M)
    (hr : vx_Run p G.1 e R s m args below meth c H locs k n mc1 ms1 (F0 m pc lsA st0) rest (z_Qc G φ1 a) (z_XC G ψ1) (z_A G)) (hL : ∀ q ∈ locs, z_b G ≤ q.base) (hl : lv_has lsA nL ls) (hc : k + mc1 ≤ mc ∧ n + ms1 ≤ ms)
    (kx : ∀ (E : String) (h' : z_H), ψ1 E h' → ψ E h')
    (kk : ∀ (v : Option Value) (h' : z_H), φ1 v h' → z_W (G, (p, e, R, s, m, args, below, meth, c), nL, mc, ms, φ, ψ) (pc + 3) ls (v.toList ++ rest) h' (k + mc1) (n + ms1)) :
    W p G.1 e R s m args below meth c H locs k n (vx_MQ below (z_Qc G φ) (z_XC G ψ) args s mc ms (z_A G)) (F0 m pc lsA st0) := by
  obtain ⟨hG, hx, hb, -, -, -, -, hlocks, hW, hno, -⟩ := hY
  intro T hT X
  rcases hr T hT X with ⟨v, st₀, t, T', L, h0, X', hL1, e1, e2, ⟨v', h', hv, hφ, hR'⟩, stp⟩ | ⟨q, st₀, t, T', L, E, ce, h0, X', hL1, e1, e2, ⟨h', hψ, hR'⟩, hce, hcv, hcl, stp⟩
  · cases hv
    obtain ⟨t2, a1, b1⟩ := kk v h' hφ T'.heap (locs ++ L) lsA (by rw [e1]; exact hR') (fun q hq => by
      rcases List.mem_append.mp hq with g | g
      · exact hL q g
      · exact hL1 q g) hl T' rfl X'
    exact ⟨t2, stp t2 a1, b1⟩
  · have hout : vx_W p G.1 e R s m args below meth c T'.heap (locs ++ L) (k + mc1) (n + ms1) (vx_MQ below (z_Qc G φ) (z_XC G ψ) args s mc ms (z_A G)) (F0 m pc lsA rest) q :=
      vx_out (fun x hx => (hno E h' (kx E h' hψ) x hx).elim) hlocks (by rw [e1]; exact hce) hcv hcl (fun t9 ht9 _ => ⟨h', kx E h' hψ, by rw [ht9, e1]; exact hR'⟩) (fun z hz => by
        rcases List.mem_append.mp hz with g | g
        · exact hL z g
        · exact hL1 z g) hc.1 hc.2
    obtain ⟨t2, a1, b1⟩ := hout T' rfl X'
    exact ⟨t2, stp.trans a1, b1⟩
end R1
variable {Y : z_Y} {d : Nat} {M M' : z_M} {pc pc' : Nat} {ls ls' : List (Nat × Value)} {rest : List Value} {h : z_H} {k n : Nat}
theorem z_callV {ix b ci d1 mc1 ms1 : Nat} {As : List Value} {fs : List Value} {φ1 : Option Value → z_H → Prop} {ψ1 : String → z_H → Prop} (hY : z_ok Y d M) (dd : z_at M pc (.invokevirtual ix) 3 pc' ∧ z_lk M.1.cls ix M'.1 ∧ z_mt M' As.length ∧ z_mv M' ci) (ht : z_T (z_gg Y) M' (.ref b :: As) h d1 mc1 ms1 φ1 ψ1) (hb : h b = some (z_ob ci fs)) (hd : d1 < d) (hrest : (rest.map fun v => v.category).sum ≤ 8) (hc : k + mc1 ≤ z_mc Y ∧ n + ms1 ≤ z_ms Y)
    (kx : ∀ (E : String) (h' : z_H), ψ1 E h' → z_ψ Y E h') (kk : ∀ (v : Option Value) (h' : z_H), φ1 v h' → z_W Y pc' ls (v.toList ++ rest) h' (k + mc1) (n + ms1)) : z_W Y pc ls (As.reverse ++ .ref b :: rest) h k n := by
  obtain ⟨G, ⟨p, e, R, s, m, args, below, meth, c⟩, nL, mc, ms, φ, ψ⟩ := Y
  have hY' := hY
  obtain ⟨hG, hx, hbc, hml, hnl, hown, -, -, hW, -, hRm, -⟩ := hY
  obtain ⟨⟨d2, rfl⟩, hlk, hm, w1, w2, ⟨T, N⟩, hcl⟩ := dd
  subst hRm
  intro H locs lsA hR hL hlv
  have hrec := va_recv (z_K hG hW) (hR.at hb) (ci := ci) (q0 := 0) hcl rfl
  have hp : PreV s H M'.1.cls b (z_Pc G (.ref b :: As) h) As := ⟨z_blind, hrec, fun U hU hWU => ⟨rfl, by rw [hU]; exact hR, State.WarmedH.trans hW hWU⟩⟩
  rcases hlk with hlk | ⟨host, hlk⟩
  · exact z_run hY' (vx_runV (Ts := []) ⟨hx, hbc, hml, hown, fun w hw => by cases hw⟩ ht ⟨z_cb hG hW hm hd hlk, z_wd hG hW w1 rfl, z_wd hG hW w2 rfl⟩ hp rfl rfl hlv.1 rfl (lv_room hrest) d2 hc) hL hlv hc kx kk
  · exact z_run hY' (vx_runVN (Ts := []) ⟨hx, hbc, hml, hown, fun w hw => by cases hw⟩ ht ⟨z_cn hG hW hm hd hlk, z_wd hG hW w1 rfl, z_wd hG hW w2 rfl⟩ hp rfl rfl hlv.1 rfl (lv_room hrest) d2 hc) hL hlv hc kx kk
theorem z_callS {ix d1 mc1 ms1 : Nat} {As : List Value} {φ1 : Option Value → z_H → Prop} {ψ1 : String → z_H → Prop} (hY : z_ok Y d M) (dd : z_at M pc (.invokestatic ix) 3 pc' ∧ z_lk M.1.cls ix M'.1 ∧ z_mt M' As.length ∧ Cond.static M'.1 ∈ lw_tbl) (ht : z_T (z_gg Y) M' As h d1 mc1 ms1 φ1 ψ1) (hd : d1 < d) (hrest : (rest.map fun v => v.category).sum ≤ 8) (hc : k + mc1 ≤ z_mc Y ∧ n + ms1 ≤ z_ms Y)
    (kx : ∀ (E : String) (h' : z_H), ψ1 E h' → z_ψ Y E h') (kk : ∀ (v : Option Value) (h' : z_H), φ1 v h' → z_W Y pc' ls (v.toList ++ rest) h' (k + mc1) (n + ms1)) : z_W Y pc ls (As.reverse ++ rest) h k n := by
  obtain ⟨G, ⟨p, e, R, s, m, args, below, meth, c⟩, nL, mc, ms, φ, ψ⟩ := Y
  have hY' := hY
  obtain ⟨hG, hx, hbc, hml, hnl, hown, -, -, hW, -, hRm, -⟩ := hY
  obtain ⟨⟨d2, rfl⟩, hlk, hm, w1⟩ := dd
  subst hRm
  intro H locs lsA hR hL hlv
  have hp : PreS s H (z_Pc G As h) As := ⟨z_blind, fun U hU hWU => ⟨rfl, by rw [hU]; exact hR, State.WarmedH.trans hW hWU⟩⟩
  rcases hlk with hlk | ⟨host, hlk⟩
  · exact z_run hY' (vx_runS (Ts := []) ⟨hx, hbc, hml, hown, fun w hw => by cases hw⟩ ht ⟨z_cb hG hW hm hd hlk, z_wd hG hW w1 rfl⟩ hp rfl rfl hlv.1 rfl (lv_room hrest) d2 hc) hL hlv hc kx kk
  · exact z_run hY' (vx_runSN (Ts := []) ⟨hx, hbc, hml, hown, fun w hw => by cases hw⟩ ht ⟨z_cn hG hW hm hd hlk, z_wd hG hW w1 rfl, trivial⟩ hp rfl rfl hlv.1 rfl (lv_room hrest) d2 hc) hL hlv hc kx kk
theorem z_callI {ix b d1 mc1 ms1 : Nat} {As : List Value} {φ1 : Option Value → z_H → Prop} {ψ1 : String → z_H → Prop} (hY : z_ok Y d M) (dd : z_at M pc (.invokespecial ix) 3 pc' ∧ z_lk M.1.cls ix M'.1 ∧ z_mt M' As.length ∧ (M'.1.name = "<init>" ∧ M'.2.2.2 = none) ∧ Cond.instanceMethod M'.1 ∈ lw_tbl) (ht : z_T (z_gg Y) M' (.ref b :: As) h d1 mc1 ms1 φ1 ψ1) (hd : d1 < d) (hrest : (rest.map fun v => v.category).sum ≤ 8) (hc : k + mc1 ≤ z_mc Y ∧ n + ms1 ≤ z_ms Y)
    (kx : ∀ (E : String) (h' : z_H), ψ1 E h' → z_ψ Y E h') (kk : ∀ (v : Option Value) (h' : z_H), φ1 v h' → z_W Y pc' ls (v.toList ++ rest) h' (k + mc1) (n + ms1)) : z_W Y pc ls (As.reverse ++ .ref b :: rest) h k n := by
  obtain ⟨G, ⟨p, e, R, s, m, args, below, meth, c⟩, nL, mc, ms, φ, ψ⟩ := Y
  have hY' := hY
  obtain ⟨hG, hx, hbc, hml, hnl, hown, -, -, hW, -, hRm, -⟩ := hY
  obtain ⟨⟨d2, rfl⟩, hlk, hm, ⟨w0, wr⟩, w1⟩ := dd
  subst hRm
  intro H locs lsA hR hL hlv
  have hp : PreS s H (z_Pc G (.ref b :: As) h) (.ref b :: As) := ⟨z_blind, fun U hU hWU => ⟨rfl, by rw [hU]; exact hR, State.WarmedH.trans hW hWU⟩⟩
  rcases hlk with hlk | ⟨host, hlk⟩
  · have cb := z_cb (args := args) (mc := mc) (ms := ms) (mc1 := mc1) (ms1 := ms1) hG hW hm hd hlk
    rw [wr] at cb
    exact z_run hY' (vx_runI (Ts := []) ⟨hx, hbc, hml, hown, fun w hw => by cases hw⟩ ht ⟨cb, w0, z_wd hG hW w1 rfl⟩ hp rfl rfl hlv.1 rfl (lv_room hrest) d2 hc) hL hlv hc kx kk
  · have cb := z_cn (args := args) (mc := mc) (ms := ms) (mc1 := mc1) (ms1 := ms1) hG hW hm hd hlk
    rw [wr] at cb
    exact z_run hY' (vx_runIN (Ts := []) ⟨hx, hbc, hml, hown, fun w hw => by cases hw⟩ ht ⟨cb, w0, z_wd hG hW w1 rfl⟩ hp rfl rfl hlv.1 rfl (lv_room hrest) d2 hc) hL hlv hc kx kk
/-- a reading call: the answer is put on the stack, the heap stays -/
theorem z_callVr {ix b ci d1 : Nat} {As : List Value} {fs : List Value} {r : Value} (hY : z_ok Y d M) (dd : z_at M pc (.invokevirtual ix) 3 pc' ∧ z_lk M.1.cls ix M'.1 ∧ z_mt M' As.length ∧ z_mv M' ci) (ht : z_Tr (z_gg Y) M' (.ref b :: As) h d1 r) (hb : h b = some (z_ob ci fs)) (hd : d1 < d) (hrest : (rest.map fun v => v.category).sum ≤ 8) (hc : k ≤ z_mc Y ∧ n ≤ z_ms Y)
    (kk : z_W Y pc' ls (r :: rest) h k n) : z_W Y pc ls (As.reverse ++ .ref b :: rest) h k n :=
  z_callV hY dd ht hb hd hrest hc (fun _ _ q => q.elim) (fun v h' q => by obtain ⟨rfl, rfl⟩ := q; exact kk)
theorem z_callSr {ix d1 : Nat} {As : List Value} {r : Value} (hY : z_ok Y d M) (dd : z_at M pc (.invokestatic ix) 3 pc' ∧ z_lk M.1.cls ix M'.1 ∧ z_mt M' As.length ∧ Cond.static M'.1 ∈ lw_tbl) (ht : z_Tr (z_gg Y) M' As h d1 r) (hd : d1 < d) (hrest : (rest.map fun v => v.category).sum ≤ 8) (hc : k ≤ z_mc Y ∧ n ≤ z_ms Y)
    (kk : z_W Y pc' ls (r :: rest) h k n) : z_W Y pc ls (As.reverse ++ rest) h k n :=
  z_callS hY dd ht hd hrest hc (fun _ _ q => q.elim) (fun v h' q => by obtain ⟨rfl, rfl⟩ := q; exact kk)
-- contracts: weaker ends, more room
theorem z_T.mono {G : z_G} {As : List Value} {d mc ms : Nat} {φ φ1 : Option Value → z_H → Prop} {ψ ψ1 : String → z_H → Prop} (ht : z_T G M As h d mc ms φ1 ψ1) (h1 : ∀ v h', φ1 v h' → φ v h') (h2 : ∀ E h', ψ1 E h' → ψ E h') : z_T G M As h d mc ms φ ψ := by
  intro p e ha hc hk s m args below hf hs hP hK
  obtain ⟨t, o, a1, a2, a3, a4⟩ := ht p e ha hc hk s m args below hf hs hP hK
  refine ⟨t, o, a1, a2, a3, ?_⟩
  rcases a4 with ⟨⟨v, h', b1, b2, b3⟩, b4⟩ | ⟨q, b1, E, ce, L, ⟨h', b2, b3⟩, b4⟩
  · exact Or.inl ⟨⟨v, h', b1, h1 v h' b2, b3⟩, b4⟩
  · exact Or.inr ⟨q, b1, E, ce, L, ⟨h', h2 E h' b2, b3⟩, b4⟩
-- throws
def z_gw (w : Cond) : Bool := goodWord w || (match w with
  | .castable _ _ => true
  | .declares _ => true
  | _ => false)
theorem z_wd2 {G : z_G} {s : State} {args : Array Value} {w : Cond} (hG : z_OK G) (hW : G.2.1.WarmedH s.vm) (hw : w ∈ lw_tbl) (hg : z_gw w = true) : w.before args s = true := by
  unfold z_gw at hg
  rw [Bool.or_eq_true] at hg
  rcases hg with hg | hg
  · exact z_wd hG hW hw hg
  · cases w <;> first | exact va_Nw.use rfl (va_Nw.warmC hW (va_Nw.of rfl (hG.2.2.1 _ hw))) | exact va_Nw.use rfl (va_Nw.warmD hW (va_Nw.of rfl (hG.2.2.1 _ hw))) | cases hg
theorem z_vxot {w : Cond} (hg : z_gw w = true) : vx_ot w = true := by
  unfold z_gw at hg
  unfold vx_ot
  rw [Bool.or_eq_true] at hg ⊢
  rcases hg with hg | hg
  · exact Or.inr hg
  · cases w <;> first | exact Or.inl rfl | cases hg
def z_th (own : String) (ik ic : Nat) (cls : String) (names : List String) : Prop := Bundle.fit cls = true ∧ (∀ n ∈ names, Bundle.fit n = true) ∧ names.length = 2 ∧ ∀ w ∈ Cond.classLink own ik cls :: Cond.initialized cls :: vx_atS own ic cls names, w ∈ lw_tbl ∧ z_gw w = true
theorem z_throw {ik is ic : Nat} {cls text : String} {names : List String} (hY : z_ok Y d M) (hth : z_th M.1.cls ik ic cls names) (hs : Cond.stringRef M.1.cls is text ∈ lw_tbl)
    (dd : (z_at M pc (.new ik) 3 (pc + 3) ∧ z_at M (pc + 3) .dup 1 (pc + 4)) ∧ ((z_at M (pc + 4) (.ldc is) 2 (pc + 6) ∧ z_at M (pc + 6) (.invokespecial ic) 3 (pc + 9) ∧ z_at M (pc + 9) .athrow 1 (pc + 10)) ∨ (z_at M (pc + 4) (.ldc_w is) 3 (pc + 7) ∧ z_at M (pc + 7) (.invokespecial ic) 3 (pc + 10) ∧ z_at M (pc + 10) .athrow 1 (pc + 11))))
    (hrest : rest = []) (hk : k + 1 ≤ z_mc Y ∧ n + 6 ≤ z_ms Y) (hψ : z_ψ Y cls h) : z_W Y pc ls rest h k n := by
  obtain ⟨G, ⟨p, e, R, s, m, args, below, meth, c⟩, nL, mc, ms, φ, ψ⟩ := Y
  obtain ⟨hG, hx, hb, hml, -, hown, -, hlocks, hW, hno, hRm, hlo, -⟩ := hY
  obtain ⟨t1, t2, t3, t4⟩ := hth
  obtain ⟨sa, hsa⟩ := hG.2.2.2.2.2.1 _ _ _ hs
  subst hRm
  subst hrest
  intro H locs lsA hR hL hlv
  have hkept : ∀ q : Nat, q < G.2.1.heap.size → ¬ z_A G q → s.heap[q]? = G.2.1.heap[q]? := fun q hq _ => hlo.2 q hq
  have hU : vx_Zq Bundle.tN "UNASSIGNED_STACK" Bundle.steD (z_A G) s s.heap := vx_Zq.moved hW.alike (hG.2.2.2.1.kept hkept)
  have hN : vx_Zq Bundle.tN "SUPPRESSED_SENTINEL" Bundle.listD (z_A G) s s.heap := vx_Zq.moved hW.alike (hG.2.2.2.2.1.kept hkept)
  have e0 : (([] : List Value).map fun v => v.category).sum = 0 := rfl
  intro Tq hTq Xq
  have hsz : s.heap.size ≤ Tq.heap.size := (vx_frame (U := Tq) Xq.same).1
  have hS : va_S (z_A G) s.heap H locs := ⟨by rw [← hTq]; exact hsz, fun q hq1 hq2 => by
    have hq3 : q < z_b G := Nat.lt_of_not_le hq2
    rw [hR.2.2 q hq3, hlo.2 q hq3], hL⟩
  rcases dd with ⟨⟨d0, d3⟩, ⟨d4, d6, d9⟩ | ⟨d4, d6, d9⟩⟩
  · exact vx_throwS hx hb hG.1 hown t1 t2 (z_wd hG hW (t4 _ List.mem_cons_self).1 rfl) (z_wd hG hW (t4 _ (List.mem_cons_of_mem _ List.mem_cons_self)).1 rfl) (vk_R.warm hW hsa)
      (fun w hw => z_wd2 hG hW (t4 w (List.mem_cons_of_mem _ (List.mem_cons_of_mem _ hw))).1 (t4 w (List.mem_cons_of_mem _ (List.mem_cons_of_mem _ hw))).2) (fun w hw => z_vxot (t4 w hw).2) hU hN hS (by rw [hml]; exact hlv.1) d0.1 d3.1 d4.1 d6.1 d9.1
      (fun x hx => (hno cls h hψ x hx).elim) (by rw [t3]; show 2 + 3 < 7 + d; omega) (by rw [t3, e0]; show 0 + (13 * (2 + 1) + 43) ≤ 110 + 50 * d; omega) hk.1 hk.2 hlocks (fun t _ z1 z2 => ⟨h, hψ, hR.grow z1 z2⟩) hL hk.1 hk.2 Tq hTq Xq
  · exact vx_throwSW hx hb hG.1 hown t1 t2 (z_wd hG hW (t4 _ List.mem_cons_self).1 rfl) (z_wd hG hW (t4 _ (List.mem_cons_of_mem _ List.mem_cons_self)).1 rfl) (vk_R.warm hW hsa)
      (fun w hw => z_wd2 hG hW (t4 w (List.mem_cons_of_mem _ (List.mem_cons_of_mem _ hw))).1 (t4 w (List.mem_cons_of_mem _ (List.mem_cons_of_mem _ hw))).2) (fun w hw => z_vxot (t4 w hw).2) hU hN hS (by rw [hml]; exact hlv.1) d0.1 d3.1 d4.1 d6.1 d9.1
      (fun x hx => (hno cls h hψ x hx).elim) (by rw [t3]; show 2 + 3 < 7 + d; omega) (by rw [t3, e0]; show 0 + (13 * (2 + 1) + 43) ≤ 110 + 50 * d; omega) hk.1 hk.2 hlocks (fun t _ z1 z2 => ⟨h, hψ, hR.grow z1 z2⟩) hL hk.1 hk.2 Tq hTq Xq
end ZN
