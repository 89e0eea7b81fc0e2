/-! THE LAW's groups: the one method with a handler (laid by wip/p53/gen/gl83.py). -/
section LV10
theorem kG_281 : (Jvm.Cond.classLink "StandingsHallLaw" (281 : Nat) "java/lang/IndexOutOfBoundsException") ∈ lw_tbl := z_in6 (List.mem_of_getElem? (i := 238) rfl)
theorem kG_cast : (Jvm.Cond.castable "java/lang/IndexOutOfBoundsException" "java/lang/IndexOutOfBoundsException") ∈ lw_tbl := z_in4 (List.mem_of_getElem? (i := 190) rfl)
def z_tb (Y : z_Y) : List ExceptionTableEntry := match Y with
  | (_, (_, _, _, _, _, _, _, _, c), _) => c.exceptionTable.toList
section
variable {Y : z_Y} {d : Nat} {M M' : z_M} {hh : List (Nat × Nat × Nat × Nat)} {pc pc' : Nat} {ls ls' : List (Nat × Value)} {st st' rest : List Value} {h : z_H} {k n : Nat}
/-- the one handler of a table takes an exception of the class E at a pc -/
def z_tk (own : String) (hh : List (Nat × Nat × Nat × Nat)) (pc : Nat) (E : String) (hpc : Nat) : Prop := ∃ (suf : List ExceptionTableEntry) (x : ExceptionTableEntry), tableOf hh = x :: suf ∧ covers x pc = true ∧ x.catchType ≠ 0 ∧ x.handlerPc = hpc ∧ Cond.classLink own x.catchType E ∈ lw_tbl ∧ Cond.castable E E ∈ lw_tbl
/-- a call whose exception the method's own handler takes -/
theorem z_callVT {ix b ci d1 mc1 ms1 : Nat} {As : List Value} {fs : List Value} {φ1 : Option Value → z_H → Prop} {ψ1 : String → z_H → Prop} (hY : z_ok Y d M) (hT : z_tb Y = tableOf hh) (dd : z_at M pc (.invokevirtual ix) 3 pc' ∧ z_lk M.1.cls ix M'.1 ∧ z_mt M' As.length ∧ z_mv M' ci) (ht : z_T (z_gg Y) M' (.ref b :: As) h d1 mc1 ms1 φ1 ψ1) (hb : h b = some (z_ob ci fs)) (hd : d1 < d) (hrest : (rest.map fun v => v.category).sum ≤ 8) (hc : k + mc1 ≤ z_mc Y ∧ n + ms1 ≤ z_ms Y)
    (kx : ∀ (E : String) (h' : z_H), ψ1 E h' → ∃ hpc : Nat, z_tk M.1.cls hh pc E hpc ∧ ∀ q : Nat, z_W Y hpc ls [.ref q] h' (k + mc1) (n + ms1)) (kk : ∀ (v : Option Value) (h' : z_H), φ1 v h' → z_W Y pc' ls (v.toList ++ rest) h' (k + mc1) (n + ms1)) : z_W Y pc ls (As.reverse ++ .ref b :: rest) h k n := by
  obtain ⟨G, ⟨p, e, R, s, m, args, below, meth, c⟩, nL, mc, ms, φ, ψ⟩ := Y
  obtain ⟨hG, hx, hbc, hml, hnl, hown, -, -, hW, -, hRm, -⟩ := hY
  have htab : c.exceptionTable.toList = tableOf hh := hT
  obtain ⟨⟨d2, rfl⟩, hlk, hm, w1, w2, ⟨T, N⟩, hcl⟩ := dd
  subst hRm
  intro H locs lsA hR hL hlv
  have hrec := va_recv (z_K hG hW) (hR.at hb) (ci := ci) (q0 := 0) hcl rfl
  have hp : PreV s H M'.1.cls b (z_Pc G (.ref b :: As) h) As := ⟨z_blind, hrec, fun U hU hWU => ⟨rfl, by rw [hU]; exact hR, State.WarmedH.trans hW hWU⟩⟩
  have fin : vx_Run p G.1 e (z_rm d mc ms) s m args below meth c H locs k n mc1 ms1 (F0 m pc lsA (As.reverse ++ .ref b :: rest)) rest (z_Qc G φ1 (.ref b :: As).toArray) (z_XC G ψ1) (z_A G) → W p G.1 e (z_rm d mc ms) s m args below meth c H locs k n (vx_MQ below (z_Qc G φ) (z_XC G ψ) args s mc ms (z_A G)) (F0 m pc lsA (As.reverse ++ .ref b :: rest)) := by
    intro hr Ts hTs X
    rcases hr Ts hTs X with ⟨v, st₀, t, T', L, h0, X', hL1, e1, e2, ⟨v', h', hv, hφ, hR'⟩, stp⟩ | ⟨q, st₀, t, T', L, E, ce, h0, X', hL1, e1, e2, ⟨h', hψ, hR'⟩, hce, hcv, hcls, stp⟩
    · cases hv
      obtain ⟨t2, a1, b1⟩ := kk v h' hφ T'.heap (locs ++ L) lsA (by rw [e1]; exact hR') (fun q hq => by
        rcases List.mem_append.mp hq with g | g
        · exact hL q g
        · exact hL1 q g) hlv T' rfl X'
      exact ⟨t2, stp t2 a1, b1⟩
    · obtain ⟨hpc, ⟨suf, x, t1, t3, t4, rfl, t7, t8⟩, kh⟩ := kx E h' hψ
      have kW : W p G.1 e (z_rm d mc ms) s m args below meth c T'.heap (locs ++ L) (k + mc1) (n + ms1) (vx_MQ below (z_Qc G φ) (z_XC G ψ) args s mc ms (z_A G)) (F0 m x.handlerPc lsA [.ref q]) := kh q T'.heap (locs ++ L) lsA (by rw [e1]; exact hR') (fun z hz => by
        rcases List.mem_append.mp hz with g | g
        · exact hL z g
        · exact hL1 z g) hlv
      have hcat : vx_W p G.1 e (z_rm d mc ms) s m args below meth c T'.heap (locs ++ L) (k + mc1) (n + ms1) (vx_MQ below (z_Qc G φ) (z_XC G ψ) args s mc ms (z_A G)) (F0 m pc lsA rest) q :=
        vx_catch (own := M.1.cls) (name := E) hown [] x suf (htab.trans t1) (fun z hz => by cases hz) t3 t4 (z_wd hG hW t7 rfl) (z_wd2 hG hW t8 rfl) (by rw [e1]; exact hce) hcv hcls kW
      obtain ⟨t2', a1, b1⟩ := hcat T' rfl X'
      exact ⟨t2', stp.trans a1, b1⟩
  rcases hlk with hlk | ⟨host, hlk⟩
  · exact fin (vx_runV (Ts := []) ⟨hx, hbc, hml, hown, fun w hw => by cases hw⟩ ht ⟨z_cb hG hW hm hd hlk, z_wd hG hW w1 rfl, z_wd hG hW w2 rfl⟩ hp rfl rfl (by rw [hnl] at hlv ⊢; exact hlv.1) rfl (lv_room hrest) d2 hc)
  · exact fin (vx_runVN (Ts := []) ⟨hx, hbc, hml, hown, fun w hw => by cases hw⟩ ht ⟨z_cn hG hW hm hd hlk, z_wd hG hW w1 rfl, z_wd hG hW w2 rfl⟩ hp rfl rfl (by rw [hnl] at hlv ⊢; exact hlv.1) rfl (lv_room hrest) d2 hc)
def z_wsH (M : z_M) (hh : List (Nat × Nat × Nat × Nat)) : List Cond := [Cond.codeWith M.1 M.2.1 M.2.2.1 M.2.2.2 hh]
/-- a contract of a method with a table -/
def z_TH (G : z_G) (M : z_M) (hh : List (Nat × Nat × Nat × Nat)) (As : List Value) (h : z_H) (d mc ms : Nat) (φ : Option Value → z_H → Prop) : Prop :=
  vx_Met G.1 M.1 (z_wsH M hh) (z_rm d mc ms) (z_Pc G As h) (z_Qc G φ) (z_XC G z_no) mc ms (z_A G)
theorem z_TH_of {G : z_G} {As : List Value} {ls0 : List (Nat × Value)} {mc ms : Nat} {φ : Option Value → z_H → Prop} (hG : z_OK G) (hpl : plainName M.1.cls = true) (hn : (lg_sl As).length ≤ M.2.2.1) (hls : lv_args 0 As = ls0)
    (body : ∀ Y : z_Y, z_ok Y d M → z_tb Y = tableOf hh → z_gg Y = G → z_mc Y = mc → z_ms Y = ms → z_φ Y = φ → z_ψ Y = z_no → z_W Y 0 ls0 [] h 0 0) : z_TH G M hh As h d mc ms φ := by
  refine vx_ofWH (cc := M.2.1) (maxL := M.2.2.1) (ret := M.2.2.2) (hh := hh) hpl rfl ?_
  intro p e s m args below meth c s₁ B hml hv
  obtain ⟨rfl, hR, hW⟩ := hv
  have hlo : z_lo G s := ⟨hR.2.1, hR.2.2⟩
  have hown : s.vm.findClass M.1.cls = some m.cls := findClass_of_methodNamed B.named
  have htab : c.exceptionTable.toList = tableOf hh := vx_table (x := M.1) B (atoms_spec (ws := z_wsH M hh) B.pre _ List.mem_cons_self)
  have Kb := body (G, (p, e, z_rm d mc ms, s, m, As.toArray, below, meth, c), M.2.2.1, mc, ms, φ, z_no)
    ⟨hG, B.exec, B.bytes, hml, rfl, hown, B.returns, B.notSynchronized, hW, (fun _ _ q => q.elim), rfl, hlo, (name_of_methodNamed B.named B.method).1⟩ htab rfl rfl rfl rfl rfl
  have hl := lv_entry As hn
  rw [lg_entry_eq]
  refine Kb s.heap [] _ hR (fun q hq => by cases hq) ?_
  rw [← hls]
  exact hl
/-- a call of a method with a table -/
theorem z_callVH {ix b ci d1 mc1 ms1 : Nat} {As : List Value} {fs : List Value} {φ1 : Option Value → z_H → Prop} (hY : z_ok Y d M) (dd : z_at M pc (.invokevirtual ix) 3 pc' ∧ Cond.methodLink M.1.cls ix M'.1 ∈ lw_tbl ∧ z_mtH M' hh As.length ∧ z_mv M' ci) (ht : z_TH (z_gg Y) M' hh (.ref b :: As) h d1 mc1 ms1 φ1) (hb : h b = some (z_ob ci fs)) (hd : d1 < d) (hrest : (rest.map fun v => v.category).sum ≤ 8) (hc : k + mc1 ≤ z_mc Y ∧ n + ms1 ≤ z_ms Y)
    (kk : ∀ (v : Option Value) (h' : z_H), φ1 v h' → z_W Y pc' ls (v.toList ++ rest) h' (k + mc1) (n + ms1)) : z_W Y pc ls (As.reverse ++ .ref b :: rest) h k n := by
  obtain ⟨G, ⟨p, e, R, s, m, args, below, meth, c⟩, nL, mc, ms, φ, ψ⟩ := Y
  have hY' := hY
  obtain ⟨hG, hx, hbc, hml, hnl, hown, -, -, hW, -, hRm, -⟩ := hY
  obtain ⟨⟨d2, rfl⟩, hlk, ⟨h1, h2, h3, h4, h5⟩, w1, w2, ⟨T, N⟩, hcl⟩ := dd
  subst hRm
  intro H locs lsA hR hL hlv
  have hrec := va_recv (z_K hG hW) (hR.at hb) (ci := ci) (q0 := 0) hcl rfl
  have hp : PreV s H M'.1.cls b (z_Pc G (.ref b :: As) h) As := ⟨z_blind, hrec, fun U hU hWU => ⟨rfl, by rw [hU]; exact hR, State.WarmedH.trans hW hWU⟩⟩
  refine z_run hY' (vx_runVX (hh := hh) (Ts := []) (n := As.length) ⟨hx, hbc, hml, hown, fun w hw => by cases hw⟩ ht ⟨⟨rfl, rfl, ?_, ?_, fun w hw a' U hU => ?_, List.mem_singleton.mpr rfl⟩, z_wd hG hW h1 rfl, z_wd hG hW h2 rfl, h3, fun sig hs => ?_, z_wd hG hW hlk rfl, z_wd hG hW w1 rfl, z_wd hG hW w2 rfl⟩ hp rfl rfl hlv.1 rfl (lv_room hrest) d2 hc) hL hlv hc (fun _ _ q => q.elim) kk
  · show 7 + d1 + 1 ≤ 7 + d
    omega
  · show 8 + (M'.2.2.1 + 11) + (110 + 50 * d1) ≤ 110 + 50 * d
    omega
  · rw [List.mem_singleton.mp hw]
    exact word_at hU (Or.inl rfl) (z_wd (args := args) hG hW h1 rfl)
  · rw [hs] at h4
    exact (Option.some.inj h4).symm
end
theorem tk_areGroups : z_tk mL_areGroups.1.cls hL_areGroups 24 "java/lang/IndexOutOfBoundsException" 32 := ⟨[], ⟨18, 29, 32, 281⟩, rfl, by decide, by decide, rfl, kG_281, kG_cast⟩
/-- a row in order of what is there -/
theorem jS_ex {lt : Int → Int → Prop} {P : Int → Prop} (hO : jO lt) (hT : ∀ a b, P a → P b → a ≠ b → lt a b ∨ lt b a) : ∀ m : Int, 0 ≤ m → ∃ (l : Int → Int) (n : Int), jS lt (fun x => P x ∧ 0 ≤ x ∧ x < m) l n := by
  refine jn_ind ?_ ?_
  · exact ⟨fun _ => 0, 0, by omega, fun i _ _ => by omega, fun i j _ _ _ => by omega, fun e q => by have := q.2; omega⟩
  · intro m h0 ⟨l, n, hS⟩
    by_cases c : P m
    · have key : ∀ b : Int, 0 ≤ b → b ≤ n → (∀ i, b ≤ i → i < n → lt m (l i)) → ∃ w, (0 ≤ w ∧ w ≤ n) ∧ (∀ i, 0 ≤ i → i < w → lt (l i) m) ∧ ∀ i, w ≤ i → i < n → lt m (l i) := by
        refine jn_ind (P := fun b => b ≤ n → (∀ i, b ≤ i → i < n → lt m (l i)) → ∃ w, (0 ≤ w ∧ w ≤ n) ∧ (∀ i, 0 ≤ i → i < w → lt (l i) m) ∧ ∀ i, w ≤ i → i < n → lt m (l i)) ?_ ?_
        · exact fun a b => ⟨0, by omega, fun i _ _ => by omega, b⟩
        · intro b b0 ih bn hb
          have hq := hS.2.1 b b0 (by omega)
          rcases hT (l b) m hq.1 c (by omega) with z | z
          · refine ⟨b + 1, by omega, fun i i0 i1 => ?_, hb⟩
            by_cases c2 : i = b
            · rw [c2]; exact z
            · exact hO.2 _ _ _ (hS.2.2.1 i b i0 (by omega) (by omega)) z
          · refine ih (by omega) (fun i i0 i1 => ?_)
            by_cases c2 : i = b
            · rw [c2]; exact z
            · exact hb i (by omega) i1
      obtain ⟨w, hw, w1, w2⟩ := key n hS.1 (Int.le_refl _) (fun i _ _ => by omega)
      refine ⟨_, n + 1, jS_in hS hw w1 w2 (fun x => ⟨fun q => ?_, fun q => ?_⟩)⟩
      · by_cases c2 : x = m
        · exact Or.inr c2
        · exact Or.inl ⟨q.1, by have := q.2; omega⟩
      · rcases q with q | rfl
        · exact ⟨q.1, by have := q.2; omega⟩
        · exact ⟨c, by omega⟩
    · exact ⟨l, n, jS_cg hS rfl (fun _ _ _ => rfl) (fun x => ⟨fun q => ⟨q.1, by
        have : x ≠ m := fun z => c (z ▸ q.1)
        have := q.2
        omega⟩, fun q => ⟨q.1, by have := q.2; omega⟩⟩) (fun _ _ _ _ q => q)⟩
section
variable {t : Nat} {m : Int} {o : Prop} {B : Nat → Int → Nat} {κ : c_K} {A : Nat → Nat} {ρ σ : z_S}
abbrev gO (κ : c_K) (x g : Int) : Prop := cTs κ x < cTs κ g ∨ (cTs κ x = cTs κ g ∧ cFi κ x < cFi κ g)
theorem fi_s (κ : c_K) (g : Int) : (cFi κ g = -1 ∧ ∀ i, 0 ≤ i → i < κ 24 1 0 → κ 35 (κ 20 1 i) 0 ≠ g) ∨ (1 ≤ cFi κ g ∧ cFi κ g ≤ κ 24 1 0 ∧ κ 35 (κ 20 1 (cFi κ g - 1)) 0 = g ∧ ∀ i, 0 ≤ i → i < cFi κ g - 1 → κ 35 (κ 20 1 i) 0 ≠ g) := by
  unfold cFi
  rcases z_ff_s (fun i => κ 35 (κ 20 1 i) 0 = g) (κ 24 1 0) with ⟨a, b⟩ | ⟨a, b, c, d⟩
  · rw [if_pos a]; exact Or.inl ⟨rfl, b⟩
  · rw [if_neg (by omega)]
    refine Or.inr ⟨by omega, by omega, ?_, fun i i0 i1 => d i i0 (by omega)⟩
    rw [show z_ff (fun i => κ 35 (κ 20 1 i) 0 = g) (κ 24 1 0) + 1 - 1 = z_ff (fun i => κ 35 (κ 20 1 i) 0 = g) (κ 24 1 0) by omega]
    exact c
theorem ts_0 {κ : c_K} {g : Int} : ∀ (f : Nat) (i : Int), (∀ j, i ≤ j → j < i + f → κ 35 (κ 20 1 j) 0 ≠ g) → tsL κ g f i 0 0 = -1 := by
  intro f
  induction f with
  | zero => intro i _; exact if_neg (by omega)
  | succ f ih =>
    intro i hi
    show (if (0 : Int) < 3 then (if κ 35 (κ 20 1 i) 0 = g then _ else tsL κ g f (i + 1) 0 0) else _) = -1
    rw [if_pos (by omega), if_neg (hi i (by omega) (by omega))]
    exact ih (i + 1) (fun j a b => hi j (by omega) (by omega))
theorem ts_fi {κ : c_K} {g : Int} (hn : 0 ≤ κ 24 1 0) (h : cTs κ g ≠ -1) : cFi κ g ≠ -1 := fun q => by
  rcases fi_s κ g with ⟨-, b⟩ | ⟨a, -⟩
  · exact h (ts_0 _ 0 (fun j a b' => b j a (by omega)))
  · omega
/-- the groups in their order: so many have a score, the k-th lies at k -/
theorem w_gr (κ : c_K) (hn : 0 ≤ κ 24 1 0) : ∃ (l : Int → Int) (N : Int), (0 ≤ N ∧ N ≤ 5) ∧ N = z_sm (fun g => if cTs κ g ≠ -1 then (1 : Int) else 0) 5 ∧ (∀ p, 1 ≤ p → p ≤ N → cGr κ p = l (p - 1) ∧ 0 ≤ l (p - 1) ∧ l (p - 1) ≤ 4 ∧ cTs κ (l (p - 1)) ≠ -1) ∧ (∀ p, N < p → cGr κ p = -1) ∧ ∀ p, 2 ≤ p → p ≤ N → gO κ (l (p - 2)) (l (p - 1)) := by
  have hO : jO (gO κ) := ⟨fun a q => by unfold gO at q; omega, fun a b c q r => by unfold gO at q r ⊢; omega⟩
  have hfi : ∀ a b, cTs κ a ≠ -1 → cTs κ b ≠ -1 → a ≠ b → cFi κ a ≠ cFi κ b := fun a b ha hb hab q => by
    rcases fi_s κ a with ⟨z, -⟩ | ⟨-, -, z, -⟩
    · exact ts_fi hn ha z
    · rcases fi_s κ b with ⟨y, -⟩ | ⟨-, -, y, -⟩
      · exact ts_fi hn hb y
      · rw [q] at z; exact hab (z.symm.trans y)
  obtain ⟨l, N, hS⟩ := jS_ex (P := fun g => cTs κ g ≠ -1) hO (fun a b ha hb hab => by
    have := hfi a b ha hb hab
    unfold gO
    omega) 5 (by omega)
  have hP : ∀ e, (cTs κ e ≠ -1 ∧ 0 ≤ e ∧ e < 5) → 0 ≤ e ∧ e < 5 := fun e q => q.2
  have e0 := jS_num hO hS (m := 5) (by omega) hP
  have e1 : z_sm (fun g => if cTs κ g ≠ -1 ∧ 0 ≤ g ∧ g < 5 then (1 : Int) else 0) 5 = z_sm (fun g => if cTs κ g ≠ -1 then (1 : Int) else 0) 5 := jn_ct fun i i0 i1 => ⟨fun q => q.1, fun q => ⟨q, i0, i1⟩⟩
  have e2 : ∀ i, 0 ≤ i → i < N → cGh κ (l i) = i := fun i i0 i1 => by
    have e := jS_pos hO hS (m := 5) (by omega) hP (i := i) ⟨i0, i1⟩
    refine Eq.trans ?_ e
    unfold cGh
    exact jn_ct fun x x0 x1 => ⟨fun q => ⟨⟨q.1, x0, x1⟩, q.2⟩, fun q => ⟨q.1.1, q.2⟩⟩
  have hb : N ≤ 5 := by
    have := (z_sm_le (f := fun g => if cTs κ g ≠ -1 ∧ 0 ≤ g ∧ g < 5 then (1 : Int) else 0) (o := 5) (a := 0) (b := 1) (by omega) (fun i _ _ => by show (0 : Int) ≤ (if _ then _ else _) ∧ _; split <;> exact ⟨by omega, by omega⟩)).2
    omega
  have e3 : ∀ g, 0 ≤ g → g < 5 → cTs κ g ≠ -1 → ∃ i, 0 ≤ i ∧ i < N ∧ l i = g := fun g g0 g1 hg => hS.2.2.2 g ⟨hg, g0, g1⟩
  refine ⟨l, N, ⟨hS.1, hb⟩, e0.symm.trans e1, fun p p0 p1 => ?_, fun p p0 => ?_, fun p p0 p1 => hS.2.2.1 (p - 2) (p - 1) (by omega) (by omega) (by omega)⟩
  · have hq := hS.2.1 (p - 1) (by omega) (by omega)
    have hq2 := e2 (p - 1) (by omega) (by omega)
    refine ⟨?_, hq.2.1, by have := hq.2.2; omega, hq.1⟩
    unfold cGr
    rcases z_ff_s (fun g => cTs κ g ≠ -1 ∧ cGh κ g + 1 = p) 5 with ⟨a, b⟩ | ⟨a, b, c, d⟩
    · exact absurd ⟨hq.1, by omega⟩ (b (l (p - 1)) hq.2.1 hq.2.2)
    · obtain ⟨j, j0, j1, j2⟩ := e3 _ a b c.1
      have hj := e2 j j0 j1
      rw [j2] at hj
      rw [← j2, show j = p - 1 by have := c.2; omega]
  · unfold cGr
    rcases z_ff_s (fun g => cTs κ g ≠ -1 ∧ cGh κ g + 1 = p) 5 with ⟨a, b⟩ | ⟨a, b, c, d⟩
    · exact a
    · obtain ⟨j, j0, j1, j2⟩ := e3 _ a b c.1
      have hj := e2 j j0 j1
      rw [j2] at hj
      have := c.2
      omega
end
theorem la_areGroups {G : z_G} {D : Nat} {B : Nat → Int → Nat} {κ : c_K} {A : Nat → Nat} {ρ σ : z_S} {h : z_H} {t : Nat} {m : Int} {o : Prop} (hG : z_OK G) (hD : D = z_dc G) (hM : z_MI G) (hI : gS t m o B κ A ρ σ) (ho : o) : z_TH G mL_areGroups hL_areGroups [.ref (A 40)] (gH D B κ A σ h) 10 80 480 (fun v h' => ∃ (κ' : c_K) (B' : Nat → Int → Nat) (ρ' σ' : z_S) (h2 : z_H), v = some (z_i 1) ∧ gS (t) (m) o B' κ' A ρ' σ' ∧ σ' 14 0 = σ 14 0 ∧ h' = gH D B' κ' A σ' h2) := by
  refine z_TH_of hG (by decide +kernel) (Nat.le_of_ble_eq_true rfl) (ls0 := [(0, .ref (A 40))]) rfl fun Y hY hTb hg hmc hms hφ hψ => ?_
  subst hg
  have hn1 := (gS_R hI).xn1 (gS_M hI)
  have hmy := w_my (gS_j hI)
  have h14 := (gS_b hI).s14 0
  have h19 := gS_19 hI
  obtain ⟨l, N, hN, hNs, hg1, hg2, hg3⟩ := w_gr κ (by omega)
  have hN5 := hN.2
  refine z_aload hY eL_areGroups_0 0 rfl ?_
  refine z_callV (As := []) (rest := []) hY eL_areGroups_1 (la_sorts hG hI ho) ((gH_at (gS_X hI) (by decide)).trans (congrArg some lC_40)) (by decide) (Nat.le_of_ble_eq_true rfl) ⟨Nat.zero_le _, Nat.zero_le _⟩ (fun _ _ q => q.elim) (fun vv2 hh2 q2 => ?_)
  obtain ⟨σ1, rfl, ⟨hE1, hw1, hrow1⟩, rfl⟩ := q2
  have hI1 := gS_E hI hE1 hw1
  have hmy := w_my (gS_j hI)
  refine z_istore hY eL_areGroups_4 (ls' := [(1, z_i (my ρ)), (0, .ref (A 40))]) rfl ?_
  refine z_const hY eL_areGroups_5 ?_
  refine z_istore hY eL_areGroups_6 (ls' := [(2, z_i 0), (1, z_i (my ρ)), (0, .ref (A 40))]) rfl ?_
  refine z_const hY eL_areGroups_7 ?_
  refine z_istore hY eL_areGroups_8 (ls' := [(3, z_i (-1)), (2, z_i 0), (1, z_i (my ρ)), (0, .ref (A 40))]) rfl ?_
  refine z_const hY eL_areGroups_9 ?_
  refine z_istore hY eL_areGroups_10 (ls' := [(4, z_i 1), (3, z_i (-1)), (2, z_i 0), (1, z_i (my ρ)), (0, .ref (A 40))]) rfl ?_
  refine z_sub [4, 3, 0, 2, 1] (ls' := [(0, .ref (A 40)), (1, z_i (my ρ)), (4, z_i 1), (2, z_i 0), (3, z_i (-1))]) rfl ?_
  have lp12 : ∀ (fu : Nat) (p : Int) (r : Int) (last : Int), (6 - p).toNat < fu → (1 ≤ p ∧ p ≤ 6) → (r = p - 1 ∧ r ≤ N) → ((p = 1 ∧ last = -1) ∨ (2 ≤ p ∧ last = l (p - 2))) → (-1 ≤ last ∧ last ≤ 4) → z_W Y 12 [(0, .ref (A 40)), (1, z_i (my ρ)), (4, z_i p), (2, z_i r), (3, z_i last)] [] (gH D B κ A σ1 h) (9 * (p - 1).toNat) (54 * (p - 1).toNat) := by
    intro fu
    induction fu with
    | zero => intro p r last hf; exact absurd hf (Nat.not_lt_zero _)
    | succ fu ih12 =>
      intro p r last hf hp hr hl hlb
      refine z_iload hY eL_areGroups_12 2 rfl ?_
      refine z_const hY eL_areGroups_14 ?_
      refine z_icmpgt hY eL_areGroups_15 (by omega) (fun c15 => ?_) (fun c15 => ?_)
      · refine z_const hY eL_areGroups_130 ?_
        refine z_istore hY eL_areGroups_131 (ls' := [(4, z_i 0), (0, .ref (A 40)), (1, z_i (my ρ)), (2, z_i r), (3, z_i last)]) rfl ?_
        refine z_sub [1, 2, 0, 3] (ls' := [(0, .ref (A 40)), (1, z_i (my ρ)), (4, z_i 0), (2, z_i r)]) rfl ?_
        have lp133 : ∀ (fu : Nat) (g : Int) (r2 : Int), (5 - g).toNat < fu → (0 ≤ g ∧ g ≤ 5) → (r2 = N - z_sm (fun g => if cTs κ g ≠ -1 then (1 : Int) else 0) g) → (-g ≤ r2 ∧ r2 ≤ 5) → z_W Y 133 [(0, .ref (A 40)), (1, z_i (my ρ)), (4, z_i g), (2, z_i r2)] [] (gH D B κ A σ1 h) (46 + 3 * g.toNat) (276 + 18 * g.toNat) := by
          intro fu
          induction fu with
          | zero => intro g r2 hf; exact absurd hf (Nat.not_lt_zero _)
          | succ fu ih133 =>
            intro g r2 hf hg hr2 hrb
            refine z_iload hY eL_areGroups_133 2 rfl ?_
            refine z_const hY eL_areGroups_135 ?_
            refine z_icmpge hY eL_areGroups_136 (by omega) (fun c136 => ?_) (fun c136 => ?_)
            · refine z_iload hY eL_areGroups_293 3 rfl ?_
              refine z_ifne hY eL_areGroups_294 (by omega) (fun c294 => by exfalso; exact c294 (by rw [hr2, hNs, show g = 5 by omega]; omega)) (fun c294 => ?_)
              refine z_const hY eL_areGroups_297 ?_
              refine z_goto hY eL_areGroups_298 ?_
              exact z_zreturn hY eL_areGroups_302 rfl (by omega) (by rw [hφ]; exact ⟨κ, B, ρ, σ1, h, rfl, hI1, by rw [hE1 14 (by decide) (by decide) (by decide)], rfl⟩) (by rw [hmc, hms]; omega)
            · refine z_const hY eL_areGroups_139 ?_
              refine z_istore hY eL_areGroups_140 (ls' := [(5, z_i 0), (0, .ref (A 40)), (1, z_i (my ρ)), (4, z_i g), (2, z_i r2)]) rfl ?_
              refine z_const hY eL_areGroups_142 ?_
              refine z_istore hY eL_areGroups_143 (ls' := [(6, z_i 0), (5, z_i 0), (0, .ref (A 40)), (1, z_i (my ρ)), (4, z_i g), (2, z_i r2)]) rfl ?_
              refine z_const hY eL_areGroups_145 ?_
              refine z_istore hY eL_areGroups_146 (ls' := [(7, z_i (-1)), (6, z_i 0), (5, z_i 0), (0, .ref (A 40)), (1, z_i (my ρ)), (4, z_i g), (2, z_i r2)]) rfl ?_
              refine z_const hY eL_areGroups_148 ?_
              refine z_istore hY eL_areGroups_149 (ls' := [(8, z_i 0), (7, z_i (-1)), (6, z_i 0), (5, z_i 0), (0, .ref (A 40)), (1, z_i (my ρ)), (4, z_i g), (2, z_i r2)]) rfl ?_
              refine z_sub [4, 5, 6, 7, 0, 3, 1, 2] (ls' := [(0, .ref (A 40)), (1, z_i (my ρ)), (4, z_i g), (2, z_i r2), (8, z_i 0), (5, z_i 0), (7, z_i (-1)), (6, z_i 0)]) rfl ?_
              have lp151 : ∀ (fu : Nat) (k : Int) (w : Int) (b : Int) (t2 : Int) (u : Int), (κ 24 1 0 - k).toNat < fu → (0 ≤ k ∧ k ≤ κ 24 1 0) → (w = z_sm (fun i => if κ 35 (κ 20 1 i) 0 = g then (1 : Int) else 0) k) → ((w = 0 ∧ b = -1 ∧ ∀ i, 0 ≤ i → i < k → κ 35 (κ 20 1 i) 0 ≠ g) ∨ (0 < w ∧ 0 ≤ u ∧ u < k ∧ b = κ 20 1 u ∧ κ 35 (κ 20 1 u) 0 = g ∧ ∀ i, 0 ≤ i → i < u → κ 35 (κ 20 1 i) 0 ≠ g)) → ((w < 3 ∧ tsL κ g (κ 24 1 0 - k).toNat k w t2 = cTs κ g) ∨ (3 ≤ w ∧ cTs κ g = t2)) → (0 ≤ w ∧ w ≤ k ∧ 0 ≤ t2 ∧ t2 ≤ 31 * k) → z_W Y 151 [(0, .ref (A 40)), (1, z_i (my ρ)), (4, z_i g), (2, z_i r2), (8, z_i k), (5, z_i w), (7, z_i b), (6, z_i t2)] [] (gH D B κ A σ1 h) (46 + 3 * g.toNat) (276 + 18 * g.toNat) := by
                intro fu
                induction fu with
                | zero => intro k w b t2 u hf; exact absurd hf (Nat.not_lt_zero _)
                | succ fu ih151 =>
                  intro k w b t2 u hf hk hw hbs hts hwb
                  refine z_iload hY eL_areGroups_151 4 rfl ?_
                  refine z_iload hY eL_areGroups_153 1 rfl ?_
                  refine z_icmpge hY eL_areGroups_154 (by omega) (fun c154 => ?_) (fun c154 => ?_)
                  · have hof : cOf κ g = w := by rw [hw, show k = κ 24 1 0 by omega]; rfl
                    have hfi := fi_s κ g
                    have hbs : (w = 0 ∧ b = -1 ∧ cFi κ g = -1) ∨ (0 < w ∧ cFi κ g = u + 1 ∧ (0 ≤ u ∧ u < κ 24 1 0) ∧ b = κ 20 1 u) := by rcases hbs with c9 | c9; (left; refine ⟨c9.1, c9.2.1, ?_⟩; rcases hfi with c8 | c8; (exact c8.1); (exact absurd c8.2.2.1 (c9.2.2 (cFi κ g - 1) (by omega) (by omega)))); (right; refine ⟨c9.1, ?_, ⟨c9.2.1, by omega⟩, c9.2.2.2.1⟩; rcases hfi with c8 | c8; (exact absurd c9.2.2.2.2.1 (c8.2 u (by omega) (by omega))); (by_cases c7 : cFi κ g - 1 = u; omega; exfalso; by_cases c6 : u < cFi κ g - 1; (exact c8.2.2.2 u c9.2.1 c6 c9.2.2.2.2.1); (exact c9.2.2.2.2.2 (cFi κ g - 1) (by omega) (by omega) c8.2.2.1)))
                    have hts3 : (w < 3 ∧ cTs κ g = -1) ∨ (3 ≤ w ∧ cTs κ g = t2) := by rcases hts with c9 | c9; (left; refine ⟨c9.1, ?_⟩; rw [← c9.2, ts_e (Or.inl (by omega)), if_neg (by omega)]); (exact Or.inr c9)
                    have hbb : -1 ≤ b ∧ b ≤ 30 := by rcases hbs with c9 | c9; omega; (have h9 := (gS_R hI).xsp (i := u) (by omega); have h8 := gS_pb hI h9; omega)
                    have hcb := cTs_b (gS_V hI) g
                    refine z_aload hY eL_areGroups_219 0 rfl ?_
                    refine g_gf hY (gS_X hI1) eL_areGroups_220 (v := .ref (B 0 0)) rfl ?_
                    refine z_iload hY eL_areGroups_223 2 rfl ?_
                    refine z_callV (As := [z_i g]) (rest := []) hY eL_areGroups_225 (q_members (D := D) (h := lH A (B 0 0) σ1 h) hG (gS_J hI1) (gS_B hI1) (gS_V hI1) (gS_S hI1) (by omega)) (cH_at (t := 0) (i := 0) (gS_J hI1) (by omega)) (by decide) (Nat.le_of_ble_eq_true rfl) (by rw [hmc, hms]; omega) (fun E9 h9 q => by obtain ⟨-, q⟩ := q; exfalso; omega) (fun vv4 hh4 q4 => ?_)
                    obtain ⟨-, rfl, rfl⟩ := q4
                    refine z_heq (show _ = gH D B κ A σ1 h from rfl) ?_
                    refine z_iload hY eL_areGroups_228 5 rfl ?_
                    refine z_icmpne hY eL_areGroups_230 (by omega) (fun c230 => by exfalso; omega) (fun c230 => ?_)
                    refine z_aload hY eL_areGroups_233 0 rfl ?_
                    refine g_gf hY (gS_X hI1) eL_areGroups_234 (v := .ref (B 0 0)) rfl ?_
                    refine z_iload hY eL_areGroups_237 2 rfl ?_
                    refine z_callV (As := [z_i g]) (rest := []) hY eL_areGroups_239 (q_best (D := D) (h := lH A (B 0 0) σ1 h) hG (gS_J hI1) (gS_B hI1) (gS_V hI1) (gS_S hI1) (by omega)) (cH_at (t := 0) (i := 0) (gS_J hI1) (by omega)) (by decide) (Nat.le_of_ble_eq_true rfl) (by rw [hmc, hms]; omega) (fun E9 h9 q => by obtain ⟨-, q⟩ := q; exfalso; omega) (fun vv6 hh6 q6 => ?_)
                    obtain ⟨-, rfl, rfl⟩ := q6
                    refine z_heq (show _ = gH D B κ A σ1 h from rfl) ?_
                    refine z_top (b := b) (by rcases hbs with c9 | c9; (rw [if_pos c9.2.2]; omega); (rw [if_neg (by omega), (show cFi κ g - 1 = u from by omega)]; exact (jR.xn34 (gS_S hI) (gS_R hI) ((gS_R hI).xsp (i := u) (by omega))).trans c9.2.2.2.symm)) ?_
                    refine z_iload hY eL_areGroups_242 6 rfl ?_
                    refine z_icmpne hY eL_areGroups_244 (by omega) (fun c244 => by exfalso; omega) (fun c244 => ?_)
                    refine z_aload hY eL_areGroups_247 0 rfl ?_
                    refine g_gf hY (gS_X hI1) eL_areGroups_248 (v := .ref (B 0 0)) rfl ?_
                    refine z_iload hY eL_areGroups_251 2 rfl ?_
                    refine z_callV (As := [z_i g]) (rest := []) hY eL_areGroups_253 (q_teamScore (D := D) (h := lH A (B 0 0) σ1 h) hG (gS_J hI1) (gS_B hI1) (gS_V hI1) (gS_S hI1) (by omega)) (cH_at (t := 0) (i := 0) (gS_J hI1) (by omega)) (by decide) (Nat.le_of_ble_eq_true rfl) (by rw [hmc, hms]; omega) (fun E9 h9 q => by obtain ⟨-, q⟩ := q; exfalso; omega) (fun vv8 hh8 q8 => ?_)
                    obtain ⟨-, rfl, rfl⟩ := q8
                    refine z_heq (show _ = gH D B κ A σ1 h from rfl) ?_
                    have hts253 := cTs_b (gS_V hI) g
                    refine z_iload hY eL_areGroups_256 5 rfl ?_
                    refine z_const hY eL_areGroups_258 ?_
                    refine z_icmpge hY eL_areGroups_259 (by omega) (fun c259 => ?_) (fun c259 => ?_)
                    · refine z_iload hY eL_areGroups_266 7 rfl ?_
                      refine z_icmpeq hY eL_areGroups_268 (by omega) (fun c268 => ?_) (fun c268 => by exfalso; omega)
                      refine z_iload hY eL_areGroups_273 3 rfl ?_
                      refine z_iload hY eL_areGroups_274 5 rfl ?_
                      refine z_const hY eL_areGroups_276 ?_
                      refine z_icmpge hY eL_areGroups_277 (by omega) (fun c277 => ?_) (fun c277 => ?_)
                      · refine z_const hY eL_areGroups_284 ?_
                        refine z_isub hY eL_areGroups_285 ?_
                        refine z_istore hY eL_areGroups_286 (ls' := [(2, z_i (r2 - 1)), (0, .ref (A 40)), (1, z_i (my ρ)), (4, z_i g), (8, z_i k), (5, z_i w), (7, z_i b), (6, z_i t2)]) rfl ?_
                        refine z_iinc hY eL_areGroups_287 3 rfl (ls' := [(4, z_i (g + 1)), (2, z_i (r2 - 1)), (0, .ref (A 40)), (1, z_i (my ρ)), (8, z_i k), (5, z_i w), (7, z_i b), (6, z_i t2)]) rfl ?_
                        refine z_goto hY eL_areGroups_290 ?_
                        refine z_sub [2, 3, 0, 1] (ls' := [(0, .ref (A 40)), (1, z_i (my ρ)), (4, z_i (g + 1)), (2, z_i (r2 - 1))]) rfl ?_
                        refine z_widen (k' := (46 + 3 * (g + 1).toNat)) (n' := (276 + 18 * (g + 1).toNat)) (by omega) (by omega) ?_
                        exact ih133 (g + 1) (r2 - 1) (by omega) (by omega) (by rw [z_smS (by omega)]; rcases hts3 with c9 | c9; (rw [if_neg (by omega)]; omega); (rw [if_pos (by omega)]; omega)) (by omega)
                      · refine z_const hY eL_areGroups_280 ?_
                        refine z_goto hY eL_areGroups_281 ?_
                        refine z_isub hY eL_areGroups_285 ?_
                        refine z_top (b := r2) (by omega) ?_
                        refine z_istore hY eL_areGroups_286 (ls' := [(2, z_i r2), (0, .ref (A 40)), (1, z_i (my ρ)), (4, z_i g), (8, z_i k), (5, z_i w), (7, z_i b), (6, z_i t2)]) rfl ?_
                        refine z_iinc hY eL_areGroups_287 3 rfl (ls' := [(4, z_i (g + 1)), (2, z_i r2), (0, .ref (A 40)), (1, z_i (my ρ)), (8, z_i k), (5, z_i w), (7, z_i b), (6, z_i t2)]) rfl ?_
                        refine z_goto hY eL_areGroups_290 ?_
                        refine z_sub [2, 3, 0, 1] (ls' := [(0, .ref (A 40)), (1, z_i (my ρ)), (4, z_i (g + 1)), (2, z_i r2)]) rfl ?_
                        refine z_widen (k' := (46 + 3 * (g + 1).toNat)) (n' := (276 + 18 * (g + 1).toNat)) (by omega) (by omega) ?_
                        exact ih133 (g + 1) r2 (by omega) (by omega) (by rw [z_smS (by omega)]; rcases hts3 with c9 | c9; (rw [if_neg (by omega)]; omega); (rw [if_pos (by omega)]; omega)) (by omega)
                    · refine z_const hY eL_areGroups_262 ?_
                      refine z_goto hY eL_areGroups_263 ?_
                      refine z_icmpeq hY eL_areGroups_268 (by omega) (fun c268 => ?_) (fun c268 => by exfalso; omega)
                      refine z_iload hY eL_areGroups_273 3 rfl ?_
                      refine z_iload hY eL_areGroups_274 5 rfl ?_
                      refine z_const hY eL_areGroups_276 ?_
                      refine z_icmpge hY eL_areGroups_277 (by omega) (fun c277 => ?_) (fun c277 => ?_)
                      · refine z_const hY eL_areGroups_284 ?_
                        refine z_isub hY eL_areGroups_285 ?_
                        refine z_istore hY eL_areGroups_286 (ls' := [(2, z_i (r2 - 1)), (0, .ref (A 40)), (1, z_i (my ρ)), (4, z_i g), (8, z_i k), (5, z_i w), (7, z_i b), (6, z_i t2)]) rfl ?_
                        refine z_iinc hY eL_areGroups_287 3 rfl (ls' := [(4, z_i (g + 1)), (2, z_i (r2 - 1)), (0, .ref (A 40)), (1, z_i (my ρ)), (8, z_i k), (5, z_i w), (7, z_i b), (6, z_i t2)]) rfl ?_
                        refine z_goto hY eL_areGroups_290 ?_
                        refine z_sub [2, 3, 0, 1] (ls' := [(0, .ref (A 40)), (1, z_i (my ρ)), (4, z_i (g + 1)), (2, z_i (r2 - 1))]) rfl ?_
                        refine z_widen (k' := (46 + 3 * (g + 1).toNat)) (n' := (276 + 18 * (g + 1).toNat)) (by omega) (by omega) ?_
                        exact ih133 (g + 1) (r2 - 1) (by omega) (by omega) (by rw [z_smS (by omega)]; rcases hts3 with c9 | c9; (rw [if_neg (by omega)]; omega); (rw [if_pos (by omega)]; omega)) (by omega)
                      · refine z_const hY eL_areGroups_280 ?_
                        refine z_goto hY eL_areGroups_281 ?_
                        refine z_isub hY eL_areGroups_285 ?_
                        refine z_top (b := r2) (by omega) ?_
                        refine z_istore hY eL_areGroups_286 (ls' := [(2, z_i r2), (0, .ref (A 40)), (1, z_i (my ρ)), (4, z_i g), (8, z_i k), (5, z_i w), (7, z_i b), (6, z_i t2)]) rfl ?_
                        refine z_iinc hY eL_areGroups_287 3 rfl (ls' := [(4, z_i (g + 1)), (2, z_i r2), (0, .ref (A 40)), (1, z_i (my ρ)), (8, z_i k), (5, z_i w), (7, z_i b), (6, z_i t2)]) rfl ?_
                        refine z_goto hY eL_areGroups_290 ?_
                        refine z_sub [2, 3, 0, 1] (ls' := [(0, .ref (A 40)), (1, z_i (my ρ)), (4, z_i (g + 1)), (2, z_i r2)]) rfl ?_
                        refine z_widen (k' := (46 + 3 * (g + 1).toNat)) (n' := (276 + 18 * (g + 1).toNat)) (by omega) (by omega) ?_
                        exact ih133 (g + 1) r2 (by omega) (by omega) (by rw [z_smS (by omega)]; rcases hts3 with c9 | c9; (rw [if_neg (by omega)]; omega); (rw [if_pos (by omega)]; omega)) (by omega)
                  · have hpk := (gS_R hI).xsp (i := k) (by omega)
                    have hpkb := gS_pb hI hpk
                    have hgk := gS_grp hI1 hpk
                    have hgb9 := (gS_S hI).s35 (κ 20 1 k) 0
                    refine z_aload hY eL_areGroups_157 0 rfl ?_
                    refine g_gf hY (gS_X hI1) eL_areGroups_158 (v := .ref (A 3)) rfl ?_
                    refine z_aload hY eL_areGroups_161 0 rfl ?_
                    refine g_gf hY (gS_X hI1) eL_areGroups_162 (v := .ref (A 6)) rfl ?_
                    refine z_iload hY eL_areGroups_165 4 rfl ?_
                    refine g_ial hY (gS_X hI1) eL_areGroups_167 (j := 6) (N := 30) (x := κ 20 1 k) (by decide) rfl (by omega) ((hrow1 k (by omega) (by omega)).1.trans (w_ea (gS_j hI) (k := k) (by omega)).1) ?_
                    refine g_ial hY (gS_X hI1) eL_areGroups_168 (j := 3) (N := 30) (x := κ 35 (κ 20 1 k) 0) (by decide) rfl (by omega) hgk.symm ?_
                    refine z_iload hY eL_areGroups_169 2 rfl ?_
                    refine z_icmpeq hY eL_areGroups_171 (by omega) (fun c171 => ?_) (fun c171 => ?_)
                    · refine z_iload hY eL_areGroups_177 5 rfl ?_
                      refine z_ifne hY eL_areGroups_179 (by omega) (fun c179 => ?_) (fun c179 => ?_)
                      · refine z_iinc hY eL_areGroups_191 5 rfl (ls' := [(5, z_i (w + 1)), (0, .ref (A 40)), (1, z_i (my ρ)), (4, z_i g), (2, z_i r2), (8, z_i k), (7, z_i b), (6, z_i t2)]) rfl ?_
                        refine z_iload hY eL_areGroups_194 7 rfl ?_
                        refine z_iload hY eL_areGroups_196 0 rfl ?_
                        refine z_const hY eL_areGroups_198 ?_
                        refine z_icmpge hY eL_areGroups_199 (by omega) (fun c199 => ?_) (fun c199 => ?_)
                        · refine z_const hY eL_areGroups_209 ?_
                          refine z_iadd hY eL_areGroups_210 ?_
                          refine z_top (b := t2) (by omega) ?_
                          refine z_istore hY eL_areGroups_211 (ls' := [(6, z_i t2), (5, z_i (w + 1)), (0, .ref (A 40)), (1, z_i (my ρ)), (4, z_i g), (2, z_i r2), (8, z_i k), (7, z_i b)]) rfl ?_
                          refine z_iinc hY eL_areGroups_213 6 rfl (ls' := [(8, z_i (k + 1)), (6, z_i t2), (5, z_i (w + 1)), (0, .ref (A 40)), (1, z_i (my ρ)), (4, z_i g), (2, z_i r2), (7, z_i b)]) rfl ?_
                          refine z_goto hY eL_areGroups_216 ?_
                          refine z_sub [3, 4, 5, 6, 0, 2, 7, 1] (ls' := [(0, .ref (A 40)), (1, z_i (my ρ)), (4, z_i g), (2, z_i r2), (8, z_i (k + 1)), (5, z_i (w + 1)), (7, z_i b), (6, z_i t2)]) rfl ?_
                          exact ih151 (k + 1) (w + 1) b t2 u (by omega) (by omega) (by rw [z_smS (by omega), ← hw, if_pos (by omega)]) (by rcases hbs with c9 | c9; (exfalso; omega); (exact Or.inr ⟨by omega, c9.2.1, by omega, c9.2.2.2⟩)) (by have c9 := hts.resolve_left (by omega); exact Or.inr ⟨by omega, c9.2⟩) (by omega)
                        · refine z_iload hY eL_areGroups_202 5 rfl ?_
                          refine z_const hY eL_areGroups_204 ?_
                          refine z_iadd hY eL_areGroups_205 ?_
                          refine z_goto hY eL_areGroups_206 ?_
                          refine z_iadd hY eL_areGroups_210 ?_
                          refine z_top (b := t2 + k + 1) (by omega) ?_
                          refine z_istore hY eL_areGroups_211 (ls' := [(6, z_i (t2 + k + 1)), (5, z_i (w + 1)), (0, .ref (A 40)), (1, z_i (my ρ)), (4, z_i g), (2, z_i r2), (8, z_i k), (7, z_i b)]) rfl ?_
                          refine z_iinc hY eL_areGroups_213 6 rfl (ls' := [(8, z_i (k + 1)), (6, z_i (t2 + k + 1)), (5, z_i (w + 1)), (0, .ref (A 40)), (1, z_i (my ρ)), (4, z_i g), (2, z_i r2), (7, z_i b)]) rfl ?_
                          refine z_goto hY eL_areGroups_216 ?_
                          refine z_sub [3, 4, 5, 6, 0, 2, 7, 1] (ls' := [(0, .ref (A 40)), (1, z_i (my ρ)), (4, z_i g), (2, z_i r2), (8, z_i (k + 1)), (5, z_i (w + 1)), (7, z_i b), (6, z_i (t2 + k + 1))]) rfl ?_
                          exact ih151 (k + 1) (w + 1) b (t2 + k + 1) u (by omega) (by omega) (by rw [z_smS (by omega), ← hw, if_pos (by omega)]) (by rcases hbs with c9 | c9; (exfalso; omega); (exact Or.inr ⟨by omega, c9.2.1, by omega, c9.2.2.2⟩)) (by have c9 := hts.resolve_right (by omega); have c8 := (ts_y (κ := κ) (g := g) (n := κ 24 1 0) (i := k) (c := w) (s := t2) (by omega) (by omega) (by omega)).symm.trans c9.2; by_cases c7 : w + 1 < 3; (exact Or.inl ⟨c7, c8⟩); (exact Or.inr ⟨by omega, c8.symm.trans ((ts_e (Or.inr (by omega))).trans (if_pos (by omega)))⟩)) (by omega)
                      · refine z_aload hY eL_areGroups_182 0 rfl ?_
                        refine g_gf hY (gS_X hI1) eL_areGroups_183 (v := .ref (A 6)) rfl ?_
                        refine z_iload hY eL_areGroups_186 4 rfl ?_
                        refine g_ial hY (gS_X hI1) eL_areGroups_188 (j := 6) (N := 30) (x := κ 20 1 k) (by decide) rfl (by omega) ((hrow1 k (by omega) (by omega)).1.trans (w_ea (gS_j hI) (k := k) (by omega)).1) ?_
                        refine z_istore hY eL_areGroups_189 (ls' := [(7, z_i (κ 20 1 k)), (0, .ref (A 40)), (1, z_i (my ρ)), (4, z_i g), (2, z_i r2), (8, z_i k), (5, z_i w), (6, z_i t2)]) rfl ?_
                        refine z_iinc hY eL_areGroups_191 6 rfl (ls' := [(5, z_i (w + 1)), (7, z_i (κ 20 1 k)), (0, .ref (A 40)), (1, z_i (my ρ)), (4, z_i g), (2, z_i r2), (8, z_i k), (6, z_i t2)]) rfl ?_
                        refine z_iload hY eL_areGroups_194 7 rfl ?_
                        refine z_iload hY eL_areGroups_196 0 rfl ?_
                        refine z_const hY eL_areGroups_198 ?_
                        refine z_icmpge hY eL_areGroups_199 (by omega) (fun c199 => ?_) (fun c199 => ?_)
                        · refine z_const hY eL_areGroups_209 ?_
                          refine z_iadd hY eL_areGroups_210 ?_
                          refine z_top (b := t2) (by omega) ?_
                          refine z_istore hY eL_areGroups_211 (ls' := [(6, z_i t2), (5, z_i (w + 1)), (7, z_i (κ 20 1 k)), (0, .ref (A 40)), (1, z_i (my ρ)), (4, z_i g), (2, z_i r2), (8, z_i k)]) rfl ?_
                          refine z_iinc hY eL_areGroups_213 7 rfl (ls' := [(8, z_i (k + 1)), (6, z_i t2), (5, z_i (w + 1)), (7, z_i (κ 20 1 k)), (0, .ref (A 40)), (1, z_i (my ρ)), (4, z_i g), (2, z_i r2)]) rfl ?_
                          refine z_goto hY eL_areGroups_216 ?_
                          refine z_sub [4, 5, 6, 7, 0, 2, 3, 1] (ls' := [(0, .ref (A 40)), (1, z_i (my ρ)), (4, z_i g), (2, z_i r2), (8, z_i (k + 1)), (5, z_i (w + 1)), (7, z_i (κ 20 1 k)), (6, z_i t2)]) rfl ?_
                          exact ih151 (k + 1) (w + 1) (κ 20 1 k) t2 k (by omega) (by omega) (by rw [z_smS (by omega), ← hw, if_pos (by omega)]) (by rcases hbs with c9 | c9; (exact Or.inr ⟨by omega, by omega, by omega, rfl, by omega, c9.2.2⟩); (exfalso; omega)) (by have c9 := hts.resolve_left (by omega); exact Or.inr ⟨by omega, c9.2⟩) (by omega)
                        · refine z_iload hY eL_areGroups_202 6 rfl ?_
                          refine z_const hY eL_areGroups_204 ?_
                          refine z_iadd hY eL_areGroups_205 ?_
                          refine z_goto hY eL_areGroups_206 ?_
                          refine z_iadd hY eL_areGroups_210 ?_
                          refine z_top (b := t2 + k + 1) (by omega) ?_
                          refine z_istore hY eL_areGroups_211 (ls' := [(6, z_i (t2 + k + 1)), (5, z_i (w + 1)), (7, z_i (κ 20 1 k)), (0, .ref (A 40)), (1, z_i (my ρ)), (4, z_i g), (2, z_i r2), (8, z_i k)]) rfl ?_
                          refine z_iinc hY eL_areGroups_213 7 rfl (ls' := [(8, z_i (k + 1)), (6, z_i (t2 + k + 1)), (5, z_i (w + 1)), (7, z_i (κ 20 1 k)), (0, .ref (A 40)), (1, z_i (my ρ)), (4, z_i g), (2, z_i r2)]) rfl ?_
                          refine z_goto hY eL_areGroups_216 ?_
                          refine z_sub [4, 5, 6, 7, 0, 2, 3, 1] (ls' := [(0, .ref (A 40)), (1, z_i (my ρ)), (4, z_i g), (2, z_i r2), (8, z_i (k + 1)), (5, z_i (w + 1)), (7, z_i (κ 20 1 k)), (6, z_i (t2 + k + 1))]) rfl ?_
                          exact ih151 (k + 1) (w + 1) (κ 20 1 k) (t2 + k + 1) k (by omega) (by omega) (by rw [z_smS (by omega), ← hw, if_pos (by omega)]) (by rcases hbs with c9 | c9; (exact Or.inr ⟨by omega, by omega, by omega, rfl, by omega, c9.2.2⟩); (exfalso; omega)) (by have c9 := hts.resolve_right (by omega); have c8 := (ts_y (κ := κ) (g := g) (n := κ 24 1 0) (i := k) (c := w) (s := t2) (by omega) (by omega) (by omega)).symm.trans c9.2; by_cases c7 : w + 1 < 3; (exact Or.inl ⟨c7, c8⟩); (exact Or.inr ⟨by omega, c8.symm.trans ((ts_e (Or.inr (by omega))).trans (if_pos (by omega)))⟩)) (by omega)
                    · refine z_goto hY eL_areGroups_174 ?_
                      refine z_iinc hY eL_areGroups_213 4 rfl (ls' := [(8, z_i (k + 1)), (0, .ref (A 40)), (1, z_i (my ρ)), (4, z_i g), (2, z_i r2), (5, z_i w), (7, z_i b), (6, z_i t2)]) rfl ?_
                      refine z_goto hY eL_areGroups_216 ?_
                      refine z_sub [1, 2, 3, 4, 0, 5, 6, 7] (ls' := [(0, .ref (A 40)), (1, z_i (my ρ)), (4, z_i g), (2, z_i r2), (8, z_i (k + 1)), (5, z_i w), (7, z_i b), (6, z_i t2)]) rfl ?_
                      exact ih151 (k + 1) w b t2 u (by omega) (by omega) (by rw [z_smS (by omega), ← hw, if_neg (by omega)]; omega) (by rcases hbs with c9 | c9; (exact Or.inl ⟨c9.1, c9.2.1, fun i i0 i1 => by by_cases c8 : i = k; (rw [c8]; omega); (exact c9.2.2 i i0 (by omega))⟩); (exact Or.inr ⟨c9.1, c9.2.1, by omega, c9.2.2.2⟩)) (by rcases hts with c9 | c9; (exact Or.inl ⟨c9.1, (ts_n (by omega) (by omega) (by omega)).symm.trans c9.2⟩); (exact Or.inr c9)) (by omega)
              exact lp151 _ 0 0 (-1) 0 0 (Nat.lt_succ_self _) (by omega) (z_sm0 (by omega)).symm (Or.inl ⟨rfl, rfl, fun i _ _ => by omega⟩) (Or.inl ⟨by omega, rfl⟩) (by omega)
        refine z_widen (k' := (46 + 3 * (0 : Int).toNat)) (n' := (276 + 18 * (0 : Int).toNat)) (by omega) (by omega) ?_
        exact lp133 _ 0 r (Nat.lt_succ_self _) (by omega) (by rw [z_sm0 (by omega)]; omega) (by omega)
      · refine z_aload hY eL_areGroups_18 0 rfl ?_
        refine g_gf hY (gS_X hI1) eL_areGroups_19 (v := .ref (B 0 0)) rfl ?_
        refine z_iload hY eL_areGroups_22 2 rfl ?_
        refine z_callVT (As := [z_i p]) (rest := []) hY hTb eL_areGroups_24 (q_groupAt (D := D) (h := lH A (B 0 0) σ1 h) hG (gS_J hI1) (gS_B hI1) (gS_V hI1) (gS_S hI1) (by omega)) (cH_at (t := 0) (i := 0) (gS_J hI1) (by omega)) (by decide) (Nat.le_of_ble_eq_true rfl) (by rw [hmc, hms]; omega) (fun E9 h9 q => ?_) (fun vv9 hh9 q => ?_)
        · obtain ⟨rfl, rfl, hgr⟩ := q
          refine ⟨32, tk_areGroups, fun q9 => ?_⟩
          refine z_heq (show _ = gH D B κ A σ1 h from rfl) ?_
          have hpN : N < p := by by_cases c9 : p ≤ N; (have h9 := hg1 p (by omega) c9; omega); omega
          refine z_astore hY eL_areGroups_32 (ls' := [(6, .ref q9), (0, .ref (A 40)), (1, z_i (my ρ)), (4, z_i p), (2, z_i r), (3, z_i last)]) rfl ?_
          refine z_goto hY eL_areGroups_34 ?_
          refine z_const hY eL_areGroups_130 ?_
          refine z_istore hY eL_areGroups_131 (ls' := [(4, z_i 0), (6, .ref q9), (0, .ref (A 40)), (1, z_i (my ρ)), (2, z_i r), (3, z_i last)]) rfl ?_
          refine z_sub [2, 3, 0, 4] (ls' := [(0, .ref (A 40)), (1, z_i (my ρ)), (4, z_i 0), (2, z_i r)]) rfl ?_
          have lp133 : ∀ (fu : Nat) (g : Int) (r2 : Int), (5 - g).toNat < fu → (0 ≤ g ∧ g ≤ 5) → (r2 = N - z_sm (fun g => if cTs κ g ≠ -1 then (1 : Int) else 0) g) → (-g ≤ r2 ∧ r2 ≤ 5) → z_W Y 133 [(0, .ref (A 40)), (1, z_i (my ρ)), (4, z_i g), (2, z_i r2)] [] (gH D B κ A σ1 h) (46 + 3 * g.toNat) (276 + 18 * g.toNat) := by
            intro fu
            induction fu with
            | zero => intro g r2 hf; exact absurd hf (Nat.not_lt_zero _)
            | succ fu ih133 =>
              intro g r2 hf hg hr2 hrb
              refine z_iload hY eL_areGroups_133 2 rfl ?_
              refine z_const hY eL_areGroups_135 ?_
              refine z_icmpge hY eL_areGroups_136 (by omega) (fun c136 => ?_) (fun c136 => ?_)
              · refine z_iload hY eL_areGroups_293 3 rfl ?_
                refine z_ifne hY eL_areGroups_294 (by omega) (fun c294 => by exfalso; exact c294 (by rw [hr2, hNs, show g = 5 by omega]; omega)) (fun c294 => ?_)
                refine z_const hY eL_areGroups_297 ?_
                refine z_goto hY eL_areGroups_298 ?_
                exact z_zreturn hY eL_areGroups_302 rfl (by omega) (by rw [hφ]; exact ⟨κ, B, ρ, σ1, h, rfl, hI1, by rw [hE1 14 (by decide) (by decide) (by decide)], rfl⟩) (by rw [hmc, hms]; omega)
              · refine z_const hY eL_areGroups_139 ?_
                refine z_istore hY eL_areGroups_140 (ls' := [(5, z_i 0), (0, .ref (A 40)), (1, z_i (my ρ)), (4, z_i g), (2, z_i r2)]) rfl ?_
                refine z_const hY eL_areGroups_142 ?_
                refine z_istore hY eL_areGroups_143 (ls' := [(6, z_i 0), (5, z_i 0), (0, .ref (A 40)), (1, z_i (my ρ)), (4, z_i g), (2, z_i r2)]) rfl ?_
                refine z_const hY eL_areGroups_145 ?_
                refine z_istore hY eL_areGroups_146 (ls' := [(7, z_i (-1)), (6, z_i 0), (5, z_i 0), (0, .ref (A 40)), (1, z_i (my ρ)), (4, z_i g), (2, z_i r2)]) rfl ?_
                refine z_const hY eL_areGroups_148 ?_
                refine z_istore hY eL_areGroups_149 (ls' := [(8, z_i 0), (7, z_i (-1)), (6, z_i 0), (5, z_i 0), (0, .ref (A 40)), (1, z_i (my ρ)), (4, z_i g), (2, z_i r2)]) rfl ?_
                refine z_sub [4, 5, 6, 7, 0, 3, 1, 2] (ls' := [(0, .ref (A 40)), (1, z_i (my ρ)), (4, z_i g), (2, z_i r2), (8, z_i 0), (5, z_i 0), (7, z_i (-1)), (6, z_i 0)]) rfl ?_
                have lp151 : ∀ (fu : Nat) (k : Int) (w : Int) (b : Int) (t2 : Int) (u : Int), (κ 24 1 0 - k).toNat < fu → (0 ≤ k ∧ k ≤ κ 24 1 0) → (w = z_sm (fun i => if κ 35 (κ 20 1 i) 0 = g then (1 : Int) else 0) k) → ((w = 0 ∧ b = -1 ∧ ∀ i, 0 ≤ i → i < k → κ 35 (κ 20 1 i) 0 ≠ g) ∨ (0 < w ∧ 0 ≤ u ∧ u < k ∧ b = κ 20 1 u ∧ κ 35 (κ 20 1 u) 0 = g ∧ ∀ i, 0 ≤ i → i < u → κ 35 (κ 20 1 i) 0 ≠ g)) → ((w < 3 ∧ tsL κ g (κ 24 1 0 - k).toNat k w t2 = cTs κ g) ∨ (3 ≤ w ∧ cTs κ g = t2)) → (0 ≤ w ∧ w ≤ k ∧ 0 ≤ t2 ∧ t2 ≤ 31 * k) → z_W Y 151 [(0, .ref (A 40)), (1, z_i (my ρ)), (4, z_i g), (2, z_i r2), (8, z_i k), (5, z_i w), (7, z_i b), (6, z_i t2)] [] (gH D B κ A σ1 h) (46 + 3 * g.toNat) (276 + 18 * g.toNat) := by
                  intro fu
                  induction fu with
                  | zero => intro k w b t2 u hf; exact absurd hf (Nat.not_lt_zero _)
                  | succ fu ih151 =>
                    intro k w b t2 u hf hk hw hbs hts hwb
                    refine z_iload hY eL_areGroups_151 4 rfl ?_
                    refine z_iload hY eL_areGroups_153 1 rfl ?_
                    refine z_icmpge hY eL_areGroups_154 (by omega) (fun c154 => ?_) (fun c154 => ?_)
                    · have hof : cOf κ g = w := by rw [hw, show k = κ 24 1 0 by omega]; rfl
                      have hfi := fi_s κ g
                      have hbs : (w = 0 ∧ b = -1 ∧ cFi κ g = -1) ∨ (0 < w ∧ cFi κ g = u + 1 ∧ (0 ≤ u ∧ u < κ 24 1 0) ∧ b = κ 20 1 u) := by rcases hbs with c9 | c9; (left; refine ⟨c9.1, c9.2.1, ?_⟩; rcases hfi with c8 | c8; (exact c8.1); (exact absurd c8.2.2.1 (c9.2.2 (cFi κ g - 1) (by omega) (by omega)))); (right; refine ⟨c9.1, ?_, ⟨c9.2.1, by omega⟩, c9.2.2.2.1⟩; rcases hfi with c8 | c8; (exact absurd c9.2.2.2.2.1 (c8.2 u (by omega) (by omega))); (by_cases c7 : cFi κ g - 1 = u; omega; exfalso; by_cases c6 : u < cFi κ g - 1; (exact c8.2.2.2 u c9.2.1 c6 c9.2.2.2.2.1); (exact c9.2.2.2.2.2 (cFi κ g - 1) (by omega) (by omega) c8.2.2.1)))
                      have hts3 : (w < 3 ∧ cTs κ g = -1) ∨ (3 ≤ w ∧ cTs κ g = t2) := by rcases hts with c9 | c9; (left; refine ⟨c9.1, ?_⟩; rw [← c9.2, ts_e (Or.inl (by omega)), if_neg (by omega)]); (exact Or.inr c9)
                      have hbb : -1 ≤ b ∧ b ≤ 30 := by rcases hbs with c9 | c9; omega; (have h9 := (gS_R hI).xsp (i := u) (by omega); have h8 := gS_pb hI h9; omega)
                      have hcb := cTs_b (gS_V hI) g
                      refine z_aload hY eL_areGroups_219 0 rfl ?_
                      refine g_gf hY (gS_X hI1) eL_areGroups_220 (v := .ref (B 0 0)) rfl ?_
                      refine z_iload hY eL_areGroups_223 2 rfl ?_
                      refine z_callV (As := [z_i g]) (rest := []) hY eL_areGroups_225 (q_members (D := D) (h := lH A (B 0 0) σ1 h) hG (gS_J hI1) (gS_B hI1) (gS_V hI1) (gS_S hI1) (by omega)) (cH_at (t := 0) (i := 0) (gS_J hI1) (by omega)) (by decide) (Nat.le_of_ble_eq_true rfl) (by rw [hmc, hms]; omega) (fun E9 h9 q => by obtain ⟨-, q⟩ := q; exfalso; omega) (fun vv10 hh10 q10 => ?_)
                      obtain ⟨-, rfl, rfl⟩ := q10
                      refine z_heq (show _ = gH D B κ A σ1 h from rfl) ?_
                      refine z_iload hY eL_areGroups_228 5 rfl ?_
                      refine z_icmpne hY eL_areGroups_230 (by omega) (fun c230 => by exfalso; omega) (fun c230 => ?_)
                      refine z_aload hY eL_areGroups_233 0 rfl ?_
                      refine g_gf hY (gS_X hI1) eL_areGroups_234 (v := .ref (B 0 0)) rfl ?_
                      refine z_iload hY eL_areGroups_237 2 rfl ?_
                      refine z_callV (As := [z_i g]) (rest := []) hY eL_areGroups_239 (q_best (D := D) (h := lH A (B 0 0) σ1 h) hG (gS_J hI1) (gS_B hI1) (gS_V hI1) (gS_S hI1) (by omega)) (cH_at (t := 0) (i := 0) (gS_J hI1) (by omega)) (by decide) (Nat.le_of_ble_eq_true rfl) (by rw [hmc, hms]; omega) (fun E9 h9 q => by obtain ⟨-, q⟩ := q; exfalso; omega) (fun vv12 hh12 q12 => ?_)
                      obtain ⟨-, rfl, rfl⟩ := q12
                      refine z_heq (show _ = gH D B κ A σ1 h from rfl) ?_
                      refine z_top (b := b) (by rcases hbs with c9 | c9; (rw [if_pos c9.2.2]; omega); (rw [if_neg (by omega), (show cFi κ g - 1 = u from by omega)]; exact (jR.xn34 (gS_S hI) (gS_R hI) ((gS_R hI).xsp (i := u) (by omega))).trans c9.2.2.2.symm)) ?_
                      refine z_iload hY eL_areGroups_242 6 rfl ?_
                      refine z_icmpne hY eL_areGroups_244 (by omega) (fun c244 => by exfalso; omega) (fun c244 => ?_)
                      refine z_aload hY eL_areGroups_247 0 rfl ?_
                      refine g_gf hY (gS_X hI1) eL_areGroups_248 (v := .ref (B 0 0)) rfl ?_
                      refine z_iload hY eL_areGroups_251 2 rfl ?_
                      refine z_callV (As := [z_i g]) (rest := []) hY eL_areGroups_253 (q_teamScore (D := D) (h := lH A (B 0 0) σ1 h) hG (gS_J hI1) (gS_B hI1) (gS_V hI1) (gS_S hI1) (by omega)) (cH_at (t := 0) (i := 0) (gS_J hI1) (by omega)) (by decide) (Nat.le_of_ble_eq_true rfl) (by rw [hmc, hms]; omega) (fun E9 h9 q => by obtain ⟨-, q⟩ := q; exfalso; omega) (fun vv14 hh14 q14 => ?_)
                      obtain ⟨-, rfl, rfl⟩ := q14
                      refine z_heq (show _ = gH D B κ A σ1 h from rfl) ?_
                      have hts253 := cTs_b (gS_V hI) g
                      refine z_iload hY eL_areGroups_256 5 rfl ?_
                      refine z_const hY eL_areGroups_258 ?_
                      refine z_icmpge hY eL_areGroups_259 (by omega) (fun c259 => ?_) (fun c259 => ?_)
                      · refine z_iload hY eL_areGroups_266 7 rfl ?_
                        refine z_icmpeq hY eL_areGroups_268 (by omega) (fun c268 => ?_) (fun c268 => by exfalso; omega)
                        refine z_iload hY eL_areGroups_273 3 rfl ?_
                        refine z_iload hY eL_areGroups_274 5 rfl ?_
                        refine z_const hY eL_areGroups_276 ?_
                        refine z_icmpge hY eL_areGroups_277 (by omega) (fun c277 => ?_) (fun c277 => ?_)
                        · refine z_const hY eL_areGroups_284 ?_
                          refine z_isub hY eL_areGroups_285 ?_
                          refine z_istore hY eL_areGroups_286 (ls' := [(2, z_i (r2 - 1)), (0, .ref (A 40)), (1, z_i (my ρ)), (4, z_i g), (8, z_i k), (5, z_i w), (7, z_i b), (6, z_i t2)]) rfl ?_
                          refine z_iinc hY eL_areGroups_287 3 rfl (ls' := [(4, z_i (g + 1)), (2, z_i (r2 - 1)), (0, .ref (A 40)), (1, z_i (my ρ)), (8, z_i k), (5, z_i w), (7, z_i b), (6, z_i t2)]) rfl ?_
                          refine z_goto hY eL_areGroups_290 ?_
                          refine z_sub [2, 3, 0, 1] (ls' := [(0, .ref (A 40)), (1, z_i (my ρ)), (4, z_i (g + 1)), (2, z_i (r2 - 1))]) rfl ?_
                          refine z_widen (k' := (46 + 3 * (g + 1).toNat)) (n' := (276 + 18 * (g + 1).toNat)) (by omega) (by omega) ?_
                          exact ih133 (g + 1) (r2 - 1) (by omega) (by omega) (by rw [z_smS (by omega)]; rcases hts3 with c9 | c9; (rw [if_neg (by omega)]; omega); (rw [if_pos (by omega)]; omega)) (by omega)
                        · refine z_const hY eL_areGroups_280 ?_
                          refine z_goto hY eL_areGroups_281 ?_
                          refine z_isub hY eL_areGroups_285 ?_
                          refine z_top (b := r2) (by omega) ?_
                          refine z_istore hY eL_areGroups_286 (ls' := [(2, z_i r2), (0, .ref (A 40)), (1, z_i (my ρ)), (4, z_i g), (8, z_i k), (5, z_i w), (7, z_i b), (6, z_i t2)]) rfl ?_
                          refine z_iinc hY eL_areGroups_287 3 rfl (ls' := [(4, z_i (g + 1)), (2, z_i r2), (0, .ref (A 40)), (1, z_i (my ρ)), (8, z_i k), (5, z_i w), (7, z_i b), (6, z_i t2)]) rfl ?_
                          refine z_goto hY eL_areGroups_290 ?_
                          refine z_sub [2, 3, 0, 1] (ls' := [(0, .ref (A 40)), (1, z_i (my ρ)), (4, z_i (g + 1)), (2, z_i r2)]) rfl ?_
                          refine z_widen (k' := (46 + 3 * (g + 1).toNat)) (n' := (276 + 18 * (g + 1).toNat)) (by omega) (by omega) ?_
                          exact ih133 (g + 1) r2 (by omega) (by omega) (by rw [z_smS (by omega)]; rcases hts3 with c9 | c9; (rw [if_neg (by omega)]; omega); (rw [if_pos (by omega)]; omega)) (by omega)
                      · refine z_const hY eL_areGroups_262 ?_
                        refine z_goto hY eL_areGroups_263 ?_
                        refine z_icmpeq hY eL_areGroups_268 (by omega) (fun c268 => ?_) (fun c268 => by exfalso; omega)
                        refine z_iload hY eL_areGroups_273 3 rfl ?_
                        refine z_iload hY eL_areGroups_274 5 rfl ?_
                        refine z_const hY eL_areGroups_276 ?_
                        refine z_icmpge hY eL_areGroups_277 (by omega) (fun c277 => ?_) (fun c277 => ?_)
                        · refine z_const hY eL_areGroups_284 ?_
                          refine z_isub hY eL_areGroups_285 ?_
                          refine z_istore hY eL_areGroups_286 (ls' := [(2, z_i (r2 - 1)), (0, .ref (A 40)), (1, z_i (my ρ)), (4, z_i g), (8, z_i k), (5, z_i w), (7, z_i b), (6, z_i t2)]) rfl ?_
                          refine z_iinc hY eL_areGroups_287 3 rfl (ls' := [(4, z_i (g + 1)), (2, z_i (r2 - 1)), (0, .ref (A 40)), (1, z_i (my ρ)), (8, z_i k), (5, z_i w), (7, z_i b), (6, z_i t2)]) rfl ?_
                          refine z_goto hY eL_areGroups_290 ?_
                          refine z_sub [2, 3, 0, 1] (ls' := [(0, .ref (A 40)), (1, z_i (my ρ)), (4, z_i (g + 1)), (2, z_i (r2 - 1))]) rfl ?_
                          refine z_widen (k' := (46 + 3 * (g + 1).toNat)) (n' := (276 + 18 * (g + 1).toNat)) (by omega) (by omega) ?_
                          exact ih133 (g + 1) (r2 - 1) (by omega) (by omega) (by rw [z_smS (by omega)]; rcases hts3 with c9 | c9; (rw [if_neg (by omega)]; omega); (rw [if_pos (by omega)]; omega)) (by omega)
                        · refine z_const hY eL_areGroups_280 ?_
                          refine z_goto hY eL_areGroups_281 ?_
                          refine z_isub hY eL_areGroups_285 ?_
                          refine z_top (b := r2) (by omega) ?_
                          refine z_istore hY eL_areGroups_286 (ls' := [(2, z_i r2), (0, .ref (A 40)), (1, z_i (my ρ)), (4, z_i g), (8, z_i k), (5, z_i w), (7, z_i b), (6, z_i t2)]) rfl ?_
                          refine z_iinc hY eL_areGroups_287 3 rfl (ls' := [(4, z_i (g + 1)), (2, z_i r2), (0, .ref (A 40)), (1, z_i (my ρ)), (8, z_i k), (5, z_i w), (7, z_i b), (6, z_i t2)]) rfl ?_
                          refine z_goto hY eL_areGroups_290 ?_
                          refine z_sub [2, 3, 0, 1] (ls' := [(0, .ref (A 40)), (1, z_i (my ρ)), (4, z_i (g + 1)), (2, z_i r2)]) rfl ?_
                          refine z_widen (k' := (46 + 3 * (g + 1).toNat)) (n' := (276 + 18 * (g + 1).toNat)) (by omega) (by omega) ?_
                          exact ih133 (g + 1) r2 (by omega) (by omega) (by rw [z_smS (by omega)]; rcases hts3 with c9 | c9; (rw [if_neg (by omega)]; omega); (rw [if_pos (by omega)]; omega)) (by omega)
                    · have hpk := (gS_R hI).xsp (i := k) (by omega)
                      have hpkb := gS_pb hI hpk
                      have hgk := gS_grp hI1 hpk
                      have hgb9 := (gS_S hI).s35 (κ 20 1 k) 0
                      refine z_aload hY eL_areGroups_157 0 rfl ?_
                      refine g_gf hY (gS_X hI1) eL_areGroups_158 (v := .ref (A 3)) rfl ?_
                      refine z_aload hY eL_areGroups_161 0 rfl ?_
                      refine g_gf hY (gS_X hI1) eL_areGroups_162 (v := .ref (A 6)) rfl ?_
                      refine z_iload hY eL_areGroups_165 4 rfl ?_
                      refine g_ial hY (gS_X hI1) eL_areGroups_167 (j := 6) (N := 30) (x := κ 20 1 k) (by decide) rfl (by omega) ((hrow1 k (by omega) (by omega)).1.trans (w_ea (gS_j hI) (k := k) (by omega)).1) ?_
                      refine g_ial hY (gS_X hI1) eL_areGroups_168 (j := 3) (N := 30) (x := κ 35 (κ 20 1 k) 0) (by decide) rfl (by omega) hgk.symm ?_
                      refine z_iload hY eL_areGroups_169 2 rfl ?_
                      refine z_icmpeq hY eL_areGroups_171 (by omega) (fun c171 => ?_) (fun c171 => ?_)
                      · refine z_iload hY eL_areGroups_177 5 rfl ?_
                        refine z_ifne hY eL_areGroups_179 (by omega) (fun c179 => ?_) (fun c179 => ?_)
                        · refine z_iinc hY eL_areGroups_191 5 rfl (ls' := [(5, z_i (w + 1)), (0, .ref (A 40)), (1, z_i (my ρ)), (4, z_i g), (2, z_i r2), (8, z_i k), (7, z_i b), (6, z_i t2)]) rfl ?_
                          refine z_iload hY eL_areGroups_194 7 rfl ?_
                          refine z_iload hY eL_areGroups_196 0 rfl ?_
                          refine z_const hY eL_areGroups_198 ?_
                          refine z_icmpge hY eL_areGroups_199 (by omega) (fun c199 => ?_) (fun c199 => ?_)
                          · refine z_const hY eL_areGroups_209 ?_
                            refine z_iadd hY eL_areGroups_210 ?_
                            refine z_top (b := t2) (by omega) ?_
                            refine z_istore hY eL_areGroups_211 (ls' := [(6, z_i t2), (5, z_i (w + 1)), (0, .ref (A 40)), (1, z_i (my ρ)), (4, z_i g), (2, z_i r2), (8, z_i k), (7, z_i b)]) rfl ?_
                            refine z_iinc hY eL_areGroups_213 6 rfl (ls' := [(8, z_i (k + 1)), (6, z_i t2), (5, z_i (w + 1)), (0, .ref (A 40)), (1, z_i (my ρ)), (4, z_i g), (2, z_i r2), (7, z_i b)]) rfl ?_
                            refine z_goto hY eL_areGroups_216 ?_
                            refine z_sub [3, 4, 5, 6, 0, 2, 7, 1] (ls' := [(0, .ref (A 40)), (1, z_i (my ρ)), (4, z_i g), (2, z_i r2), (8, z_i (k + 1)), (5, z_i (w + 1)), (7, z_i b), (6, z_i t2)]) rfl ?_
                            exact ih151 (k + 1) (w + 1) b t2 u (by omega) (by omega) (by rw [z_smS (by omega), ← hw, if_pos (by omega)]) (by rcases hbs with c9 | c9; (exfalso; omega); (exact Or.inr ⟨by omega, c9.2.1, by omega, c9.2.2.2⟩)) (by have c9 := hts.resolve_left (by omega); exact Or.inr ⟨by omega, c9.2⟩) (by omega)
                          · refine z_iload hY eL_areGroups_202 5 rfl ?_
                            refine z_const hY eL_areGroups_204 ?_
                            refine z_iadd hY eL_areGroups_205 ?_
                            refine z_goto hY eL_areGroups_206 ?_
                            refine z_iadd hY eL_areGroups_210 ?_
                            refine z_top (b := t2 + k + 1) (by omega) ?_
                            refine z_istore hY eL_areGroups_211 (ls' := [(6, z_i (t2 + k + 1)), (5, z_i (w + 1)), (0, .ref (A 40)), (1, z_i (my ρ)), (4, z_i g), (2, z_i r2), (8, z_i k), (7, z_i b)]) rfl ?_
                            refine z_iinc hY eL_areGroups_213 6 rfl (ls' := [(8, z_i (k + 1)), (6, z_i (t2 + k + 1)), (5, z_i (w + 1)), (0, .ref (A 40)), (1, z_i (my ρ)), (4, z_i g), (2, z_i r2), (7, z_i b)]) rfl ?_
                            refine z_goto hY eL_areGroups_216 ?_
                            refine z_sub [3, 4, 5, 6, 0, 2, 7, 1] (ls' := [(0, .ref (A 40)), (1, z_i (my ρ)), (4, z_i g), (2, z_i r2), (8, z_i (k + 1)), (5, z_i (w + 1)), (7, z_i b), (6, z_i (t2 + k + 1))]) rfl ?_
                            exact ih151 (k + 1) (w + 1) b (t2 + k + 1) u (by omega) (by omega) (by rw [z_smS (by omega), ← hw, if_pos (by omega)]) (by rcases hbs with c9 | c9; (exfalso; omega); (exact Or.inr ⟨by omega, c9.2.1, by omega, c9.2.2.2⟩)) (by have c9 := hts.resolve_right (by omega); have c8 := (ts_y (κ := κ) (g := g) (n := κ 24 1 0) (i := k) (c := w) (s := t2) (by omega) (by omega) (by omega)).symm.trans c9.2; by_cases c7 : w + 1 < 3; (exact Or.inl ⟨c7, c8⟩); (exact Or.inr ⟨by omega, c8.symm.trans ((ts_e (Or.inr (by omega))).trans (if_pos (by omega)))⟩)) (by omega)
                        · refine z_aload hY eL_areGroups_182 0 rfl ?_
                          refine g_gf hY (gS_X hI1) eL_areGroups_183 (v := .ref (A 6)) rfl ?_
                          refine z_iload hY eL_areGroups_186 4 rfl ?_
                          refine g_ial hY (gS_X hI1) eL_areGroups_188 (j := 6) (N := 30) (x := κ 20 1 k) (by decide) rfl (by omega) ((hrow1 k (by omega) (by omega)).1.trans (w_ea (gS_j hI) (k := k) (by omega)).1) ?_
                          refine z_istore hY eL_areGroups_189 (ls' := [(7, z_i (κ 20 1 k)), (0, .ref (A 40)), (1, z_i (my ρ)), (4, z_i g), (2, z_i r2), (8, z_i k), (5, z_i w), (6, z_i t2)]) rfl ?_
                          refine z_iinc hY eL_areGroups_191 6 rfl (ls' := [(5, z_i (w + 1)), (7, z_i (κ 20 1 k)), (0, .ref (A 40)), (1, z_i (my ρ)), (4, z_i g), (2, z_i r2), (8, z_i k), (6, z_i t2)]) rfl ?_
                          refine z_iload hY eL_areGroups_194 7 rfl ?_
                          refine z_iload hY eL_areGroups_196 0 rfl ?_
                          refine z_const hY eL_areGroups_198 ?_
                          refine z_icmpge hY eL_areGroups_199 (by omega) (fun c199 => ?_) (fun c199 => ?_)
                          · refine z_const hY eL_areGroups_209 ?_
                            refine z_iadd hY eL_areGroups_210 ?_
                            refine z_top (b := t2) (by omega) ?_
                            refine z_istore hY eL_areGroups_211 (ls' := [(6, z_i t2), (5, z_i (w + 1)), (7, z_i (κ 20 1 k)), (0, .ref (A 40)), (1, z_i (my ρ)), (4, z_i g), (2, z_i r2), (8, z_i k)]) rfl ?_
                            refine z_iinc hY eL_areGroups_213 7 rfl (ls' := [(8, z_i (k + 1)), (6, z_i t2), (5, z_i (w + 1)), (7, z_i (κ 20 1 k)), (0, .ref (A 40)), (1, z_i (my ρ)), (4, z_i g), (2, z_i r2)]) rfl ?_
                            refine z_goto hY eL_areGroups_216 ?_
                            refine z_sub [4, 5, 6, 7, 0, 2, 3, 1] (ls' := [(0, .ref (A 40)), (1, z_i (my ρ)), (4, z_i g), (2, z_i r2), (8, z_i (k + 1)), (5, z_i (w + 1)), (7, z_i (κ 20 1 k)), (6, z_i t2)]) rfl ?_
                            exact ih151 (k + 1) (w + 1) (κ 20 1 k) t2 k (by omega) (by omega) (by rw [z_smS (by omega), ← hw, if_pos (by omega)]) (by rcases hbs with c9 | c9; (exact Or.inr ⟨by omega, by omega, by omega, rfl, by omega, c9.2.2⟩); (exfalso; omega)) (by have c9 := hts.resolve_left (by omega); exact Or.inr ⟨by omega, c9.2⟩) (by omega)
                          · refine z_iload hY eL_areGroups_202 6 rfl ?_
                            refine z_const hY eL_areGroups_204 ?_
                            refine z_iadd hY eL_areGroups_205 ?_
                            refine z_goto hY eL_areGroups_206 ?_
                            refine z_iadd hY eL_areGroups_210 ?_
                            refine z_top (b := t2 + k + 1) (by omega) ?_
                            refine z_istore hY eL_areGroups_211 (ls' := [(6, z_i (t2 + k + 1)), (5, z_i (w + 1)), (7, z_i (κ 20 1 k)), (0, .ref (A 40)), (1, z_i (my ρ)), (4, z_i g), (2, z_i r2), (8, z_i k)]) rfl ?_
                            refine z_iinc hY eL_areGroups_213 7 rfl (ls' := [(8, z_i (k + 1)), (6, z_i (t2 + k + 1)), (5, z_i (w + 1)), (7, z_i (κ 20 1 k)), (0, .ref (A 40)), (1, z_i (my ρ)), (4, z_i g), (2, z_i r2)]) rfl ?_
                            refine z_goto hY eL_areGroups_216 ?_
                            refine z_sub [4, 5, 6, 7, 0, 2, 3, 1] (ls' := [(0, .ref (A 40)), (1, z_i (my ρ)), (4, z_i g), (2, z_i r2), (8, z_i (k + 1)), (5, z_i (w + 1)), (7, z_i (κ 20 1 k)), (6, z_i (t2 + k + 1))]) rfl ?_
                            exact ih151 (k + 1) (w + 1) (κ 20 1 k) (t2 + k + 1) k (by omega) (by omega) (by rw [z_smS (by omega), ← hw, if_pos (by omega)]) (by rcases hbs with c9 | c9; (exact Or.inr ⟨by omega, by omega, by omega, rfl, by omega, c9.2.2⟩); (exfalso; omega)) (by have c9 := hts.resolve_right (by omega); have c8 := (ts_y (κ := κ) (g := g) (n := κ 24 1 0) (i := k) (c := w) (s := t2) (by omega) (by omega) (by omega)).symm.trans c9.2; by_cases c7 : w + 1 < 3; (exact Or.inl ⟨c7, c8⟩); (exact Or.inr ⟨by omega, c8.symm.trans ((ts_e (Or.inr (by omega))).trans (if_pos (by omega)))⟩)) (by omega)
                      · refine z_goto hY eL_areGroups_174 ?_
                        refine z_iinc hY eL_areGroups_213 4 rfl (ls' := [(8, z_i (k + 1)), (0, .ref (A 40)), (1, z_i (my ρ)), (4, z_i g), (2, z_i r2), (5, z_i w), (7, z_i b), (6, z_i t2)]) rfl ?_
                        refine z_goto hY eL_areGroups_216 ?_
                        refine z_sub [1, 2, 3, 4, 0, 5, 6, 7] (ls' := [(0, .ref (A 40)), (1, z_i (my ρ)), (4, z_i g), (2, z_i r2), (8, z_i (k + 1)), (5, z_i w), (7, z_i b), (6, z_i t2)]) rfl ?_
                        exact ih151 (k + 1) w b t2 u (by omega) (by omega) (by rw [z_smS (by omega), ← hw, if_neg (by omega)]; omega) (by rcases hbs with c9 | c9; (exact Or.inl ⟨c9.1, c9.2.1, fun i i0 i1 => by by_cases c8 : i = k; (rw [c8]; omega); (exact c9.2.2 i i0 (by omega))⟩); (exact Or.inr ⟨c9.1, c9.2.1, by omega, c9.2.2.2⟩)) (by rcases hts with c9 | c9; (exact Or.inl ⟨c9.1, (ts_n (by omega) (by omega) (by omega)).symm.trans c9.2⟩); (exact Or.inr c9)) (by omega)
                exact lp151 _ 0 0 (-1) 0 0 (Nat.lt_succ_self _) (by omega) (z_sm0 (by omega)).symm (Or.inl ⟨rfl, rfl, fun i _ _ => by omega⟩) (Or.inl ⟨by omega, rfl⟩) (by omega)
          refine z_widen (k' := (46 + 3 * (0 : Int).toNat)) (n' := (276 + 18 * (0 : Int).toNat)) (by omega) (by omega) ?_
          exact lp133 _ 0 r (Nat.lt_succ_self _) (by omega) (by rw [z_sm0 (by omega)]; omega) (by omega)
        · obtain ⟨hgr, rfl, rfl⟩ := q
          refine z_heq (show _ = gH D B κ A σ1 h from rfl) ?_
          have hpN : p ≤ N := by by_cases c9 : p ≤ N; exact c9; exact absurd (hg2 p (by omega)) hgr
          obtain ⟨hgp, hgl, hgh, hgt⟩ := hg1 p (by omega) hpN
          refine z_top (b := l (p - 1)) hgp ?_
          refine z_istore hY eL_areGroups_27 (ls' := [(5, z_i (l (p - 1))), (0, .ref (A 40)), (1, z_i (my ρ)), (4, z_i p), (2, z_i r), (3, z_i last)]) rfl ?_
          refine z_goto hY eL_areGroups_29 ?_
          refine z_iinc hY eL_areGroups_37 4 rfl (ls' := [(2, z_i (r + 1)), (5, z_i (l (p - 1))), (0, .ref (A 40)), (1, z_i (my ρ)), (4, z_i p), (3, z_i last)]) rfl ?_
          refine z_iload hY eL_areGroups_40 5 rfl ?_
          refine z_const hY eL_areGroups_41 ?_
          refine z_icmpeq hY eL_areGroups_42 (by omega) (fun c42 => ?_) (fun c42 => ?_)
          · refine z_iload hY eL_areGroups_121 1 rfl ?_
            refine z_istore hY eL_areGroups_123 (ls' := [(3, z_i (l (p - 1))), (2, z_i (r + 1)), (5, z_i (l (p - 1))), (0, .ref (A 40)), (1, z_i (my ρ)), (4, z_i p)]) rfl ?_
            refine z_iinc hY eL_areGroups_124 5 rfl (ls' := [(4, z_i (p + 1)), (3, z_i (l (p - 1))), (2, z_i (r + 1)), (5, z_i (l (p - 1))), (0, .ref (A 40)), (1, z_i (my ρ))]) rfl ?_
            refine z_goto hY eL_areGroups_127 ?_
            refine z_sub [4, 5, 0, 2, 1] (ls' := [(0, .ref (A 40)), (1, z_i (my ρ)), (4, z_i (p + 1)), (2, z_i (r + 1)), (3, z_i (l (p - 1)))]) rfl ?_
            refine z_widen (k' := (9 * ((p + 1) - 1).toNat)) (n' := (54 * ((p + 1) - 1).toNat)) (by omega) (by omega) ?_
            exact ih12 (p + 1) (r + 1) (l (p - 1)) (by omega) (by omega) (by omega) (Or.inr ⟨by omega, by rw [show p + 1 - 2 = p - 1 by omega]⟩) (by omega)
          · have hgo := hg3 p (by omega) hpN
            have hl0 := hg1 (p - 1) (by omega) (by omega)
            have hl2 : last = l (p - 2) := by omega
            rw [show p - 1 - 1 = p - 2 by omega] at hl0
            rw [← hl2] at hl0 hgo
            obtain ⟨-, hl3, hl4, hl5⟩ := hl0
            unfold gO at hgo
            refine z_aload hY eL_areGroups_45 2 rfl ?_
            refine g_gf hY (gS_X hI1) eL_areGroups_46 (v := .ref (B 0 0)) rfl ?_
            refine z_iload hY eL_areGroups_49 5 rfl ?_
            refine z_callV (As := [z_i last]) (rest := []) hY eL_areGroups_50 (q_teamScore (D := D) (h := lH A (B 0 0) σ1 h) hG (gS_J hI1) (gS_B hI1) (gS_V hI1) (gS_S hI1) (by omega)) (cH_at (t := 0) (i := 0) (gS_J hI1) (by omega)) (by decide) (Nat.le_of_ble_eq_true rfl) (by rw [hmc, hms]; omega) (fun E9 h9 q => by obtain ⟨-, q⟩ := q; exfalso; omega) (fun vv16 hh16 q16 => ?_)
            obtain ⟨-, rfl, rfl⟩ := q16
            refine z_heq (show _ = gH D B κ A σ1 h from rfl) ?_
            have hts50 := cTs_b (gS_V hI) last
            refine z_aload hY eL_areGroups_53 2 rfl ?_
            refine g_gf hY (gS_X hI1) eL_areGroups_54 (v := .ref (B 0 0)) rfl ?_
            refine z_iload hY eL_areGroups_57 1 rfl ?_
            refine z_callV (As := [z_i (l (p - 1))]) (rest := [z_i (cTs κ last)]) hY eL_areGroups_59 (q_teamScore (D := D) (h := lH A (B 0 0) σ1 h) hG (gS_J hI1) (gS_B hI1) (gS_V hI1) (gS_S hI1) (by omega)) (cH_at (t := 0) (i := 0) (gS_J hI1) (by omega)) (by decide) (Nat.le_of_ble_eq_true rfl) (by rw [hmc, hms]; omega) (fun E9 h9 q => by obtain ⟨-, q⟩ := q; exfalso; omega) (fun vv18 hh18 q18 => ?_)
            obtain ⟨-, rfl, rfl⟩ := q18
            refine z_heq (show _ = gH D B κ A σ1 h from rfl) ?_
            have hts59 := cTs_b (gS_V hI) (l (p - 1))
            refine z_icmpgt hY eL_areGroups_62 (by omega) (fun c62 => by exfalso; omega) (fun c62 => ?_)
            refine z_aload hY eL_areGroups_65 2 rfl ?_
            refine g_gf hY (gS_X hI1) eL_areGroups_66 (v := .ref (B 0 0)) rfl ?_
            refine z_iload hY eL_areGroups_69 5 rfl ?_
            refine z_callV (As := [z_i last]) (rest := []) hY eL_areGroups_70 (q_teamScore (D := D) (h := lH A (B 0 0) σ1 h) hG (gS_J hI1) (gS_B hI1) (gS_V hI1) (gS_S hI1) (by omega)) (cH_at (t := 0) (i := 0) (gS_J hI1) (by omega)) (by decide) (Nat.le_of_ble_eq_true rfl) (by rw [hmc, hms]; omega) (fun E9 h9 q => by obtain ⟨-, q⟩ := q; exfalso; omega) (fun vv20 hh20 q20 => ?_)
            obtain ⟨-, rfl, rfl⟩ := q20
            refine z_heq (show _ = gH D B κ A σ1 h from rfl) ?_
            have hts70 := cTs_b (gS_V hI) last
            refine z_aload hY eL_areGroups_73 2 rfl ?_
            refine g_gf hY (gS_X hI1) eL_areGroups_74 (v := .ref (B 0 0)) rfl ?_
            refine z_iload hY eL_areGroups_77 1 rfl ?_
            refine z_callV (As := [z_i (l (p - 1))]) (rest := [z_i (cTs κ last)]) hY eL_areGroups_79 (q_teamScore (D := D) (h := lH A (B 0 0) σ1 h) hG (gS_J hI1) (gS_B hI1) (gS_V hI1) (gS_S hI1) (by omega)) (cH_at (t := 0) (i := 0) (gS_J hI1) (by omega)) (by decide) (Nat.le_of_ble_eq_true rfl) (by rw [hmc, hms]; omega) (fun E9 h9 q => by obtain ⟨-, q⟩ := q; exfalso; omega) (fun vv22 hh22 q22 => ?_)
            obtain ⟨-, rfl, rfl⟩ := q22
            refine z_heq (show _ = gH D B κ A σ1 h from rfl) ?_
            have hts79 := cTs_b (gS_V hI) (l (p - 1))
            refine z_icmpne hY eL_areGroups_82 (by omega) (fun c82 => ?_) (fun c82 => ?_)
            · refine z_iload hY eL_areGroups_121 1 rfl ?_
              refine z_istore hY eL_areGroups_123 (ls' := [(3, z_i (l (p - 1))), (2, z_i (r + 1)), (5, z_i (l (p - 1))), (0, .ref (A 40)), (1, z_i (my ρ)), (4, z_i p)]) rfl ?_
              refine z_iinc hY eL_areGroups_124 5 rfl (ls' := [(4, z_i (p + 1)), (3, z_i (l (p - 1))), (2, z_i (r + 1)), (5, z_i (l (p - 1))), (0, .ref (A 40)), (1, z_i (my ρ))]) rfl ?_
              refine z_goto hY eL_areGroups_127 ?_
              refine z_sub [4, 5, 0, 2, 1] (ls' := [(0, .ref (A 40)), (1, z_i (my ρ)), (4, z_i (p + 1)), (2, z_i (r + 1)), (3, z_i (l (p - 1)))]) rfl ?_
              refine z_widen (k' := (9 * ((p + 1) - 1).toNat)) (n' := (54 * ((p + 1) - 1).toNat)) (by omega) (by omega) ?_
              exact ih12 (p + 1) (r + 1) (l (p - 1)) (by omega) (by omega) (by omega) (Or.inr ⟨by omega, by rw [show p + 1 - 2 = p - 1 by omega]⟩) (by omega)
            · refine z_aload hY eL_areGroups_85 2 rfl ?_
              refine g_gf hY (gS_X hI1) eL_areGroups_86 (v := .ref (B 0 0)) rfl ?_
              refine z_aload hY eL_areGroups_89 2 rfl ?_
              refine g_gf hY (gS_X hI1) eL_areGroups_90 (v := .ref (B 0 0)) rfl ?_
              refine z_iload hY eL_areGroups_93 5 rfl ?_
              refine z_callV (As := [z_i last]) (rest := [.ref (B 0 0)]) hY eL_areGroups_94 (q_best (D := D) (h := lH A (B 0 0) σ1 h) hG (gS_J hI1) (gS_B hI1) (gS_V hI1) (gS_S hI1) (by omega)) (cH_at (t := 0) (i := 0) (gS_J hI1) (by omega)) (by decide) (Nat.le_of_ble_eq_true rfl) (by rw [hmc, hms]; omega) (fun E9 h9 q => by obtain ⟨-, q⟩ := q; exfalso; omega) (fun vv24 hh24 q24 => ?_)
              obtain ⟨-, rfl, rfl⟩ := q24
              refine z_heq (show _ = gH D B κ A σ1 h from rfl) ?_
              have hfi94 := fi_s κ last
              have hfn94 := ts_fi (κ := κ) (g := last) (by omega) (by assumption)
              have hpx94 := (gS_R hI).xsp (i := cFi κ last - 1) (by omega)
              have hcp94 := gS_cpr hI1 hpx94
              have h3794 := (gS_R hI).s.2 (cFi κ last - 1) (by omega) (by omega)
              refine z_top (b := κ 20 1 (cFi κ last - 1)) ((if_neg (by omega)).trans (jR.xn34 (gS_S hI) (gS_R hI) hpx94)) ?_
              refine z_callV (As := [z_i (κ 20 1 (cFi κ last - 1))]) (rest := []) hY eL_areGroups_97 (q_place (D := D) (h := lH A (B 0 0) σ1 h) hG (gS_J hI1) (gS_B hI1) (gS_V hI1) (gS_S hI1) (by omega)) (cH_at (t := 0) (i := 0) (gS_J hI1) (by omega)) (by decide) (Nat.le_of_ble_eq_true rfl) (by rw [hmc, hms]; omega) (fun E9 h9 q => by obtain ⟨-, q⟩ := q; exfalso; omega) (fun vv26 hh26 q26 => ?_)
              obtain ⟨-, rfl, rfl⟩ := q26
              refine z_heq (show _ = gH D B κ A σ1 h from rfl) ?_
              refine z_aload hY eL_areGroups_100 2 rfl ?_
              refine g_gf hY (gS_X hI1) eL_areGroups_101 (v := .ref (B 0 0)) rfl ?_
              refine z_aload hY eL_areGroups_104 2 rfl ?_
              refine g_gf hY (gS_X hI1) eL_areGroups_105 (v := .ref (B 0 0)) rfl ?_
              refine z_iload hY eL_areGroups_108 1 rfl ?_
              refine z_callV (As := [z_i (l (p - 1))]) (rest := [.ref (B 0 0), z_i (κ 37 (κ 20 1 (cFi κ last - 1)) 0)]) hY eL_areGroups_110 (q_best (D := D) (h := lH A (B 0 0) σ1 h) hG (gS_J hI1) (gS_B hI1) (gS_V hI1) (gS_S hI1) (by omega)) (cH_at (t := 0) (i := 0) (gS_J hI1) (by omega)) (by decide) (Nat.le_of_ble_eq_true rfl) (by rw [hmc, hms]; omega) (fun E9 h9 q => by obtain ⟨-, q⟩ := q; exfalso; omega) (fun vv28 hh28 q28 => ?_)
              obtain ⟨-, rfl, rfl⟩ := q28
              refine z_heq (show _ = gH D B κ A σ1 h from rfl) ?_
              have hfi110 := fi_s κ (l (p - 1))
              have hfn110 := ts_fi (κ := κ) (g := (l (p - 1))) (by omega) (by assumption)
              have hpx110 := (gS_R hI).xsp (i := cFi κ (l (p - 1)) - 1) (by omega)
              have hcp110 := gS_cpr hI1 hpx110
              have h37110 := (gS_R hI).s.2 (cFi κ (l (p - 1)) - 1) (by omega) (by omega)
              refine z_top (b := κ 20 1 (cFi κ (l (p - 1)) - 1)) ((if_neg (by omega)).trans (jR.xn34 (gS_S hI) (gS_R hI) hpx110)) ?_
              refine z_callV (As := [z_i (κ 20 1 (cFi κ (l (p - 1)) - 1))]) (rest := [z_i (κ 37 (κ 20 1 (cFi κ last - 1)) 0)]) hY eL_areGroups_113 (q_place (D := D) (h := lH A (B 0 0) σ1 h) hG (gS_J hI1) (gS_B hI1) (gS_V hI1) (gS_S hI1) (by omega)) (cH_at (t := 0) (i := 0) (gS_J hI1) (by omega)) (by decide) (Nat.le_of_ble_eq_true rfl) (by rw [hmc, hms]; omega) (fun E9 h9 q => by obtain ⟨-, q⟩ := q; exfalso; omega) (fun vv30 hh30 q30 => ?_)
              obtain ⟨-, rfl, rfl⟩ := q30
              refine z_heq (show _ = gH D B κ A σ1 h from rfl) ?_
              refine z_icmple hY eL_areGroups_116 (by omega) (fun c116 => ?_) (fun c116 => by exfalso; omega)
              refine z_iload hY eL_areGroups_121 1 rfl ?_
              refine z_istore hY eL_areGroups_123 (ls' := [(3, z_i (l (p - 1))), (2, z_i (r + 1)), (5, z_i (l (p - 1))), (0, .ref (A 40)), (1, z_i (my ρ)), (4, z_i p)]) rfl ?_
              refine z_iinc hY eL_areGroups_124 5 rfl (ls' := [(4, z_i (p + 1)), (3, z_i (l (p - 1))), (2, z_i (r + 1)), (5, z_i (l (p - 1))), (0, .ref (A 40)), (1, z_i (my ρ))]) rfl ?_
              refine z_goto hY eL_areGroups_127 ?_
              refine z_sub [4, 5, 0, 2, 1] (ls' := [(0, .ref (A 40)), (1, z_i (my ρ)), (4, z_i (p + 1)), (2, z_i (r + 1)), (3, z_i (l (p - 1)))]) rfl ?_
              refine z_widen (k' := (9 * ((p + 1) - 1).toNat)) (n' := (54 * ((p + 1) - 1).toNat)) (by omega) (by omega) ?_
              exact ih12 (p + 1) (r + 1) (l (p - 1)) (by omega) (by omega) (by omega) (Or.inr ⟨by omega, by rw [show p + 1 - 2 = p - 1 by omega]⟩) (by omega)
  refine z_widen (k' := (9 * ((1 : Int) - 1).toNat)) (n' := (54 * ((1 : Int) - 1).toNat)) (by omega) (by omega) ?_
  exact lp12 _ 1 0 (-1) (Nat.lt_succ_self _) (by omega) (by omega) (by omega) (by omega)
end LV10
