/-! ROWS of the law's own body: the script, rows of longs and doubles, floats, the switch. -/
section LV
variable {Y : z_Y} {d : Nat} {M M' : z_M} {pc pc' : Nat} {ls ls' : List (Nat × Value)} {st st' rest : List Value} {h : z_H} {k n : Nat}
/-- the law's script: L ints at the cell b, in the heap at the start -/
def z_Xs (G : z_G) (b L : Nat) (xs : Nat → Int32) : Prop := va_X b L xs G.2.1 G.2.1.heap ∧ b < z_b G
def zX (xs : Nat → Int32) (i : Int) : Int := (xs i.toNat).toInt
theorem zX_r (xs : Nat → Int32) (i : Int) : -2147483648 ≤ zX xs i ∧ zX xs i ≤ 2147483647 := z_rg _
theorem z_sld {b L : Nat} {xs : Nat → Int32} {i : Int} (hY : z_ok Y d M) (dd : z_at M pc .iaload 1 pc') (hX : z_Xs (z_gg Y) b L xs) (hi : 0 ≤ i ∧ i < L ∧ L ≤ 2147483647) (kk : z_W Y pc' ls (z_i (zX xs i) :: st) h k n) : z_W Y pc ls (z_i i :: .ref b :: st) h k n := by
  obtain ⟨G, ⟨p, e, R, s, m, args, below, meth, c⟩, nL, mc, ms, φ, ψ⟩ := Y
  obtain ⟨hG, hx, hb, -, -, hown, -, -, hW, -⟩ := hY
  obtain ⟨d1, rfl⟩ := dd
  intro H locs lsA hR hL hlv
  have kk := kk H locs lsA hR hL hlv
  obtain ⟨v1, v2⟩ := z_nat (i := i) (N := L) (by omega) (by omega)
  have hS : va_S (z_A G) G.2.1.heap H locs := ⟨hR.2.1, fun q hq1 _ => hR.2.2 q hq1, hL⟩
  refine va_sld (A := z_A G) hx hb (va_X.moved hW.alike hX.1) hX.2 (Nat.not_le.mpr hX.2) hS v1 d1 ?_
  rw [v2, z_of]
  exact kk
theorem z_slen {b L : Nat} {xs : Nat → Int32} (hY : z_ok Y d M) (dd : z_at M pc .arraylength 1 pc') (hX : z_Xs (z_gg Y) b L xs) (kk : z_W Y pc' ls (z_i L :: st) h k n) : z_W Y pc ls (.ref b :: st) h k n := by
  obtain ⟨G, ⟨p, e, R, s, m, args, below, meth, c⟩, nL, mc, ms, φ, ψ⟩ := Y
  obtain ⟨hG, hx, hb, -, -, hown, -, -, hW, -⟩ := hY
  obtain ⟨d1, rfl⟩ := dd
  intro H locs lsA hR hL hlv
  have kk := kk H locs lsA hR hL hlv
  have hS : va_S (z_A G) G.2.1.heap H locs := ⟨hR.2.1, fun q hq1 _ => hR.2.2 q hq1, hL⟩
  refine va_slen (A := z_A G) hx hb (va_X.moved hW.alike hX.1) hX.2 (Nat.not_le.mpr hX.2) hS d1 ?_
  rw [show Int32.ofNat L = Int32.ofInt L from Int32.ofInt_eq_ofNat.symm]
  exact kk
theorem z_newL {N : Nat} (hY : z_ok Y d M) (dd : z_at M pc (.newarray .long) 2 pc') (hN : N ≤ 100000) (hk : k + 1 ≤ z_mc Y ∧ n + N ≤ z_ms Y) (kk : ∀ q : Nat, h q = none → z_W Y pc' ls (.ref q :: st) (z_set h q (z_la N (fun _ => 0))) (k + 1) (n + N)) : z_W Y pc ls (z_i N :: st) h k n := by
  obtain ⟨G, ⟨p, e, R, s, m, args, below, meth, c⟩, nL, mc, ms, φ, ψ⟩ := Y
  obtain ⟨hG, hx, hb, -, -, hown, -, -, hW, -, hRm, -⟩ := hY
  obtain ⟨d1, rfl⟩ := dd
  subst hRm
  intro H locs lsA hR hL hlv
  have h1 : (Int32.ofInt N).toInt = N := z_toInt (by omega)
  refine va_newaK (atype := .long) (N := N) hx hb (z_wd hG hW wAL rfl) rfl d1 rfl (by rw [z_0, z_lt (by omega)]; omega) (by show (Int32.ofInt N).toInt.toNat = N; rw [h1]; omega) (by show N * 8 ≤ _; omega) hk.1 hk.2 rfl fun H1 cA e1 e2 e3 _ e5 => ?_
  have hcA : cA = G.2.2.2.1 3 := Option.some.inj (e5.symm.trans (((z_K hG hW).2 3 _ rfl).2 : s.vm.findClass _ = some _))
  subst hcA
  obtain ⟨g1, g2⟩ := hR.push (c := z_la N (fun _ => 0)) e1 e2 e3
  exact kk H.size g2 H1 locs lsA g1 hL hlv
theorem z_newD {N : Nat} (hY : z_ok Y d M) (dd : z_at M pc (.newarray .double) 2 pc') (hN : N ≤ 100000) (hk : k + 1 ≤ z_mc Y ∧ n + N ≤ z_ms Y) (kk : ∀ q : Nat, h q = none → z_W Y pc' ls (.ref q :: st) (z_set h q (z_da N (fun _ => 0))) (k + 1) (n + N)) : z_W Y pc ls (z_i N :: st) h k n := by
  obtain ⟨G, ⟨p, e, R, s, m, args, below, meth, c⟩, nL, mc, ms, φ, ψ⟩ := Y
  obtain ⟨hG, hx, hb, -, -, hown, -, -, hW, -, hRm, -⟩ := hY
  obtain ⟨d1, rfl⟩ := dd
  subst hRm
  intro H locs lsA hR hL hlv
  have h1 : (Int32.ofInt N).toInt = N := z_toInt (by omega)
  refine va_newaK (atype := .double) (N := N) hx hb (z_wd hG hW wAD rfl) rfl d1 rfl (by rw [z_0, z_lt (by omega)]; omega) (by show (Int32.ofInt N).toInt.toNat = N; rw [h1]; omega) (by show N * 8 ≤ _; omega) hk.1 hk.2 rfl fun H1 cA e1 e2 e3 _ e5 => ?_
  have hcA : cA = G.2.2.2.1 4 := Option.some.inj (e5.symm.trans (((z_K hG hW).2 4 _ rfl).2 : s.vm.findClass _ = some _))
  subst hcA
  obtain ⟨g1, g2⟩ := hR.push (c := z_da N (fun _ => 0)) e1 e2 e3
  exact kk H.size g2 H1 locs lsA g1 hL hlv
theorem z_daload {a N : Nat} {i : Int} {f : Int → UInt64} (hY : z_ok Y d M) (dd : z_at M pc .daload 1 pc') (ha : h a = some (z_da N f)) (hi : 0 ≤ i ∧ i < N ∧ N ≤ 2147483647) (kk : z_W Y pc' ls (.double (f i) :: st) h k n) : z_W Y pc ls (z_i i :: .ref a :: st) h k n := by
  obtain ⟨G, ⟨p, e, R, s, m, args, below, meth, c⟩, nL, mc, ms, φ, ψ⟩ := Y
  obtain ⟨hG, hx, hb, -, -, hown, -, -, hW, -⟩ := hY
  obtain ⟨d1, rfl⟩ := dd
  intro H locs lsA hR hL hlv
  have kk := kk H locs lsA hR hL hlv
  obtain ⟨v1, v2⟩ := z_nat (i := i) (N := N) (by omega) (by omega)
  refine va_dald hx hb (z_K hG hW) (hR.at ha) 0 4 rfl rfl v1 d1 ?_
  rw [v2, Int.toNat_of_nonneg hi.1]
  exact kk
theorem z_f2d {x : UInt32} (hY : z_ok Y d M) (dd : z_at M pc .f2d 1 pc') (hx0 : vf_n64 (FP.f2d x)) (kk : z_W Y pc' ls (.double (FP.f2d x) :: st) h k n) : z_W Y pc ls (.float x :: st) h k n :=
  z_lift hY (fun p l e R s m args below meth c H locs cells slots Q lsA hx hb kk => by obtain ⟨d1, rfl⟩ := dd; exact lv_f2d hx hb d1 hx0 kk) kk
theorem z_dload {i : Nat} {x : UInt64} (hY : z_ok Y d M) (dd : z_at M pc (.dload i) 2 pc') (q : Nat) (hl : ls[q]? = some (i, .double x)) (kk : z_W Y pc' ls (.double x :: st) h k n) : z_W Y pc ls st h k n := by
  refine z_liftL hY (fun p l e R s m args below meth c H locs cells slots Q lsA hx hb hA kk => ?_) kk
  have h1 := lv_at hA q hl
  obtain ⟨d1, rfl⟩ := dd
  exact lv_dload hx hb d1 h1 (kk lsA hA)
theorem z_fload {i : Nat} {x : UInt32} (hY : z_ok Y d M) (dd : z_at M pc (.fload i) 2 pc') (q : Nat) (hl : ls[q]? = some (i, .float x)) (kk : z_W Y pc' ls (.float x :: st) h k n) : z_W Y pc ls st h k n := by
  refine z_liftL hY (fun p l e R s m args below meth c H locs cells slots Q lsA hx hb hA kk => ?_) kk
  have h1 := lv_at hA q hl
  obtain ⟨d1, rfl⟩ := dd
  exact lv_fload hx hb d1 h1 (kk lsA hA)
theorem z_dstore {i : Nat} {x : UInt64} (hY : z_ok Y d M) (dd : z_at M pc (.dstore i) 2 pc') (hn : i + 1 < M.2.2.1) (hl : (i, Value.double x) :: ls.filter (fun q => !(q.1 == i) && (!(q.1 == i + 1) && !(q.1 + 1 == i && q.2.category == 2))) = ls') (kk : z_W Y pc' ls' st h k n) : z_W Y pc ls (.double x :: st) h k n := by
  refine z_liftL hY (fun p l e R s m args below meth c H locs cells slots Q lsA hx hb hA kk => ?_) kk
  obtain ⟨d1, rfl⟩ := dd
  exact lv_dstore hx hb d1 hA hn hl kk
theorem z_fstore {i : Nat} {x : UInt32} (hY : z_ok Y d M) (dd : z_at M pc (.fstore i) 2 pc') (hn : i < M.2.2.1) (hl : (i, Value.float x) :: ls.filter (fun q => !(q.1 == i) && !(q.1 + 1 == i && q.2.category == 2)) = ls') (kk : z_W Y pc' ls' st h k n) : z_W Y pc ls (.float x :: st) h k n := by
  refine z_liftL hY (fun p l e R s m args below meth c H locs cells slots Q lsA hx hb hA kk => ?_) kk
  obtain ⟨d1, rfl⟩ := dd
  exact lv_fstore hx hb d1 hA hn hl kk
theorem z_cv (o : Option Ordering) (op : CmpOp) : -1 ≤ (Op.cmpValue o op).toInt ∧ (Op.cmpValue o op).toInt ≤ 1 := by
  rcases o with _ | (_ | _ | _) <;> cases op <;> decide
theorem z_dcmp {x y : UInt64} {op : CmpOp} (hY : z_ok Y d M) (dd : z_at M pc (.dcmp op) 1 pc') (kk : z_W Y pc' ls (z_i (Op.cmpValue (FP.dcmp x y) op).toInt :: st) h k n) : z_W Y pc ls (.double y :: .double x :: st) h k n :=
  z_lift hY (fun p l e R s m args below meth c H locs cells slots Q lsA hx hb kk => by obtain ⟨d1, rfl⟩ := dd; rw [← z_of] at kk; exact lv_dcmp hx hb d1 kk) kk
theorem z_fcmp {x y : UInt32} {op : CmpOp} (hY : z_ok Y d M) (dd : z_at M pc (.fcmp op) 1 pc') (kk : z_W Y pc' ls (z_i (Op.cmpValue (FP.fcmp x y) op).toInt :: st) h k n) : z_W Y pc ls (.float y :: .float x :: st) h k n :=
  z_lift hY (fun p l e R s m args below meth c H locs cells slots Q lsA hx hb kk => by obtain ⟨d1, rfl⟩ := dd; rw [← z_of] at kk; exact lv_fcmp hx hb d1 kk) kk
theorem z_and63 (y : Int) : Int32.ofInt y &&& Int32.ofInt 63 = Int32.ofInt (y % 64) := by
  apply Int32.toBitVec_inj.mp
  rw [Int32.toBitVec_and]
  apply BitVec.eq_of_toNat_eq
  rw [BitVec.toNat_and]
  show (BitVec.ofInt 32 y).toNat &&& 63 = (BitVec.ofInt 32 (y % 64)).toNat
  rw [BitVec.toNat_ofInt, BitVec.toNat_ofInt, show (63 : Nat) = 2 ^ 6 - 1 from rfl, Nat.and_two_pow_sub_one_eq_mod]
  omega
theorem z_iand63 {a : Int} (hY : z_ok Y d M) (dd : z_at M pc .iand 1 pc') (kk : z_W Y pc' ls (z_i (a % 64) :: st) h k n) : z_W Y pc ls (z_i 63 :: z_i a :: st) h k n := by
  refine z_lift hY (fun p l e R s m args below meth c H locs cells slots Q lsA hx hb kk => ?_) kk
  obtain ⟨d1, rfl⟩ := dd
  refine lv_iand hx hb d1 ?_
  rw [z_i, ← z_and63] at kk
  exact kk
theorem z_tswOut {dflt lo hi : Int} {offs : Array Int} {len tgt : Nat} {i : Int} (hY : z_ok Y d M) (dd : z_at M pc (.tableswitch dflt lo hi offs) len pc') (hr : -2147483648 ≤ i ∧ i ≤ 2147483647) (h1 : i < lo ∨ hi < i) (ht : (pc : Int) + dflt = (tgt : Int)) (kk : z_W Y tgt ls st h k n) : z_W Y pc ls (z_i i :: st) h k n :=
  z_lift hY (fun p l e R s m args below meth c H locs cells slots Q lsA hx hb kk => lv_tableOut hx hb dd.1 (by rw [z_toInt hr]; exact h1) ht kk) kk
theorem z_tswIn {dflt lo hi : Int} {offs : Array Int} {len tgt : Nat} {i off : Int} (hY : z_ok Y d M) (dd : z_at M pc (.tableswitch dflt lo hi offs) len pc') (hr : -2147483648 ≤ i ∧ i ≤ 2147483647) (h1 : ¬ i < lo) (h2 : ¬ hi < i) (ho : offs[(i - lo).toNat]? = some off) (ht : (pc : Int) + off = (tgt : Int)) (kk : z_W Y tgt ls st h k n) : z_W Y pc ls (z_i i :: st) h k n :=
  z_lift hY (fun p l e R s m args below meth c H locs cells slots Q lsA hx hb kk => lv_tableIn hx hb dd.1 (by rw [z_toInt hr]; exact h1) (by rw [z_toInt hr]; exact h2) (by rw [z_toInt hr]; exact ho) ht kk) kk
end LV
