/-! THE LAW's script is stirred (hand-written rows; laid by wip/p53/gen/gl88.py). -/
section LV14
section
variable {Y : z_Y} {d : Nat} {M M' : z_M} {pc pc' : Nat} {ls ls' : List (Nat × Value)} {st st' rest : List Value} {h : z_H} {k n : Nat}
/-- the law's script: L ints at the cell b, in the heap at the start -/
def z_Xs (G : z_G) (b L : Nat) (xs : Nat → Int32) : Prop := va_X b L xs G.2.1 G.2.1.heap ∧ b < z_b G
def zX (xs : Nat → Int32) (i : Int) : Int := (xs i.toNat).toInt
theorem z_sld {b L : Nat} {xs : Nat → Int32} {i : Int} (hY : z_ok Y d M) (dd : z_at M pc .iaload 1 pc') (hX : z_Xs (z_gg Y) b L xs) (hi : 0 ≤ i ∧ i < L ∧ L ≤ 2147483647) (kk : z_W Y pc' ls (z_i (zX xs i) :: st) h k n) : z_W Y pc ls (z_i i :: .ref b :: st) h k n := by
  obtain ⟨G, ⟨p, e, R, s, m, args, below, meth, c⟩, nL, mc, ms, φ, ψ⟩ := Y
  obtain ⟨hG, hx, hb, -, -, hown, -, -, hW, -⟩ := hY
  obtain ⟨d1, rfl⟩ := dd
  intro H locs lsA hR hL hlv
  have kk := kk H locs lsA hR hL hlv
  obtain ⟨v1, v2⟩ := z_nat (i := i) (N := L) (by omega) (by omega)
  have hS : va_S (z_A G) G.2.1.heap H locs := ⟨hR.2.1, fun q hq1 _ => hR.2.2 q hq1, hL⟩
  refine va_sld (A := z_A G) hx hb (va_X.moved hW.alike hX.1) hX.2 (Nat.not_le.mpr hX.2) hS v1 d1 ?_
  rw [v2, z_of]
  exact kk
theorem z_slen {b L : Nat} {xs : Nat → Int32} (hY : z_ok Y d M) (dd : z_at M pc .arraylength 1 pc') (hX : z_Xs (z_gg Y) b L xs) (kk : z_W Y pc' ls (z_i L :: st) h k n) : z_W Y pc ls (.ref b :: st) h k n := by
  obtain ⟨G, ⟨p, e, R, s, m, args, below, meth, c⟩, nL, mc, ms, φ, ψ⟩ := Y
  obtain ⟨hG, hx, hb, -, -, hown, -, -, hW, -⟩ := hY
  obtain ⟨d1, rfl⟩ := dd
  intro H locs lsA hR hL hlv
  have kk := kk H locs lsA hR hL hlv
  have hS : va_S (z_A G) G.2.1.heap H locs := ⟨hR.2.1, fun q hq1 _ => hR.2.2 q hq1, hL⟩
  refine va_slen (A := z_A G) hx hb (va_X.moved hW.alike hX.1) hX.2 (Nat.not_le.mpr hX.2) hS d1 ?_
  rw [show Int32.ofNat L = Int32.ofInt L from Int32.ofInt_eq_ofNat.symm]
  exact kk
theorem z_xorE {a b : Int} (hY : z_ok Y d M) (dd : z_at M pc .ixor 1 pc') (kk : ∀ c : Int, -2147483648 ≤ c ∧ c ≤ 2147483647 → z_W Y pc' ls (z_i c :: st) h k n) : z_W Y pc ls (z_i b :: z_i a :: st) h k n := by
  have kk := kk (Int32.ofInt a ^^^ Int32.ofInt b).toInt (z_rg _)
  refine z_lift hY (fun p l e R s m args below meth c H locs cells slots Q lsA hx hb kk => ?_) kk
  obtain ⟨d1, rfl⟩ := dd
  rw [← z_of] at kk
  exact lv_ixor hx hb d1 kk
theorem z_ushE {a b : Int} (hY : z_ok Y d M) (dd : z_at M pc .iushr 1 pc') (kk : ∀ c : Int, -2147483648 ≤ c ∧ c ≤ 2147483647 → z_W Y pc' ls (z_i c :: st) h k n) : z_W Y pc ls (z_i b :: z_i a :: st) h k n := by
  have kk := kk ((Int32.ofInt a).toUInt32 >>> ((Int32.ofInt b).toUInt32 &&& Int32.toUInt32 31)).toInt32.toInt (z_rg _)
  refine z_lift hY (fun p l e R s m args below meth c H locs cells slots Q lsA hx hb kk => ?_) kk
  obtain ⟨d1, rfl⟩ := dd
  rw [← z_of] at kk
  exact lv_iushr hx hb d1 rfl kk
theorem z_wrE {a : Int} (kk : ∀ c : Int, -2147483648 ≤ c ∧ c ≤ 2147483647 → z_W Y pc ls (z_i c :: st) h k n) : z_W Y pc ls (z_i a :: st) h k n := by
  rw [z_wrap]
  exact kk _ (z_rg _)
theorem z_ldcw {ix : Nat} {v : Int} (hY : z_ok Y d M) (dd : z_at M pc (.ldc_w ix) 3 pc') (hw : Cond.constant M.1.cls ix (Int32.ofInt v) ∈ lw_tbl) (kk : z_W Y pc' ls (z_i v :: st) h k n) : z_W Y pc ls st h k n := by
  obtain ⟨G, ⟨p, e, R, s, m, args, below, meth, c⟩, nL, mc, ms, φ, ψ⟩ := Y
  obtain ⟨hG, hx, hb, -, -, hown, -, -, hW, -⟩ := hY
  obtain ⟨d1, rfl⟩ := dd
  intro H locs lsA hR hL hlv
  exact lv_ldcw hx hb hown (z_wd hG hW hw rfl) d1 (kk H locs lsA hR hL hlv)
end
theorem kS_292 : (Jvm.Cond.constant "StandingsHallLaw" (292 : Nat) (59478 : Int32)) ∈ lw_tbl := z_in7 (List.mem_of_getElem? (i := 38) rfl)
theorem la_stirred {G : z_G} {h : z_H} (hG : z_OK G) {b L : Nat} {xs : Nat → Int32} (hX : z_Xs G b L xs) (hL : L ≤ 100000) : z_T G mL_stirred [.ref b] h 0 0 0 (fun v h' => ∃ r : Int, v = some (z_i r) ∧ (-2147483648 ≤ r ∧ r ≤ 2147483647) ∧ h' = h) z_no := by
  refine z_T_of hG pL_stirred (Nat.le_of_ble_eq_true rfl) (ls0 := [(0, .ref b)]) rfl fun Y hY hg hmc hms hφ hψ => ?_
  subst hg
  refine z_ldcw hY eL_stirred_0 (v := 59478) kS_292 ?_
  refine z_istore hY eL_stirred_3 (ls' := [(1, z_i 59478), (0, .ref b)]) rfl ?_
  refine z_aload hY eL_stirred_4 1 rfl ?_
  refine z_astore hY eL_stirred_5 (ls' := [(2, .ref b), (1, z_i 59478), (0, .ref b)]) rfl ?_
  refine z_aload hY eL_stirred_6 0 rfl ?_
  refine z_slen hY eL_stirred_7 hX ?_
  refine z_istore hY eL_stirred_8 (ls' := [(3, z_i L), (2, .ref b), (1, z_i 59478), (0, .ref b)]) rfl ?_
  refine z_const hY eL_stirred_9 ?_
  refine z_istore hY eL_stirred_10 (ls' := [(4, z_i 0), (3, z_i L), (2, .ref b), (1, z_i 59478), (0, .ref b)]) rfl ?_
  refine z_sub [2, 1, 0, 3] (ls' := [(2, .ref b), (3, z_i L), (4, z_i 0), (1, z_i 59478)]) rfl ?_
  have lp : ∀ (fu : Nat) (i q : Int), (L - i).toNat < fu → (0 ≤ i ∧ i ≤ L) → (-2147483648 ≤ q ∧ q ≤ 2147483647) → z_W Y 12 [(2, .ref b), (3, z_i L), (4, z_i i), (1, z_i q)] [] h 0 0 := by
    intro fu
    induction fu with
    | zero => intro i q hf; exact absurd hf (Nat.not_lt_zero _)
    | succ fu ih =>
      intro i q hf hi hq
      refine z_iload hY eL_stirred_12 2 rfl ?_
      refine z_iload hY eL_stirred_14 1 rfl ?_
      refine z_icmpge hY eL_stirred_15 (by omega) (fun c => ?_) (fun c => ?_)
      · refine z_iload hY eL_stirred_49 3 rfl ?_
        exact z_ireturn hY eL_stirred_50 rfl (by rw [hφ]; exact ⟨q, rfl, hq, rfl⟩) ⟨Nat.zero_le _, Nat.zero_le _⟩
      · refine z_aload hY eL_stirred_18 0 rfl ?_
        refine z_iload hY eL_stirred_19 2 rfl ?_
        refine z_sld hY eL_stirred_21 hX (by omega) ?_
        refine z_istore hY eL_stirred_22 (ls' := [(5, z_i (zX xs i)), (2, .ref b), (3, z_i L), (4, z_i i), (1, z_i q)]) rfl ?_
        refine z_iload hY eL_stirred_24 4 rfl ?_
        refine z_iload hY eL_stirred_25 0 rfl ?_
        refine z_xorE hY eL_stirred_27 (fun q1 h1 => ?_)
        refine z_const hY eL_stirred_28 ?_
        refine z_imul hY eL_stirred_30 ?_
        refine z_const hY eL_stirred_31 ?_
        refine z_iadd hY eL_stirred_34 ?_
        refine z_wrE (fun q2 h2 => ?_)
        refine z_istore hY eL_stirred_35 (ls' := [(1, z_i q2), (5, z_i (zX xs i)), (2, .ref b), (3, z_i L), (4, z_i i)]) rfl ?_
        refine z_iload hY eL_stirred_36 0 rfl ?_
        refine z_iload hY eL_stirred_37 0 rfl ?_
        refine z_const hY eL_stirred_38 ?_
        refine z_ushE hY eL_stirred_40 (fun q3 h3 => ?_)
        refine z_xorE hY eL_stirred_41 (fun q4 h4 => ?_)
        refine z_istore hY eL_stirred_42 (ls' := [(1, z_i q4), (5, z_i (zX xs i)), (2, .ref b), (3, z_i L), (4, z_i i)]) rfl ?_
        refine z_iinc hY eL_stirred_43 4 rfl (ls' := [(4, z_i (i + 1)), (1, z_i q4), (5, z_i (zX xs i)), (2, .ref b), (3, z_i L)]) rfl ?_
        refine z_goto hY eL_stirred_46 ?_
        refine z_sub [3, 4, 0, 1] (ls' := [(2, .ref b), (3, z_i L), (4, z_i (i + 1)), (1, z_i q4)]) rfl ?_
        exact ih (i + 1) q4 (by omega) (by omega) h4
  exact lp _ 0 59478 (Nat.lt_succ_self _) (by omega) (by omega)
end LV14
