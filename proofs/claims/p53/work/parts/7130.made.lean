/-! THE BUILDER: made. -/
section LVG
theorem z_newY {Y : z_Y} {d : Nat} {M : z_M} {pc pc' : Nat} {ls : List (Nat × Value)} {st : List Value} {h : z_H} {k n : Nat} {N : Nat} (hY : z_ok Y d M) (dd : z_at M pc (.newarray .byte) 2 pc') (hN : N ≤ 100000) (hk : k + 1 ≤ z_mc Y ∧ n + N ≤ z_ms Y) (kk : ∀ q : Nat, h q = none → z_W Y pc' ls (.ref q :: st) (z_set h q (z_ya N (fun _ => 0))) (k + 1) (n + N)) : z_W Y pc ls (z_i N :: st) h k n := by
  obtain ⟨G, ⟨p, e, R, s, m, args, below, meth, c⟩, nL, mc, ms, φ, ψ⟩ := Y
  obtain ⟨hG, hx, hb, -, -, hown, -, -, hW, -, hRm, -⟩ := hY
  obtain ⟨d1, rfl⟩ := dd
  subst hRm
  intro H locs lsA hR hL hlv
  have h1 : (Int32.ofInt N).toInt = N := z_toInt (by omega)
  refine va_newaK (atype := .byte) (N := N) hx hb (z_wd hG hW w3_19 rfl) rfl d1 rfl (by rw [z_0, z_lt (by omega)]; omega) (by show (Int32.ofInt N).toInt.toNat = N; rw [h1]; omega) (by show N * 1 ≤ _; omega) hk.1 hk.2 rfl fun H1 cA e1 e2 e3 _ e5 => ?_
  have hcA : cA = G.2.2.2.1 3 := Option.some.inj (e5.symm.trans (((z_K hG hW).2 3 _ rfl).2 : s.vm.findClass _ = some _))
  subst hcA
  obtain ⟨g1, g2⟩ := hR.push (c := z_ya N (fun _ => 0)) e1 e2 e3
  exact kk H.size g2 H1 locs lsA g1 hL hlv
variable {G : z_G} {H : z_H} {b a : Nat} {n : Int} {f : Int → Int}
theorem sq_init (hG : z_OK G) (hS : z_SBs G) (hb : H b = some (z_ob 10 [.null, z_i 0, z_i 0, z_i 0])) : z_T G mJ5_init_d00df [.ref b, z_i 16] H 2 1 16 (fun v H' => v = none ∧ ∃ a, H a = none ∧ sbS H' b a 0 f ∧ ∀ x c, H x = some c → x ≠ b → H' x = some c) z_no := by
  refine z_T_of hG pJ5_init_d00df (Nat.le_of_ble_eq_true rfl) (ls0 := [(0, .ref b), (1, z_i 16)]) rfl fun Y hY hg hmc hms hφ hψ => ?_
  subst hg
  refine z_aload hY eJ5_init_d00df_0 0 rfl ?_
  refine z_objInit hY eJ5_init_d00df_1 ⟨wOI, wOC⟩ (Nat.le_of_ble_eq_true rfl) ?_
  refine z_gets hY eJ5_init_d00df_4 wG_AbstractStringBuilder_18 hS.1 ?_
  refine z_ifeq hY eJ5_init_d00df_7 (by decide) (fun c => absurd c (by decide)) (fun _ => ?_)
  refine z_aload hY eJ5_init_d00df_10 0 rfl ?_
  refine z_iload hY eJ5_init_d00df_11 1 rfl ?_
  refine z_newY (N := 16) hY eJ5_init_d00df_12 (by decide) (by rw [hmc, hms]; exact ⟨Nat.le_refl _, Nat.le_refl _⟩) (fun q hq => ?_)
  have hqb : b ≠ q := fun e => by rw [e, hq] at hb; cases hb
  refine z_putfield hY eJ5_init_d00df_14 ((z_set_ne hqb).trans hb) rfl rfl (by decide) ?_
  refine z_aload hY eJ5_init_d00df_17 0 rfl ?_
  refine z_const hY eJ5_init_d00df_18 ?_
  refine z_putfield hY eJ5_init_d00df_19 z_set_at (by decide) rfl (show 1 < 4 by decide) ?_
  refine z_goto hY eJ5_init_d00df_22 ?_
  refine z_return hY eJ5_init_d00df_38 rfl ?_ (by rw [hmc, hms]; exact ⟨Nat.le_refl _, Nat.le_refl _⟩)
  rw [hφ]
  refine ⟨rfl, q, hq, ⟨0, 16, fun _ => 0, z_set_at, ?_, fun i i0 i1 => by omega, Ne.symm hqb, by omega, by omega, by omega, by omega, fun i _ _ => by show (-128 : Int) ≤ 0 ∧ (0 : Int) ≤ 127; omega⟩, fun x c hx hxb => ?_⟩
  · rw [z_set_ne (Ne.symm hqb), z_set_ne (Ne.symm hqb)]; exact z_set_at
  · rw [z_set_ne hxb, z_set_ne hxb, z_set_ne (fun e => by rw [e, hq] at hx; cases hx)]; exact hx
theorem sb_init (hG : z_OK G) (hSB : z_SB G) (hb : H b = some (z_ob 10 [.null, z_i 0, z_i 0, z_i 0])) : z_T G mJ4_init_da8c8 [.ref b] H 5 1 16 (fun v H' => v = none ∧ ∃ a, H a = none ∧ sbS H' b a 0 f ∧ ∀ x c, H x = some c → x ≠ b → H' x = some c) z_no := by
  refine z_T_of hG pJ4_init_da8c8 (Nat.le_of_ble_eq_true rfl) (ls0 := [(0, .ref b)]) rfl fun Y hY hg hmc hms hφ hψ => ?_
  subst hg
  refine z_aload hY eJ4_init_da8c8_0 0 rfl ?_
  refine z_const hY eJ4_init_da8c8_1 ?_
  refine z_callI (As := [z_i 16]) (b := b) (rest := []) hY eJ4_init_da8c8_3 (sq_init (f := f) hG hSB.1 hb) (by decide) (Nat.le_of_ble_eq_true rfl) (by rw [hmc, hms]; exact ⟨Nat.le_of_ble_eq_true rfl, Nat.le_of_ble_eq_true rfl⟩) (fun _ _ q => q.elim) (fun v h' q => ?_)
  obtain ⟨rfl, q⟩ := q
  exact z_return hY eJ4_init_da8c8_6 rfl (by rw [hφ]; exact ⟨rfl, q⟩) (by rw [hmc, hms]; exact ⟨Nat.le_refl _, Nat.le_refl _⟩)
end LVG
