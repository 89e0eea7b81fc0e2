/-! THE BUILDER: a digit behind the text. -/
section LVN
variable {G : z_G} {H : z_H} {b a : Nat} {n : Int} {f : Int → Int}
theorem sq_appI (hG : z_OK G) (hS : z_SBs G) (hD : z_SBd G) (hs : sbS H b a n f) {c : Int} (hc : 0 ≤ c ∧ c ≤ 4) (hw : n + 1 ≤ 200) : z_T G mJ5_append_c97b9 [.ref b, z_i c] H 6 1 450 (sbP G H b a (n + 1) (sbC f n (fun _ => 48 + c))) z_no := by
  have hs' := hs
  obtain ⟨ml0, N0, g0, k1, -⟩ := hs'
  have hn0 : 0 ≤ n := by obtain ⟨_, _, _, _, _, _, _, q, _⟩ := hs; exact q
  refine z_T_of hG pJ5_append_c97b9 (Nat.le_of_ble_eq_true rfl) (ls0 := [(0, .ref b), (1, z_i c)]) rfl fun Y hY hg hmc hms hφ hψ => ?_
  subst hg
  refine z_aload hY eJ5_append_c97b9_0 0 rfl ?_
  refine z_getfield hY eJ5_append_c97b9_1 k1 rfl ?_
  refine z_istore hY eJ5_append_c97b9_4 (ls' := [(2, z_i n), (0, .ref b), (1, z_i c)]) rfl ?_
  refine z_iload hY eJ5_append_c97b9_5 0 rfl ?_
  refine z_iload hY eJ5_append_c97b9_6 2 rfl ?_
  refine z_callSr (As := [z_i c]) (rest := [z_i n]) (r := z_i 1) hY eJ5_append_c97b9_7 (sq_stringSize hG hc) (by decide) (Nat.le_of_ble_eq_true rfl) (by rw [hmc, hms]; omega) ?_
  refine z_iadd hY eJ5_append_c97b9_10 ?_
  refine z_istore hY eJ5_append_c97b9_11 (ls' := [(3, z_i (n + 1)), (2, z_i n), (0, .ref b), (1, z_i c)]) rfl ?_
  refine z_aload hY eJ5_append_c97b9_12 2 rfl ?_
  refine z_iload hY eJ5_append_c97b9_13 0 rfl ?_
  refine z_callU (As := [z_i (n + 1)]) (rest := []) hY eJ5_append_c97b9_14 (sq_ensure (m := n + 1) hG hs (by omega)) k1 (by decide) (Nat.le_of_ble_eq_true rfl) (by rw [hmc, hms]; omega) (fun _ _ q => q.elim) (fun v h' q => ?_)
  obtain ⟨rfl, a', ml, N, g, h1, h2, h3, h4, h5, h6, h7, h8, h9, h10, h11, h12⟩ := q
  refine z_aload hY eJ5_append_c97b9_17 2 rfl ?_
  refine z_callUr (As := []) (rest := []) (r := z_i 1) hY eJ5_append_c97b9_18 (sq_isLatin1 hG hS h1) h1 (by decide) (Nat.le_of_ble_eq_true rfl) (by rw [hmc, hms]; omega) ?_
  refine z_ifeq hY eJ5_append_c97b9_21 (by decide) (fun c => absurd c (by decide)) (fun _ => ?_)
  refine z_iload hY eJ5_append_c97b9_24 3 rfl ?_
  refine z_iload hY eJ5_append_c97b9_25 0 rfl ?_
  refine z_aload hY eJ5_append_c97b9_26 2 rfl ?_
  refine z_getfield hY eJ5_append_c97b9_27 h1 rfl ?_
  refine z_callS (As := [z_i c, z_i (n + 1), .ref a']) (rest := []) hY eJ5_append_c97b9_30 (sq_getChars hG hD h2 hc (by omega)) (by decide) (Nat.le_of_ble_eq_true rfl) (by rw [hmc, hms]; omega) (fun _ _ q => q.elim) (fun v h9' q => ?_)
  obtain ⟨rfl, rfl⟩ := q
  refine z_pop hY eJ5_append_c97b9_33 rfl ?_
  refine z_goto hY eJ5_append_c97b9_34 ?_
  refine z_aload hY eJ5_append_c97b9_48 2 rfl ?_
  refine z_iload hY eJ5_append_c97b9_49 0 rfl ?_
  refine z_putfield hY eJ5_append_c97b9_50 ((z_set_ne (Ne.symm h4)).trans h1) rfl rfl (show 3 < 4 by decide) ?_
  refine z_aload hY eJ5_append_c97b9_53 2 rfl ?_
  refine z_areturn hY eJ5_append_c97b9_54 ⟨_, rfl, Or.inl ⟨_, rfl⟩⟩ ?_ (by rw [hmc, hms]; omega)
  rw [hφ]
  refine ⟨a', rfl, ⟨ml, N, z_up g (n + 1 - 1) (48 + c), z_set_at, (z_set_ne h4).trans z_set_at, fun i i0 i1 => ?_, h4, by omega, by omega, h8, h9, fun i i0 i1 => ?_⟩, h11, fun x cc hx hxb hxa => ?_⟩
  · unfold z_up sbC
    by_cases e : i = n
    · rw [if_pos (by omega), if_neg (by omega)]
    · rw [if_neg (by omega), if_pos (by omega)]; exact h3 i i0 (by omega)
  · unfold z_up
    split
    · omega
    · exact h10 i i0 i1
  · have hxa' : x ≠ a' := fun e => by
      rcases h11 with r | r
      · exact hxa (e.trans r)
      · rw [e, r] at hx; cases hx
    rw [z_set_ne hxb, z_set_ne hxa']; exact h12 x cc hx hxb
theorem sb_appI (hG : z_OK G) (hSB : z_SB G) (hs : sbS H b a n f) {v : Int} (hv : 0 ≤ v ∧ v ≤ 4) (hw : n + 1 ≤ 200) : z_T G mJ4_append_bf812 [.ref b, z_i v] H 8 1 450 (sbP G H b a (n + 1) (sbC f n (fun _ => 48 + v))) z_no := by
  have hs' := hs
  obtain ⟨ml0, N0, g0, k1, -⟩ := hs'
  refine z_T_of hG pJ4_append_bf812 (Nat.le_of_ble_eq_true rfl) (ls0 := [(0, .ref b), (1, z_i v)]) rfl fun Y hY hg hmc hms hφ hψ => ?_
  subst hg
  refine z_aload hY eJ4_append_bf812_0 0 rfl ?_
  refine z_iload hY eJ4_append_bf812_1 1 rfl ?_
  refine z_callQ (As := [z_i v]) (rest := []) hY eJ4_append_bf812_2 ⟨_, (rfl : z_cl[10]? = _)⟩ (sq_appI hG hSB.1 hSB.2.1 hs hv hw) k1 (by decide) (Nat.le_of_ble_eq_true rfl) (by rw [hmc, hms]; omega) (fun _ _ q => q.elim) (fun v h' q => ?_)
  obtain ⟨a', rfl, q⟩ := q
  refine z_pop hY eJ4_append_bf812_5 rfl ?_
  refine z_aload hY eJ4_append_bf812_6 0 rfl ?_
  exact z_areturn hY eJ4_append_bf812_7 ⟨_, rfl, Or.inl ⟨_, rfl⟩⟩ (by rw [hφ]; exact ⟨a', rfl, q⟩) (by rw [hmc, hms]; omega)
end LVN
