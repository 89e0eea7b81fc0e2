/-! THE BUILDER: a letter behind the text. -/
section LVJ
variable {G : z_G} {H : z_H} {b a : Nat} {n : Int} {f : Int → Int}
abbrev sbP (G : z_G) (H : z_H) (b a : Nat) (n : Int) (f : Int → Int) : Option Value → z_H → Prop := fun v H' => ∃ a', v = some (.ref b) ∧ sbS H' b a' n f ∧ (a' = a ∨ H a' = none) ∧ sbF H H' b a
theorem sq_appC (hG : z_OK G) (hS : z_SBs G) (hs : sbS H b a n f) {c : Int} (hc : 0 ≤ c ∧ c ≤ 127) (hw : n + 1 ≤ 200) : z_T G mJ5_append_3fe6f [.ref b, z_i c] H 6 1 450 (sbP G H b a (n + 1) (sbC f n (fun _ => c))) z_no := by
  have hs' := hs
  obtain ⟨ml0, N0, g0, k1, -⟩ := hs'
  have hn0 : 0 ≤ n := by obtain ⟨_, _, _, _, _, _, _, q, _⟩ := hs; exact q
  refine z_T_of hG pJ5_append_3fe6f (Nat.le_of_ble_eq_true rfl) (ls0 := [(0, .ref b), (1, z_i c)]) rfl fun Y hY hg hmc hms hφ hψ => ?_
  subst hg
  refine z_aload hY eJ5_append_3fe6f_0 0 rfl ?_
  refine z_aload hY eJ5_append_3fe6f_1 0 rfl ?_
  refine z_getfield hY eJ5_append_3fe6f_2 k1 rfl ?_
  refine z_const hY eJ5_append_3fe6f_5 ?_
  refine z_iadd hY eJ5_append_3fe6f_6 ?_
  refine z_callU (As := [z_i (n + 1)]) (rest := []) hY eJ5_append_3fe6f_7 (sq_ensure (m := n + 1) hG hs (by omega)) k1 (by decide) (Nat.le_of_ble_eq_true rfl) (by rw [hmc, hms]; omega) (fun _ _ q => q.elim) (fun v h' q => ?_)
  obtain ⟨rfl, a', ml, N, g, h1, h2, h3, h4, h5, h6, h7, h8, h9, h10, h11, h12⟩ := q
  refine z_aload hY eJ5_append_3fe6f_10 0 rfl ?_
  refine z_callUr (As := []) (rest := []) (r := z_i 1) hY eJ5_append_3fe6f_11 (sq_isLatin1 hG hS h1) h1 (by decide) (Nat.le_of_ble_eq_true rfl) (by rw [hmc, hms]; omega) ?_
  refine z_ifeq hY eJ5_append_3fe6f_14 (by decide) (fun c => absurd c (by decide)) (fun _ => ?_)
  refine z_iload hY eJ5_append_3fe6f_17 1 rfl ?_
  refine z_callSr (As := [z_i c]) (rest := []) (r := z_i 1) hY eJ5_append_3fe6f_18 (sq_canEncode hG hc) (by decide) (Nat.le_of_ble_eq_true rfl) (by rw [hmc, hms]; omega) ?_
  refine z_ifeq hY eJ5_append_3fe6f_21 (by decide) (fun c => absurd c (by decide)) (fun _ => ?_)
  refine z_aload hY eJ5_append_3fe6f_24 0 rfl ?_
  refine z_getfield hY eJ5_append_3fe6f_25 h1 rfl ?_
  refine z_aload hY eJ5_append_3fe6f_28 0 rfl ?_
  refine z_dup hY eJ5_append_3fe6f_29 rfl ?_
  refine z_getfield hY eJ5_append_3fe6f_30 h1 rfl ?_
  refine z_dup_x1 hY eJ5_append_3fe6f_33 rfl rfl ?_
  refine z_const hY eJ5_append_3fe6f_34 ?_
  refine z_iadd hY eJ5_append_3fe6f_35 ?_
  refine z_putfield hY eJ5_append_3fe6f_36 h1 rfl rfl (show 3 < 4 by decide) ?_
  refine z_iload hY eJ5_append_3fe6f_39 1 rfl ?_
  refine z_i2b hY eJ5_append_3fe6f_40 (by omega) ?_
  refine z_ystore hY eJ5_append_3fe6f_41 ((z_set_ne h4).trans h2) (by omega) (by omega) ?_
  refine z_goto hY eJ5_append_3fe6f_42 ?_
  refine z_aload hY eJ5_append_3fe6f_75 0 rfl ?_
  refine z_areturn hY eJ5_append_3fe6f_76 ⟨_, rfl, Or.inl ⟨_, rfl⟩⟩ ?_ (by rw [hmc, hms]; omega)
  rw [hφ]
  refine ⟨a', rfl, ⟨ml, N, z_up g n c, (z_set_ne (Ne.symm h4)).trans z_set_at, z_set_at, fun i i0 i1 => ?_, h4, by omega, by omega, h8, h9, fun i i0 i1 => ?_⟩, h11, fun x cc hx hxb hxa => ?_⟩
  · unfold z_up sbC
    by_cases e : i = n
    · rw [if_pos e, if_neg (by omega)]
    · rw [if_neg e, if_pos (by omega)]; exact h3 i i0 (by omega)
  · unfold z_up
    split
    · exact ⟨by omega, hc.2⟩
    · exact h10 i i0 i1
  · have hxa' : x ≠ a' := fun e => by
      rcases h11 with r | r
      · exact hxa (e.trans r)
      · rw [e, r] at hx; cases hx
    rw [z_set_ne hxa', z_set_ne hxb]; exact h12 x cc hx hxb
theorem sb_appC (hG : z_OK G) (hSB : z_SB G) (hs : sbS H b a n f) {c : Int} (hc : 0 ≤ c ∧ c ≤ 127) (hw : n + 1 ≤ 200) : z_T G mJ4_append_cf468 [.ref b, z_i c] H 8 1 450 (sbP G H b a (n + 1) (sbC f n (fun _ => c))) z_no := by
  have hs' := hs
  obtain ⟨ml0, N0, g0, k1, -⟩ := hs'
  refine z_T_of hG pJ4_append_cf468 (Nat.le_of_ble_eq_true rfl) (ls0 := [(0, .ref b), (1, z_i c)]) rfl fun Y hY hg hmc hms hφ hψ => ?_
  subst hg
  refine z_aload hY eJ4_append_cf468_0 0 rfl ?_
  refine z_iload hY eJ4_append_cf468_1 1 rfl ?_
  refine z_callQ (As := [z_i c]) (rest := []) hY eJ4_append_cf468_2 ⟨_, (rfl : z_cl[10]? = _)⟩ (sq_appC hG hSB.1 hs hc hw) k1 (by decide) (Nat.le_of_ble_eq_true rfl) (by rw [hmc, hms]; omega) (fun _ _ q => q.elim) (fun v h' q => ?_)
  obtain ⟨a', rfl, q⟩ := q
  refine z_pop hY eJ4_append_cf468_5 rfl ?_
  refine z_aload hY eJ4_append_cf468_6 0 rfl ?_
  exact z_areturn hY eJ4_append_cf468_7 ⟨_, rfl, Or.inl ⟨_, rfl⟩⟩ (by rw [hφ]; exact ⟨a', rfl, q⟩) (by rw [hmc, hms]; omega)
end LVJ
