/-! THE BUILDER: a text behind the text. -/
section LVP
variable {G : z_G} {H : z_H} {b a : Nat} {n : Int} {f : Int → Int}
theorem sq_inflate {s : Nat} {fs : List Value} (hG : z_OK G) (hS : z_SBs G) (hb : H b = some (z_ob 10 fs)) (hc : fs[1]? = some (z_i 0)) (t1 : z_so G H s) (t2 : z_sf G H s "coder" "B" (z_i 0)) : z_T G mJ5_inflateIfNeededFor_a7421 [.ref b, .ref s] H 1 0 0 (fun v H' => v = none ∧ H' = H) z_no := by
  refine z_T_of hG pJ5_inflateIfNeededFor_a7421 (Nat.le_of_ble_eq_true rfl) (ls0 := [(0, .ref b), (1, .ref s)]) rfl fun Y hY hg hmc hms hφ hψ => ?_
  subst hg
  refine z_gets hY eJ5_inflateIfNeededFor_a7421_0 wG_AbstractStringBuilder_18 hS.1 ?_
  refine z_ifeq hY eJ5_inflateIfNeededFor_a7421_3 (by decide) (fun c => absurd c (by decide)) (fun _ => ?_)
  refine z_aload hY eJ5_inflateIfNeededFor_a7421_6 0 rfl ?_
  refine z_getfield hY eJ5_inflateIfNeededFor_a7421_7 hb hc ?_
  refine z_aload hY eJ5_inflateIfNeededFor_a7421_10 1 rfl ?_
  refine z_callVSr (As := []) (rest := [z_i 0]) hY eJ5_inflateIfNeededFor_a7421_11 (sg_coder hG hS t2) t1 (by decide) (Nat.le_of_ble_eq_true rfl) (by rw [hmc, hms]; omega) ?_
  refine z_icmpeq hY eJ5_inflateIfNeededFor_a7421_14 (by decide) (fun _ => ?_) (fun c => absurd rfl c)
  exact z_return hY eJ5_inflateIfNeededFor_a7421_21 rfl (by rw [hφ]; exact ⟨rfl, rfl⟩) (by rw [hmc, hms]; omega)
theorem sq_putString {s w N : Nat} {p ml c : Int} {f g : Int → Int} (hG : z_OK G) (hS : z_SBs G) (hb : H b = some (z_ob 10 [.ref a, z_i 0, z_i ml, z_i c])) (ht : z_tx G H s w f) (ha : H a = some (z_ya N g)) (hp : 0 ≤ p ∧ p + w ≤ N ∧ N ≤ 1000) (h8 : ∀ i : Int, 0 ≤ i → i < w → -128 ≤ f i ∧ f i ≤ 127) : z_T G mJ5_putStringAt_47b60 [.ref b, z_i p, .ref s] H 2 0 0 (fun v H' => v = none ∧ H' = z_set H a (z_ya N (z_cpY f g 0 p w))) z_no := by
  refine z_T_of hG pJ5_putStringAt_47b60 (Nat.le_of_ble_eq_true rfl) (ls0 := [(0, .ref b), (1, z_i p), (2, .ref s)]) rfl fun Y hY hg hmc hms hφ hψ => ?_
  subst hg
  refine z_aload hY eJ5_putStringAt_47b60_0 0 rfl ?_
  refine z_aload hY eJ5_putStringAt_47b60_1 2 rfl ?_
  refine z_callU (As := [.ref s]) (rest := []) hY eJ5_putStringAt_47b60_2 (sq_inflate hG hS hb rfl ht.1 ht.2.1) hb (by decide) (Nat.le_of_ble_eq_true rfl) (by rw [hmc, hms]; omega) (fun _ _ q => q.elim) (fun v h' q => ?_)
  obtain ⟨rfl, rfl⟩ := q
  refine z_aload hY eJ5_putStringAt_47b60_5 2 rfl ?_
  refine z_aload hY eJ5_putStringAt_47b60_6 0 rfl ?_
  refine z_getfield hY eJ5_putStringAt_47b60_7 hb rfl ?_
  refine z_iload hY eJ5_putStringAt_47b60_10 1 rfl ?_
  refine z_aload hY eJ5_putStringAt_47b60_11 0 rfl ?_
  refine z_getfield hY eJ5_putStringAt_47b60_12 hb rfl ?_
  refine z_callVS (As := [.ref a, z_i p, z_i 0]) (rest := []) hY eJ5_putStringAt_47b60_15 (sg_getBytes hG hS ht ha hp h8) ht.1 (by decide) (Nat.le_of_ble_eq_true rfl) (by rw [hmc, hms]; omega) (fun _ _ q => q.elim) (fun v h' q => ?_)
  obtain ⟨rfl, rfl⟩ := q
  exact z_return hY eJ5_putStringAt_47b60_18 rfl (by rw [hφ]; exact ⟨rfl, rfl⟩) (by rw [hmc, hms]; omega)
theorem sq_appS (hG : z_OK G) (hS : z_SBs G) (hs : sbS H b a n f) {s : Nat} {w : Int} {g : Int → Int} (hT : sbT G H s w g) (hw : 0 ≤ w ∧ n + w ≤ 200) : z_T G mJ5_append_cf1ce [.ref b, .ref s] H 6 1 450 (sbP G H b a (n + w) (sbC f n g)) z_no := by
  have hs' := hs
  obtain ⟨ml0, N0, g0, k1, -, -, -, hn0, -⟩ := hs'
  have hmy := sbT_x (H' := H) hG hT k1 (fun x c hx _ => hx)
  obtain ⟨w0, f0, hw0, -, hx0, -⟩ := hmy
  refine z_T_of hG pJ5_append_cf1ce (Nat.le_of_ble_eq_true rfl) (ls0 := [(0, .ref b), (1, .ref s)]) rfl fun Y hY hg hmc hms hφ hψ => ?_
  subst hg
  refine z_aload hY eJ5_append_cf1ce_0 1 rfl ?_
  refine z_ifnn hY eJ5_append_cf1ce_1 ?_
  refine z_aload hY eJ5_append_cf1ce_9 1 rfl ?_
  refine z_callVSr (As := []) (rest := []) hY eJ5_append_cf1ce_10 (sg_length hG hS hx0 (by omega)) hx0.1 (by decide) (Nat.le_of_ble_eq_true rfl) (by rw [hmc, hms]; omega) ?_
  rw [hw0]
  refine z_istore hY eJ5_append_cf1ce_13 (ls' := [(2, z_i w), (0, .ref b), (1, .ref s)]) rfl ?_
  refine z_aload hY eJ5_append_cf1ce_14 1 rfl ?_
  refine z_aload hY eJ5_append_cf1ce_15 1 rfl ?_
  refine z_getfield hY eJ5_append_cf1ce_16 k1 rfl ?_
  refine z_iload hY eJ5_append_cf1ce_19 0 rfl ?_
  refine z_iadd hY eJ5_append_cf1ce_20 ?_
  refine z_callU (As := [z_i (n + w)]) (rest := []) hY eJ5_append_cf1ce_21 (sq_ensure (m := n + w) hG hs (by omega)) k1 (by decide) (Nat.le_of_ble_eq_true rfl) (by rw [hmc, hms]; omega) (fun _ _ q => q.elim) (fun v h' q => ?_)
  obtain ⟨rfl, a', ml, N, g2, h1, h2, h3, h4, h5, h6, h7, h8, h9, h10, h11, h12⟩ := q
  obtain ⟨w1, f1, hw1, hf1, -, hx1⟩ := sbT_x (H' := h') hG hT k1 h12
  refine z_aload hY eJ5_append_cf1ce_24 1 rfl ?_
  refine z_aload hY eJ5_append_cf1ce_25 1 rfl ?_
  refine z_getfield hY eJ5_append_cf1ce_26 h1 rfl ?_
  refine z_aload hY eJ5_append_cf1ce_29 2 rfl ?_
  refine z_callU (As := [z_i n, .ref s]) (rest := []) hY eJ5_append_cf1ce_30 (sq_putString hG hS h1 hx1 h2 (by omega) (fun i i0 i1 => (hf1 i i0 (by omega)).2)) h1 (by decide) (Nat.le_of_ble_eq_true rfl) (by rw [hmc, hms]; omega) (fun _ _ q => q.elim) (fun v h3' q => ?_)
  obtain ⟨rfl, rfl⟩ := q
  have hb2 : z_set h' a' (z_ya N (z_cpY f1 g2 0 n w1)) b = some (z_ob 10 [.ref a', z_i 0, z_i ml, z_i n]) := (z_set_ne (Ne.symm h4)).trans h1
  refine z_aload hY eJ5_append_cf1ce_33 1 rfl ?_
  refine z_dup hY eJ5_append_cf1ce_34 rfl ?_
  refine z_getfield hY eJ5_append_cf1ce_35 hb2 rfl ?_
  refine z_iload hY eJ5_append_cf1ce_38 0 rfl ?_
  refine z_iadd hY eJ5_append_cf1ce_39 ?_
  refine z_putfield hY eJ5_append_cf1ce_40 hb2 rfl rfl (show 3 < 4 by decide) ?_
  refine z_aload hY eJ5_append_cf1ce_43 1 rfl ?_
  refine z_areturn hY eJ5_append_cf1ce_44 ⟨_, rfl, Or.inl ⟨_, rfl⟩⟩ ?_ (by rw [hmc, hms]; omega)
  rw [hφ]
  refine ⟨a', rfl, ⟨ml, N, z_cpY f1 g2 0 n w1, z_set_at, (z_set_ne h4).trans z_set_at, fun i i0 i1 => ?_, h4, by omega, by omega, h8, h9, fun i i0 i1 => ?_⟩, h11, fun x cc hx hxb hxa => ?_⟩
  · unfold z_cpY sbC
    by_cases e : i < n
    · rw [if_neg (by omega), if_pos e]; exact h3 i i0 e
    · rw [if_pos (by omega), if_neg e, Int.zero_add]; exact (hf1 (i - n) (by omega) (by omega)).1
  · unfold z_cpY
    split
    · rw [Int.zero_add]; exact (hf1 (i - n) (by omega) (by omega)).2
    · exact h10 i i0 i1
  · have hxa' : x ≠ a' := fun e => by
      rcases h11 with r | r
      · exact hxa (e.trans r)
      · rw [e, r] at hx; cases hx
    rw [z_set_ne hxb, z_set_ne hxa']; exact h12 x cc hx hxb
theorem sb_appS (hG : z_OK G) (hSB : z_SB G) (hs : sbS H b a n f) {s : Nat} {w : Int} {g : Int → Int} (hT : sbT G H s w g) (hw : 0 ≤ w ∧ n + w ≤ 200) : z_T G mJ4_append_15ec4 [.ref b, .ref s] H 8 1 450 (sbP G H b a (n + w) (sbC f n g)) z_no := by
  have hs' := hs
  obtain ⟨ml0, N0, g0, k1, -⟩ := hs'
  refine z_T_of hG pJ4_append_15ec4 (Nat.le_of_ble_eq_true rfl) (ls0 := [(0, .ref b), (1, .ref s)]) rfl fun Y hY hg hmc hms hφ hψ => ?_
  subst hg
  refine z_aload hY eJ4_append_15ec4_0 0 rfl ?_
  refine z_aload hY eJ4_append_15ec4_1 1 rfl ?_
  refine z_callQ (As := [.ref s]) (rest := []) hY eJ4_append_15ec4_2 ⟨_, (rfl : z_cl[10]? = _)⟩ (sq_appS hG hSB.1 hs hT hw) k1 (by decide) (Nat.le_of_ble_eq_true rfl) (by rw [hmc, hms]; omega) (fun _ _ q => q.elim) (fun v h' q => ?_)
  obtain ⟨a', rfl, q⟩ := q
  refine z_pop hY eJ4_append_15ec4_5 rfl ?_
  refine z_aload hY eJ4_append_15ec4_6 0 rfl ?_
  exact z_areturn hY eJ4_append_15ec4_7 ⟨_, rfl, Or.inl ⟨_, rfl⟩⟩ (by rw [hφ]; exact ⟨a', rfl, q⟩) (by rw [hmc, hms]; omega)
end LVP
