/-! THE BUILDER: charAt. -/
section LVE
variable {G : z_G} {H : z_H} {b a : Nat} {n : Int} {f : Int → Int}
theorem pc_checkIndexF {fm : Nat} (hG : z_OK G) {i s : Int} (hi : 0 ≤ i ∧ i < s ∧ s ≤ 1000) : z_Tr G mJ3_checkIndex_8e157 [z_i i, z_i s, .ref fm] H 0 (z_i i) := by
  refine z_T_of hG pJ3_checkIndex_8e157 (Nat.le_of_ble_eq_true rfl) (ls0 := [(0, z_i i), (1, z_i s), (2, .ref fm)]) rfl fun Y hY hg hmc hms hφ hψ => ?_
  subst hg
  refine z_iload hY eJ3_checkIndex_8e157_0 0 rfl ?_
  refine z_iflt hY eJ3_checkIndex_8e157_1 (by omega) (fun c => by exfalso; omega) (fun _ => ?_)
  refine z_iload hY eJ3_checkIndex_8e157_4 0 rfl ?_
  refine z_iload hY eJ3_checkIndex_8e157_5 1 rfl ?_
  refine z_icmplt hY eJ3_checkIndex_8e157_6 (by omega) (fun _ => ?_) (fun c => by exfalso; omega)
  refine z_iload hY eJ3_checkIndex_8e157_16 0 rfl ?_
  exact z_ireturn hY eJ3_checkIndex_8e157_17 rfl (by rw [hφ]; exact ⟨rfl, rfl⟩) ⟨Nat.zero_le _, Nat.zero_le _⟩
theorem st_checkIndex (hG : z_OK G) (hS : z_SBs G) {i s : Int} (hi : 0 ≤ i ∧ i < s ∧ s ≤ 1000) : z_T G mJ0_checkIndex_df160 [z_i i, z_i s] H 1 0 0 (fun v h' => v = none ∧ h' = H) z_no := by
  refine z_T_of hG pJ0_checkIndex_df160 (Nat.le_of_ble_eq_true rfl) (ls0 := [(0, z_i i), (1, z_i s)]) rfl fun Y hY hg hmc hms hφ hψ => ?_
  subst hg
  refine z_iload hY eJ0_checkIndex_df160_0 0 rfl ?_
  refine z_iload hY eJ0_checkIndex_df160_1 1 rfl ?_
  rcases hS.2 with hfm | ⟨fm, hfm⟩
  · refine z_gets hY eJ0_checkIndex_df160_2 wG_String_1053 hfm ?_
    refine z_callSr (As := [z_i i, z_i s, .null]) (rest := []) (r := z_i i) hY eJ0_checkIndex_df160_5 (pc_checkIndex hG hi) (by decide) (Nat.le_of_ble_eq_true rfl) ⟨Nat.zero_le _, Nat.zero_le _⟩ ?_
    refine z_pop hY eJ0_checkIndex_df160_8 rfl ?_
    exact z_return hY eJ0_checkIndex_df160_9 rfl (by rw [hφ]; exact ⟨rfl, rfl⟩) ⟨Nat.zero_le _, Nat.zero_le _⟩
  · refine z_gets hY eJ0_checkIndex_df160_2 wG_String_1053 hfm ?_
    refine z_callSr (As := [z_i i, z_i s, .ref fm]) (rest := []) (r := z_i i) hY eJ0_checkIndex_df160_5 (pc_checkIndexF hG hi) (by decide) (Nat.le_of_ble_eq_true rfl) ⟨Nat.zero_le _, Nat.zero_le _⟩ ?_
    refine z_pop hY eJ0_checkIndex_df160_8 rfl ?_
    exact z_return hY eJ0_checkIndex_df160_9 rfl (by rw [hφ]; exact ⟨rfl, rfl⟩) ⟨Nat.zero_le _, Nat.zero_le _⟩
theorem sq_charAt (hG : z_OK G) (hS : z_SBs G) (hs : sbS H b a n f) {i : Int} (hi : 0 ≤ i ∧ i < n) (hf : 0 ≤ f i ∧ f i ≤ 127) : z_Tr G mJ5_charAt_5068e [.ref b, z_i i] H 2 (z_i (f i)) := by
  obtain ⟨ml, N, g, h1, h2, h3, h4, h5, h6, h7⟩ := hs
  have hgi := h3 i hi.1 hi.2
  refine z_T_of hG pJ5_charAt_5068e (Nat.le_of_ble_eq_true rfl) (ls0 := [(0, .ref b), (1, z_i i)]) rfl fun Y hY hg hmc hms hφ hψ => ?_
  subst hg
  refine z_aload hY eJ5_charAt_5068e_0 0 rfl ?_
  refine z_getfield hY eJ5_charAt_5068e_1 h1 rfl ?_
  refine z_istore hY eJ5_charAt_5068e_4 (ls' := [(2, z_i 0), (0, .ref b), (1, z_i i)]) rfl ?_
  refine z_aload hY eJ5_charAt_5068e_5 1 rfl ?_
  refine z_getfield hY eJ5_charAt_5068e_6 h1 rfl ?_
  refine z_astore hY eJ5_charAt_5068e_9 (ls' := [(3, .ref a), (2, z_i 0), (0, .ref b), (1, z_i i)]) rfl ?_
  refine z_aload hY eJ5_charAt_5068e_10 2 rfl ?_
  refine z_getfield hY eJ5_charAt_5068e_11 h1 rfl ?_
  refine z_aload hY eJ5_charAt_5068e_14 0 rfl ?_
  refine z_arrlen hY eJ5_charAt_5068e_15 h2 (by decide) ?_
  refine z_iload hY eJ5_charAt_5068e_16 1 rfl ?_
  refine z_ishr hY eJ5_charAt_5068e_17 (by omega) (Or.inl ⟨rfl, rfl⟩) ?_
  rw [Int.ediv_one]
  refine z_callSr (As := [z_i n, z_i N]) (rest := []) (r := z_i (if (N : Int) < n then N else n)) hY eJ5_charAt_5068e_18 (ma_min hG (by omega)) (by decide) (Nat.le_of_ble_eq_true rfl) ⟨Nat.zero_le _, Nat.zero_le _⟩ ?_
  rw [if_neg (by omega)]
  refine z_istore hY eJ5_charAt_5068e_21 (ls' := [(4, z_i n), (3, .ref a), (2, z_i 0), (0, .ref b), (1, z_i i)]) rfl ?_
  refine z_iload hY eJ5_charAt_5068e_23 4 rfl ?_
  refine z_iload hY eJ5_charAt_5068e_24 0 rfl ?_
  refine z_callS (As := [z_i i, z_i n]) (rest := []) hY eJ5_charAt_5068e_26 (st_checkIndex hG hS (by omega)) (by decide) (Nat.le_of_ble_eq_true rfl) ⟨by rw [hmc]; exact Nat.zero_le _, by rw [hms]; exact Nat.zero_le _⟩ (fun _ _ q => q.elim) (fun v h' q => ?_)
  obtain ⟨rfl, rfl⟩ := q
  refine z_iload hY eJ5_charAt_5068e_29 2 rfl ?_
  refine z_ifne hY eJ5_charAt_5068e_30 (by decide) (fun c => absurd rfl c) (fun _ => ?_)
  refine z_aload hY eJ5_charAt_5068e_33 1 rfl ?_
  refine z_iload hY eJ5_charAt_5068e_34 4 rfl ?_
  refine z_yload hY eJ5_charAt_5068e_35 h2 (by omega) ?_
  refine z_const hY eJ5_charAt_5068e_36 ?_
  refine z_iand255 hY eJ5_charAt_5068e_39 ?_
  rw [show g i % 256 = f i by omega]
  refine z_i2c hY eJ5_charAt_5068e_40 (by omega) ?_
  exact z_nreturn hY eJ5_charAt_5068e_41 rfl (z_nc hf.1 (by omega)) (by rw [hφ]; exact ⟨rfl, rfl⟩) ⟨Nat.zero_le _, Nat.zero_le _⟩
theorem sb_char (hG : z_OK G) (hSB : z_SB G) (hs : sbS H b a n f) {i : Int} (hi : 0 ≤ i ∧ i < n) (hf : 0 ≤ f i ∧ f i ≤ 127) : z_Tr G mJ4_charAt_5068e [.ref b, z_i i] H 4 (z_i (f i)) := by
  have hs' := hs
  obtain ⟨ml, N, g, h1, -⟩ := hs
  refine z_T_of hG pJ4_charAt_5068e (Nat.le_of_ble_eq_true rfl) (ls0 := [(0, .ref b), (1, z_i i)]) rfl fun Y hY hg hmc hms hφ hψ => ?_
  subst hg
  refine z_aload hY eJ4_charAt_5068e_0 0 rfl ?_
  refine z_iload hY eJ4_charAt_5068e_1 1 rfl ?_
  refine z_callQ (As := [z_i i]) (rest := []) hY eJ4_charAt_5068e_2 ⟨_, (rfl : z_cl[10]? = _)⟩ (sq_charAt hG hSB.1 hs' hi hf) h1 (by decide) (Nat.le_of_ble_eq_true rfl) ⟨by rw [hmc]; exact Nat.zero_le _, by rw [hms]; exact Nat.zero_le _⟩ (fun _ _ q => q.elim) (fun v h' q => ?_)
  obtain ⟨rfl, rfl⟩ := q
  exact z_nreturn hY eJ4_charAt_5068e_5 rfl (z_nc hf.1 (by omega)) (by rw [hφ]; exact ⟨rfl, rfl⟩) ⟨Nat.zero_le _, Nat.zero_le _⟩
end LVE
