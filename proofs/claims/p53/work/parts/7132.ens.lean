/-! THE BUILDER: more room. -/
section LVI
variable {G : z_G} {H : z_H} {b a N : Nat} {n m : Int} {g : Int → Int}
theorem sq_copyOf {n1 : Nat} (hG : z_OK G) (ha : H a = some (z_ya N g)) (hn : N < n1 ∧ n1 ≤ 450) (h8 : ∀ i, 0 ≤ i → i < (N : Int) → -128 ≤ g i ∧ g i ≤ 127) : z_T G mJ7_copyOf_9075b [.ref a, z_i n1] H 1 1 n1 (fun v H' => ∃ q : Nat, v = some (.ref q) ∧ H q = none ∧ H' = z_set (z_set H q (z_ya n1 (fun _ => 0))) q (z_ya n1 (z_cpY g (fun _ => 0) 0 0 N))) z_no := by
  refine z_T_of hG pJ7_copyOf_9075b (Nat.le_of_ble_eq_true rfl) (ls0 := [(0, .ref a), (1, z_i n1)]) rfl fun Y hY hg hmc hms hφ hψ => ?_
  subst hg
  refine z_iload hY eJ7_copyOf_9075b_0 1 rfl ?_
  refine z_aload hY eJ7_copyOf_9075b_1 0 rfl ?_
  refine z_arrlen hY eJ7_copyOf_9075b_2 ha (by decide) ?_
  refine z_icmpne hY eJ7_copyOf_9075b_3 (by omega) (fun _ => ?_) (fun c => by exfalso; omega)
  refine z_iload hY eJ7_copyOf_9075b_14 1 rfl ?_
  refine z_newY (N := n1) hY eJ7_copyOf_9075b_15 (by omega) (by rw [hmc, hms]; omega) (fun q hq => ?_)
  have hqa : a ≠ q := fun e => by rw [e, hq] at ha; cases ha
  have ha' : z_set H q (z_ya n1 (fun _ => 0)) a = some (z_ya N g) := (z_set_ne hqa).trans ha
  refine z_astore hY eJ7_copyOf_9075b_17 (ls' := [(2, .ref q), (0, .ref a), (1, z_i n1)]) rfl ?_
  refine z_aload hY eJ7_copyOf_9075b_18 1 rfl ?_
  refine z_const hY eJ7_copyOf_9075b_19 ?_
  refine z_aload hY eJ7_copyOf_9075b_20 0 rfl ?_
  refine z_const hY eJ7_copyOf_9075b_21 ?_
  refine z_aload hY eJ7_copyOf_9075b_22 1 rfl ?_
  refine z_arrlen hY eJ7_copyOf_9075b_23 ha' (by decide) ?_
  refine z_iload hY eJ7_copyOf_9075b_24 2 rfl ?_
  refine z_callSr (As := [z_i N, z_i n1]) (rest := [z_i 0, .ref q, z_i 0, .ref a]) (r := z_i (if (n1 : Int) < N then n1 else N)) hY eJ7_copyOf_9075b_25 (ma_min hG (by omega)) (by decide) (Nat.le_of_ble_eq_true rfl) (by rw [hmc, hms]; omega) ?_
  rw [if_neg (by omega)]
  refine z_copyY hY eJ7_copyOf_9075b_28 wAC150 (z_sr_of hG ha') z_set_at (by omega) (fun i i0 i1 => by have z := h8 i i0 i1; rw [Int.zero_add]; exact z) (Nat.le_of_ble_eq_true rfl) ?_
  refine z_aload hY eJ7_copyOf_9075b_31 0 rfl ?_
  exact z_areturn hY eJ7_copyOf_9075b_32 ⟨_, rfl, Or.inr ⟨_, rfl⟩⟩ (by rw [hφ]; exact ⟨q, rfl, hq, rfl⟩) (by rw [hmc, hms]; omega)
/-- ensureCapacityInternal: room for m bytes -/
theorem sq_ensure {f : Int → Int} (hG : z_OK G) (hs : sbS H b a n f) (hm : n ≤ m ∧ m ≤ 200) : z_T G mJ5_ensureCapacityInternal_d00df [.ref b, z_i m] H 4 1 450 (fun v H' => v = none ∧ ∃ (a' : Nat) (ml : Int) (N : Nat) (g : Int → Int), H' b = some (z_ob 10 [.ref a', z_i 0, z_i ml, z_i n]) ∧ H' a' = some (z_ya N g) ∧ (∀ i, 0 ≤ i → i < n → g i = f i) ∧ a' ≠ b ∧ 0 ≤ n ∧ n ≤ N ∧ m ≤ N ∧ 16 ≤ N ∧ N ≤ 1000 ∧ (∀ i, 0 ≤ i → i < (N : Int) → -128 ≤ g i ∧ g i ≤ 127) ∧ (a' = a ∨ H a' = none) ∧ ∀ x c, H x = some c → x ≠ b → H' x = some c) z_no := by
  obtain ⟨ml, N, g, h1, h2, h3, h4, h5, h6, h7, h8, h9⟩ := hs
  refine z_T_of hG pJ5_ensureCapacityInternal_d00df (Nat.le_of_ble_eq_true rfl) (ls0 := [(0, .ref b), (1, z_i m)]) rfl fun Y hY hg hmc hms hφ hψ => ?_
  subst hg
  refine z_aload hY eJ5_ensureCapacityInternal_d00df_0 0 rfl ?_
  refine z_getfield hY eJ5_ensureCapacityInternal_d00df_1 h1 rfl ?_
  refine z_arrlen hY eJ5_ensureCapacityInternal_d00df_4 h2 (by decide) ?_
  refine z_aload hY eJ5_ensureCapacityInternal_d00df_5 0 rfl ?_
  refine z_getfield hY eJ5_ensureCapacityInternal_d00df_6 h1 rfl ?_
  refine z_ishr hY eJ5_ensureCapacityInternal_d00df_9 (by omega) (Or.inl ⟨rfl, rfl⟩) ?_
  rw [Int.ediv_one]
  refine z_istore hY eJ5_ensureCapacityInternal_d00df_10 (ls' := [(2, z_i N), (0, .ref b), (1, z_i m)]) rfl ?_
  refine z_iload hY eJ5_ensureCapacityInternal_d00df_11 2 rfl ?_
  refine z_iload hY eJ5_ensureCapacityInternal_d00df_12 0 rfl ?_
  refine z_isub hY eJ5_ensureCapacityInternal_d00df_13 ?_
  refine z_ifle hY eJ5_ensureCapacityInternal_d00df_14 (by omega) (fun c => ?_) (fun c => ?_)
  · exact z_return hY eJ5_ensureCapacityInternal_d00df_38 rfl (by rw [hφ]; exact ⟨rfl, a, ml, N, g, h1, h2, h3, h4, h5, h6, by omega, h7, h8, h9, Or.inl rfl, fun x c hx _ => hx⟩) (by rw [hmc, hms]; omega)
  · obtain ⟨n1, hn1⟩ : ∃ n1 : Nat, (n1 : Int) = N + (if m - N < N + 2 then (N : Int) + 2 else m - N) := ⟨(N + (if m - N < N + 2 then (N : Int) + 2 else m - N)).toNat, Int.toNat_of_nonneg (by split <;> omega)⟩
    have hn2 : N < n1 ∧ n1 ≤ 450 ∧ m ≤ n1 := by split at hn1 <;> omega
    refine z_aload hY eJ5_ensureCapacityInternal_d00df_17 1 rfl ?_
    refine z_aload hY eJ5_ensureCapacityInternal_d00df_18 1 rfl ?_
    refine z_getfield hY eJ5_ensureCapacityInternal_d00df_19 h1 rfl ?_
    refine z_aload hY eJ5_ensureCapacityInternal_d00df_22 1 rfl ?_
    refine z_iload hY eJ5_ensureCapacityInternal_d00df_23 2 rfl ?_
    refine z_callUr (As := [z_i m]) (rest := [.ref a, .ref b]) (r := z_i n1) hY eJ5_ensureCapacityInternal_d00df_24 (hn1 ▸ sq_newCapacity hG h1 h2 (by omega) (by omega)) h1 (by decide) (Nat.le_of_ble_eq_true rfl) (by rw [hmc, hms]; omega) ?_
    refine z_aload hY eJ5_ensureCapacityInternal_d00df_27 1 rfl ?_
    refine z_getfield hY eJ5_ensureCapacityInternal_d00df_28 h1 rfl ?_
    refine z_ishl0 hY eJ5_ensureCapacityInternal_d00df_31 ?_
    refine z_callS (As := [.ref a, z_i n1]) (rest := [.ref b]) hY eJ5_ensureCapacityInternal_d00df_32 (sq_copyOf hG h2 (by omega) h9) (by decide) (Nat.le_of_ble_eq_true rfl) (by rw [hmc, hms]; omega) (fun _ _ q => q.elim) (fun v h' q => ?_)
    obtain ⟨q, rfl, hq, rfl⟩ := q
    have hbq : b ≠ q := fun e => by rw [e, hq] at h1; cases h1
    refine z_putfield hY eJ5_ensureCapacityInternal_d00df_35 ((z_set_ne hbq).trans ((z_set_ne hbq).trans h1)) rfl rfl (show 0 < 4 by decide) ?_
    refine z_return hY eJ5_ensureCapacityInternal_d00df_38 rfl ?_ (by rw [hmc, hms]; omega)
    rw [hφ]
    refine ⟨rfl, q, ml, n1, z_cpY g (fun _ => 0) 0 0 N, z_set_at, (z_set_ne (Ne.symm hbq)).trans z_set_at, fun i i0 i1 => ?_, Ne.symm hbq, h5, by omega, by omega, by omega, by omega, fun i i0 i1 => ?_, Or.inr hq, fun x c hx hxb => ?_⟩
    · unfold z_cpY; rw [if_pos (by omega), show (0 : Int) + (i - 0) = i by omega]; exact h3 i i0 i1
    · unfold z_cpY
      split
      · have z := h9 i i0 (by omega)
        rw [show (0 : Int) + (i - 0) = i by omega]; exact z
      · exact ⟨(show (-128 : Int) ≤ 0 by decide), (show (0 : Int) ≤ 127 by decide)⟩
    · have hxq : x ≠ q := fun e => by rw [e, hq] at hx; cases hx
      rw [z_set_ne hxb, z_set_ne hxq, z_set_ne hxq]; exact hx
end LVI
