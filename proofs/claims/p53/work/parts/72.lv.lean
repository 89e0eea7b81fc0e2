/-! THE LAW's leaves: the next number, anyone, an amount, values, comparisons, places in the ladder (laid by wip/p53/gen/gl72.py). -/
section LV1
theorem la_next {G : z_G} {D : Nat} {B : Nat → Int → Nat} {κ : c_K} {A : Nat → Nat} {σ : z_S} {h : z_H} (hG : z_OK G) (hX : gXX B κ A) {n : Int} (hn : 0 < n ∧ n ≤ 100000) : z_T G mL_next [.ref (A 40), z_i n] (gH D B κ A σ h) 0 0 0 (fun v h' => ∃ r X : Int, v = some (z_i r) ∧ (0 ≤ r ∧ r < n) ∧ (-2147483648 ≤ X ∧ X ≤ 2147483647) ∧ h' = gH D B κ A (z_u σ 0 0 X) h) (z_no) := by
  refine z_T_of hG pL_next (Nat.le_of_ble_eq_true rfl) (ls0 := [(0, .ref (A 40)), (1, z_i n)]) rfl fun Y hY hg hmc hms hφ hψ => ?_
  subst hg
  obtain ⟨X, hX0⟩ : ∃ X : Int, X = (Int32.ofInt (1103515245 * σ 0 0 + 12345)).toInt := ⟨_, rfl⟩
  have hXb : -2147483648 ≤ X ∧ X ≤ 2147483647 := by rw [hX0]; exact z_rg _
  refine z_aload hY eL_next_0 0 rfl ?_
  refine z_aload hY eL_next_1 0 rfl ?_
  refine g_gf hY hX eL_next_2 (v := z_i (σ 0 0)) rfl ?_
  refine z_const hY eL_next_5 ?_
  refine z_imul hY eL_next_7 ?_
  refine z_top (b := 1103515245 * (σ 0 0)) (by omega) ?_
  refine z_const hY eL_next_8 ?_
  refine z_iadd hY eL_next_11 ?_
  refine z_sq (st' := z_i X :: [.ref (A 40)]) (by rw [hX0]; exact congrArg (fun q => q :: [Value.ref (A 40)]) (z_wrap _).symm) ?_
  refine g_pf hY hX eL_next_12 (by decide) ?_
  refine z_aload hY eL_next_15 0 rfl ?_
  refine g_gf hY hX eL_next_16 (v := z_i X) (congrArg (fun q => some (z_i q)) z_u_at) ?_
  refine z_const hY eL_next_19 ?_
  refine z_iushr hY eL_next_21 (D := 65536) (by unfold z_sk; omega) ?_
  refine z_iload hY eL_next_22 1 rfl ?_
  refine z_irem hY eL_next_23 (by omega) ?_
  have hmd1 : 0 ≤ (X % 4294967296 / 65536) % n ∧ (X % 4294967296 / 65536) % n < n := ⟨Int.emod_nonneg _ (by omega), Int.emod_lt_of_pos _ (by omega)⟩
  exact z_ireturn hY eL_next_24 rfl (by rw [hφ]; exact ⟨_, X, rfl, hmd1, hXb, rfl⟩) ⟨Nat.zero_le _, Nat.zero_le _⟩
theorem la_anyone {G : z_G} {D : Nat} {B : Nat → Int → Nat} {κ : c_K} {A : Nat → Nat} {ρ σ : z_S} {h : z_H} {t : Nat} {m : Int} {o : Prop} (hG : z_OK G) (hI : gS t m o B κ A ρ σ) (hc : 1 ≤ σ 14 0) : z_T G mL_anyone [.ref (A 40)] (gH D B κ A σ h) 1 0 0 (fun v h' => ∃ r X : Int, v = some (z_i r) ∧ (r = -1 ∨ (0 ≤ r ∧ r < σ 14 0 ∧ σ 7 r ≠ 0)) ∧ (-2147483648 ≤ X ∧ X ≤ 2147483647) ∧ h' = gH D B κ A (z_u σ 0 0 X) h) (z_no) := by
  refine z_T_of hG pL_anyone (Nat.le_of_ble_eq_true rfl) (ls0 := [(0, .ref (A 40))]) rfl fun Y hY hg hmc hms hφ hψ => ?_
  subst hg
  refine z_aload hY eL_anyone_0 0 rfl ?_
  refine z_aload hY eL_anyone_1 0 rfl ?_
  have hb1 := (gS_b hI).s14 0
  refine g_gf hY (gS_X hI) eL_anyone_2 (v := z_i (σ 14 0)) rfl ?_
  refine z_callV (As := [z_i (σ 14 0)]) (rest := []) hY eL_anyone_5 (la_next (B := B) (κ := κ) (σ := σ) hG (gS_X hI) (n := (σ 14 0)) (by omega)) ((gH_at (gS_X hI) (by decide)).trans (congrArg some lC_40)) (by decide) (Nat.le_of_ble_eq_true rfl) ⟨Nat.zero_le _, Nat.zero_le _⟩ (fun _ _ q => q.elim) (fun vv3 hh3 q3 => ?_)
  obtain ⟨r2, X2, rfl, hr2, hX2, rfl⟩ := q3
  refine z_istore hY eL_anyone_8 (ls' := [(1, z_i r2), (0, .ref (A 40))]) rfl ?_
  refine z_const hY eL_anyone_9 ?_
  refine z_istore hY eL_anyone_10 (ls' := [(2, z_i 0), (1, z_i r2), (0, .ref (A 40))]) rfl ?_
  refine z_sub [2, 1, 0] (ls' := [(0, .ref (A 40)), (1, z_i r2), (2, z_i 0)]) rfl ?_
  have lp11 : ∀ (fu : Nat) (k : Int), (σ 14 0 - k).toNat < fu → (0 ≤ k ∧ k ≤ σ 14 0) → z_W Y 11 [(0, .ref (A 40)), (1, z_i r2), (2, z_i k)] [] (gH D B κ A (z_u σ 0 0 X2) h) 0 0 := by
    intro fu
    induction fu with
    | zero => intro k hf; exact absurd hf (Nat.not_lt_zero _)
    | succ fu ih11 =>
      intro k hf hk
      refine z_iload hY eL_anyone_11 2 rfl ?_
      refine z_aload hY eL_anyone_12 0 rfl ?_
      refine g_gf hY (gS_X hI) eL_anyone_13 (v := z_i (σ 14 0)) (congrArg (fun q => some (z_i q)) (congrFun (z_u_ne (by decide)) _)) ?_
      refine z_icmpge hY eL_anyone_16 (by omega) (fun c16 => ?_) (fun c16 => ?_)
      · refine z_const hY eL_anyone_50 ?_
        exact z_ireturn hY eL_anyone_51 rfl (by rw [hφ]; exact ⟨_, _, rfl, Or.inl rfl, by omega, rfl⟩) ⟨Nat.zero_le _, Nat.zero_le _⟩
      · refine z_aload hY eL_anyone_19 0 rfl ?_
        refine g_gf hY (gS_X hI) eL_anyone_20 (v := .ref (A 7)) rfl ?_
        refine z_iload hY eL_anyone_23 1 rfl ?_
        refine z_iload hY eL_anyone_24 2 rfl ?_
        refine z_iadd hY eL_anyone_25 ?_
        refine z_aload hY eL_anyone_26 0 rfl ?_
        refine g_gf hY (gS_X hI) eL_anyone_27 (v := z_i (σ 14 0)) (congrArg (fun q => some (z_i q)) (congrFun (z_u_ne (by decide)) _)) ?_
        refine z_irem hY eL_anyone_30 (by omega) ?_
        have hmd4 : 0 ≤ (r2 + k) % (σ 14 0) ∧ (r2 + k) % (σ 14 0) < (σ 14 0) := ⟨Int.emod_nonneg _ (by omega), Int.emod_lt_of_pos _ (by omega)⟩
        have hb5 := (gS_b hI).s7 ((r2 + k) % (σ 14 0))
        refine g_bal hY (gS_X hI) eL_anyone_31 (j := 7) (N := 30) (x := σ 7 ((r2 + k) % (σ 14 0))) (by decide) rfl (by omega) (congrFun (z_u_ne (by decide)) _) ?_
        refine z_ifeq hY eL_anyone_32 (by omega) (fun c32 => ?_) (fun c32 => ?_)
        · refine z_iinc hY eL_anyone_44 2 rfl (ls' := [(2, z_i (k + 1)), (0, .ref (A 40)), (1, z_i r2)]) rfl ?_
          refine z_goto hY eL_anyone_47 ?_
          refine z_sub [1, 2, 0] (ls' := [(0, .ref (A 40)), (1, z_i r2), (2, z_i (k + 1))]) rfl ?_
          exact ih11 (k + 1) (by omega) (by omega)
        · refine z_iload hY eL_anyone_35 1 rfl ?_
          refine z_iload hY eL_anyone_36 2 rfl ?_
          refine z_iadd hY eL_anyone_37 ?_
          refine z_aload hY eL_anyone_38 0 rfl ?_
          refine g_gf hY (gS_X hI) eL_anyone_39 (v := z_i (σ 14 0)) (congrArg (fun q => some (z_i q)) (congrFun (z_u_ne (by decide)) _)) ?_
          refine z_irem hY eL_anyone_42 (by omega) ?_
          have hmd6 : 0 ≤ (r2 + k) % (σ 14 0) ∧ (r2 + k) % (σ 14 0) < (σ 14 0) := ⟨Int.emod_nonneg _ (by omega), Int.emod_lt_of_pos _ (by omega)⟩
          exact z_ireturn hY eL_anyone_43 rfl (by rw [hφ]; exact ⟨_, _, rfl, Or.inr ⟨by omega, by omega, by omega⟩, by omega, rfl⟩) ⟨Nat.zero_le _, Nat.zero_le _⟩
  exact lp11 _ 0 (Nat.lt_succ_self _) (by omega)
theorem la_amount {G : z_G} {D : Nat} {B : Nat → Int → Nat} {κ : c_K} {A : Nat → Nat} {ρ σ : z_S} {h : z_H} {t : Nat} {m : Int} {o : Prop} (hG : z_OK G) (hI : gS t m o B κ A ρ σ)  : z_T G mL_amount [.ref (A 40)] (gH D B κ A σ h) 1 0 0 (fun v h' => ∃ (r : Int) (σ' : z_S), v = some (z_i r) ∧ (-1000 ≤ r ∧ r ≤ 1000) ∧ (wE σ' σ ∧ wB σ') ∧ h' = gH D B κ A σ' h) (z_no) := by
  refine z_T_of hG pL_amount (Nat.le_of_ble_eq_true rfl) (ls0 := [(0, .ref (A 40))]) rfl fun Y hY hg hmc hms hφ hψ => ?_
  subst hg
  refine z_aload hY eL_amount_0 0 rfl ?_
  refine z_const hY eL_amount_1 ?_
  refine z_callV (As := [z_i 6]) (rest := []) hY eL_amount_3 (la_next (B := B) (κ := κ) (σ := σ) hG (gS_X hI) (n := 6) (by omega)) ((gH_at (gS_X hI) (by decide)).trans (congrArg some lC_40)) (by decide) (Nat.le_of_ble_eq_true rfl) ⟨Nat.zero_le _, Nat.zero_le _⟩ (fun _ _ q => q.elim) (fun vv2 hh2 q2 => ?_)
  obtain ⟨r1, X1, rfl, hr1, hX1, rfl⟩ := q2
  refine z_ifne hY eL_amount_6 (by omega) (fun c6 => ?_) (fun c6 => ?_)
  · refine z_aload hY eL_amount_23 0 rfl ?_
    refine z_const hY eL_amount_24 ?_
    refine z_callV (As := [z_i 9]) (rest := []) hY eL_amount_26 (la_next (B := B) (κ := κ) (σ := (z_u σ 0 0 X1)) hG (gS_X hI) (n := 9) (by omega)) ((gH_at (gS_X hI) (by decide)).trans (congrArg some lC_40)) (by decide) (Nat.le_of_ble_eq_true rfl) ⟨Nat.zero_le _, Nat.zero_le _⟩ (fun _ _ q => q.elim) (fun vv4 hh4 q4 => ?_)
    obtain ⟨r3, X3, rfl, hr3, hX3, rfl⟩ := q4
    refine z_const hY eL_amount_29 ?_
    refine z_isub hY eL_amount_30 ?_
    exact z_ireturn hY eL_amount_31 rfl (by rw [hφ]; exact ⟨_, _, rfl, by omega, ⟨(wE_u (wE_u wE_r (by decide)) (by decide)), (wB_u (wB_u (gS_b hI) (by show (-2147483648 : Int) ≤ _ ∧ _ ≤ (2147483647 : Int); omega)) (by show (-2147483648 : Int) ≤ _ ∧ _ ≤ (2147483647 : Int); omega))⟩, rfl⟩) ⟨Nat.zero_le _, Nat.zero_le _⟩
  · refine z_aload hY eL_amount_9 0 rfl ?_
    refine z_const hY eL_amount_10 ?_
    refine z_callV (As := [z_i 2001]) (rest := []) hY eL_amount_13 (la_next (B := B) (κ := κ) (σ := (z_u σ 0 0 X1)) hG (gS_X hI) (n := 2001) (by omega)) ((gH_at (gS_X hI) (by decide)).trans (congrArg some lC_40)) (by decide) (Nat.le_of_ble_eq_true rfl) ⟨Nat.zero_le _, Nat.zero_le _⟩ (fun _ _ q => q.elim) (fun vv6 hh6 q6 => ?_)
    obtain ⟨r5, X5, rfl, hr5, hX5, rfl⟩ := q6
    refine z_const hY eL_amount_16 ?_
    refine z_isub hY eL_amount_19 ?_
    refine z_goto hY eL_amount_20 ?_
    exact z_ireturn hY eL_amount_31 rfl (by rw [hφ]; exact ⟨_, _, rfl, by omega, ⟨(wE_u (wE_u wE_r (by decide)) (by decide)), (wB_u (wB_u (gS_b hI) (by show (-2147483648 : Int) ≤ _ ∧ _ ≤ (2147483647 : Int); omega)) (by show (-2147483648 : Int) ≤ _ ∧ _ ≤ (2147483647 : Int); omega))⟩, rfl⟩) ⟨Nat.zero_le _, Nat.zero_le _⟩
theorem la_valueOf {G : z_G} {D : Nat} {B : Nat → Int → Nat} {κ : c_K} {A : Nat → Nat} {ρ σ : z_S} {h : z_H} {t : Nat} {m : Int} {o : Prop} (hG : z_OK G) (hI : gS t m o B κ A ρ σ) (ho : o) {e c : Int} (he : 0 ≤ e ∧ e < 30) (hc : 0 ≤ c ∧ c < σ 15 0) : z_Tr G mL_valueOf [.ref (A 40), z_i e, z_i c] (gH D B κ A σ h) 0 (z_i (vl ρ e c)) := by
  refine z_T_of hG pL_valueOf (Nat.le_of_ble_eq_true rfl) (ls0 := [(0, .ref (A 40)), (1, z_i e), (2, z_i c)]) rfl fun Y hY hg hmc hms hφ hψ => ?_
  subst hg
  have hc4 := (gS_b hI).s15 0
  have hvl := wI_vl hI ho he hc
  refine z_const hY eL_valueOf_0 ?_
  refine z_istore hY eL_valueOf_1 (ls' := [(3, z_i 0), (0, .ref (A 40)), (1, z_i e), (2, z_i c)]) rfl ?_
  refine z_const hY eL_valueOf_2 ?_
  refine z_istore hY eL_valueOf_3 (ls' := [(4, z_i 0), (3, z_i 0), (0, .ref (A 40)), (1, z_i e), (2, z_i c)]) rfl ?_
  refine z_iload hY eL_valueOf_5 0 rfl ?_
  refine z_const hY eL_valueOf_7 ?_
  refine z_icmpge hY eL_valueOf_8 (by omega) (fun c => absurd c (by omega)) (fun _ => ?_)
  refine z_iload hY eL_valueOf_11 1 rfl ?_
  refine z_aload hY eL_valueOf_12 2 rfl ?_
  refine g_gf hY (gS_X hI) eL_valueOf_13 (v := .ref (A 4)) rfl ?_
  refine z_const hY eL_valueOf_16 ?_
  refine z_iload hY eL_valueOf_17 4 rfl ?_
  refine z_imul hY eL_valueOf_18 ?_
  refine z_iload hY eL_valueOf_19 0 rfl ?_
  refine z_iadd hY eL_valueOf_21 ?_
  refine z_top (b := 4 * c) (by omega) ?_
  have hb1 := (gS_b hI).s4 (4 * c)
  refine g_ial hY (gS_X hI) eL_valueOf_22 (j := 4) (N := 16) (x := σ 4 (4 * c)) (by decide) rfl (by omega) rfl ?_
  refine z_aload hY eL_valueOf_23 2 rfl ?_
  refine g_gf hY (gS_X hI) eL_valueOf_24 (v := .ref (A 2)) rfl ?_
  refine z_const hY eL_valueOf_27 ?_
  refine z_iload hY eL_valueOf_28 3 rfl ?_
  refine z_imul hY eL_valueOf_29 ?_
  refine z_iload hY eL_valueOf_30 0 rfl ?_
  refine z_iadd hY eL_valueOf_32 ?_
  refine z_top (b := 4 * e) (by omega) ?_
  have hb2 := (gS_b hI).s2 (4 * e)
  refine g_ial hY (gS_X hI) eL_valueOf_33 (j := 2) (N := 120) (x := σ 2 (4 * e)) (by decide) rfl (by omega) rfl ?_
  refine z_imul hY eL_valueOf_34 ?_
  refine z_iadd hY eL_valueOf_35 ?_
  refine z_top (b := (σ 4 (4 * c)) * (σ 2 (4 * e))) (by omega) ?_
  refine z_istore hY eL_valueOf_36 (ls' := [(3, z_i ((σ 4 (4 * c)) * (σ 2 (4 * e)))), (4, z_i 0), (0, .ref (A 40)), (1, z_i e), (2, z_i c)]) rfl ?_
  refine z_iinc hY eL_valueOf_37 1 rfl (ls' := [(4, z_i (0 + 1)), (3, z_i ((σ 4 (4 * c)) * (σ 2 (4 * e)))), (0, .ref (A 40)), (1, z_i e), (2, z_i c)]) rfl ?_
  refine z_lq (ls' := [(4, z_i 1), (3, z_i ((σ 4 (4 * c)) * (σ 2 (4 * e)))), (0, .ref (A 40)), (1, z_i e), (2, z_i c)]) rfl ?_
  refine z_goto hY eL_valueOf_40 ?_
  refine z_iload hY eL_valueOf_5 0 rfl ?_
  refine z_const hY eL_valueOf_7 ?_
  refine z_icmpge hY eL_valueOf_8 (by omega) (fun c => absurd c (by omega)) (fun _ => ?_)
  refine z_iload hY eL_valueOf_11 1 rfl ?_
  refine z_aload hY eL_valueOf_12 2 rfl ?_
  refine g_gf hY (gS_X hI) eL_valueOf_13 (v := .ref (A 4)) rfl ?_
  refine z_const hY eL_valueOf_16 ?_
  refine z_iload hY eL_valueOf_17 4 rfl ?_
  refine z_imul hY eL_valueOf_18 ?_
  refine z_iload hY eL_valueOf_19 0 rfl ?_
  refine z_iadd hY eL_valueOf_21 ?_
  have hb3 := (gS_b hI).s4 (4 * c + 1)
  refine g_ial hY (gS_X hI) eL_valueOf_22 (j := 4) (N := 16) (x := σ 4 (4 * c + 1)) (by decide) rfl (by omega) rfl ?_
  refine z_aload hY eL_valueOf_23 2 rfl ?_
  refine g_gf hY (gS_X hI) eL_valueOf_24 (v := .ref (A 2)) rfl ?_
  refine z_const hY eL_valueOf_27 ?_
  refine z_iload hY eL_valueOf_28 3 rfl ?_
  refine z_imul hY eL_valueOf_29 ?_
  refine z_iload hY eL_valueOf_30 0 rfl ?_
  refine z_iadd hY eL_valueOf_32 ?_
  have hb4 := (gS_b hI).s2 (4 * e + 1)
  refine g_ial hY (gS_X hI) eL_valueOf_33 (j := 2) (N := 120) (x := σ 2 (4 * e + 1)) (by decide) rfl (by omega) rfl ?_
  refine z_imul hY eL_valueOf_34 ?_
  refine z_iadd hY eL_valueOf_35 ?_
  refine z_istore hY eL_valueOf_36 (ls' := [(3, z_i (((σ 4 (4 * c)) * (σ 2 (4 * e))) + ((σ 4 (4 * c + 1)) * (σ 2 (4 * e + 1))))), (4, z_i 1), (0, .ref (A 40)), (1, z_i e), (2, z_i c)]) rfl ?_
  refine z_iinc hY eL_valueOf_37 1 rfl (ls' := [(4, z_i (1 + 1)), (3, z_i (((σ 4 (4 * c)) * (σ 2 (4 * e))) + ((σ 4 (4 * c + 1)) * (σ 2 (4 * e + 1))))), (0, .ref (A 40)), (1, z_i e), (2, z_i c)]) rfl ?_
  refine z_lq (ls' := [(4, z_i 2), (3, z_i (((σ 4 (4 * c)) * (σ 2 (4 * e))) + ((σ 4 (4 * c + 1)) * (σ 2 (4 * e + 1))))), (0, .ref (A 40)), (1, z_i e), (2, z_i c)]) rfl ?_
  refine z_goto hY eL_valueOf_40 ?_
  refine z_iload hY eL_valueOf_5 0 rfl ?_
  refine z_const hY eL_valueOf_7 ?_
  refine z_icmpge hY eL_valueOf_8 (by omega) (fun c => absurd c (by omega)) (fun _ => ?_)
  refine z_iload hY eL_valueOf_11 1 rfl ?_
  refine z_aload hY eL_valueOf_12 2 rfl ?_
  refine g_gf hY (gS_X hI) eL_valueOf_13 (v := .ref (A 4)) rfl ?_
  refine z_const hY eL_valueOf_16 ?_
  refine z_iload hY eL_valueOf_17 4 rfl ?_
  refine z_imul hY eL_valueOf_18 ?_
  refine z_iload hY eL_valueOf_19 0 rfl ?_
  refine z_iadd hY eL_valueOf_21 ?_
  have hb5 := (gS_b hI).s4 (4 * c + 2)
  refine g_ial hY (gS_X hI) eL_valueOf_22 (j := 4) (N := 16) (x := σ 4 (4 * c + 2)) (by decide) rfl (by omega) rfl ?_
  refine z_aload hY eL_valueOf_23 2 rfl ?_
  refine g_gf hY (gS_X hI) eL_valueOf_24 (v := .ref (A 2)) rfl ?_
  refine z_const hY eL_valueOf_27 ?_
  refine z_iload hY eL_valueOf_28 3 rfl ?_
  refine z_imul hY eL_valueOf_29 ?_
  refine z_iload hY eL_valueOf_30 0 rfl ?_
  refine z_iadd hY eL_valueOf_32 ?_
  have hb6 := (gS_b hI).s2 (4 * e + 2)
  refine g_ial hY (gS_X hI) eL_valueOf_33 (j := 2) (N := 120) (x := σ 2 (4 * e + 2)) (by decide) rfl (by omega) rfl ?_
  refine z_imul hY eL_valueOf_34 ?_
  refine z_iadd hY eL_valueOf_35 ?_
  refine z_istore hY eL_valueOf_36 (ls' := [(3, z_i (((σ 4 (4 * c)) * (σ 2 (4 * e))) + ((σ 4 (4 * c + 1)) * (σ 2 (4 * e + 1))) + ((σ 4 (4 * c + 2)) * (σ 2 (4 * e + 2))))), (4, z_i 2), (0, .ref (A 40)), (1, z_i e), (2, z_i c)]) rfl ?_
  refine z_iinc hY eL_valueOf_37 1 rfl (ls' := [(4, z_i (2 + 1)), (3, z_i (((σ 4 (4 * c)) * (σ 2 (4 * e))) + ((σ 4 (4 * c + 1)) * (σ 2 (4 * e + 1))) + ((σ 4 (4 * c + 2)) * (σ 2 (4 * e + 2))))), (0, .ref (A 40)), (1, z_i e), (2, z_i c)]) rfl ?_
  refine z_lq (ls' := [(4, z_i 3), (3, z_i (((σ 4 (4 * c)) * (σ 2 (4 * e))) + ((σ 4 (4 * c + 1)) * (σ 2 (4 * e + 1))) + ((σ 4 (4 * c + 2)) * (σ 2 (4 * e + 2))))), (0, .ref (A 40)), (1, z_i e), (2, z_i c)]) rfl ?_
  refine z_goto hY eL_valueOf_40 ?_
  refine z_iload hY eL_valueOf_5 0 rfl ?_
  refine z_const hY eL_valueOf_7 ?_
  refine z_icmpge hY eL_valueOf_8 (by omega) (fun c => absurd c (by omega)) (fun _ => ?_)
  refine z_iload hY eL_valueOf_11 1 rfl ?_
  refine z_aload hY eL_valueOf_12 2 rfl ?_
  refine g_gf hY (gS_X hI) eL_valueOf_13 (v := .ref (A 4)) rfl ?_
  refine z_const hY eL_valueOf_16 ?_
  refine z_iload hY eL_valueOf_17 4 rfl ?_
  refine z_imul hY eL_valueOf_18 ?_
  refine z_iload hY eL_valueOf_19 0 rfl ?_
  refine z_iadd hY eL_valueOf_21 ?_
  have hb7 := (gS_b hI).s4 (4 * c + 3)
  refine g_ial hY (gS_X hI) eL_valueOf_22 (j := 4) (N := 16) (x := σ 4 (4 * c + 3)) (by decide) rfl (by omega) rfl ?_
  refine z_aload hY eL_valueOf_23 2 rfl ?_
  refine g_gf hY (gS_X hI) eL_valueOf_24 (v := .ref (A 2)) rfl ?_
  refine z_const hY eL_valueOf_27 ?_
  refine z_iload hY eL_valueOf_28 3 rfl ?_
  refine z_imul hY eL_valueOf_29 ?_
  refine z_iload hY eL_valueOf_30 0 rfl ?_
  refine z_iadd hY eL_valueOf_32 ?_
  have hb8 := (gS_b hI).s2 (4 * e + 3)
  refine g_ial hY (gS_X hI) eL_valueOf_33 (j := 2) (N := 120) (x := σ 2 (4 * e + 3)) (by decide) rfl (by omega) rfl ?_
  refine z_imul hY eL_valueOf_34 ?_
  refine z_iadd hY eL_valueOf_35 ?_
  refine z_istore hY eL_valueOf_36 (ls' := [(3, z_i (((σ 4 (4 * c)) * (σ 2 (4 * e))) + ((σ 4 (4 * c + 1)) * (σ 2 (4 * e + 1))) + ((σ 4 (4 * c + 2)) * (σ 2 (4 * e + 2))) + ((σ 4 (4 * c + 3)) * (σ 2 (4 * e + 3))))), (4, z_i 3), (0, .ref (A 40)), (1, z_i e), (2, z_i c)]) rfl ?_
  refine z_iinc hY eL_valueOf_37 1 rfl (ls' := [(4, z_i (3 + 1)), (3, z_i (((σ 4 (4 * c)) * (σ 2 (4 * e))) + ((σ 4 (4 * c + 1)) * (σ 2 (4 * e + 1))) + ((σ 4 (4 * c + 2)) * (σ 2 (4 * e + 2))) + ((σ 4 (4 * c + 3)) * (σ 2 (4 * e + 3))))), (0, .ref (A 40)), (1, z_i e), (2, z_i c)]) rfl ?_
  refine z_lq (ls' := [(4, z_i 4), (3, z_i (((σ 4 (4 * c)) * (σ 2 (4 * e))) + ((σ 4 (4 * c + 1)) * (σ 2 (4 * e + 1))) + ((σ 4 (4 * c + 2)) * (σ 2 (4 * e + 2))) + ((σ 4 (4 * c + 3)) * (σ 2 (4 * e + 3))))), (0, .ref (A 40)), (1, z_i e), (2, z_i c)]) rfl ?_
  refine z_goto hY eL_valueOf_40 ?_
  refine z_iload hY eL_valueOf_5 0 rfl ?_
  refine z_const hY eL_valueOf_7 ?_
  refine z_icmpge hY eL_valueOf_8 (by omega) (fun _ => ?_) (fun c => absurd c (by omega))
  refine z_iload hY eL_valueOf_43 1 rfl ?_
  exact z_ireturn hY eL_valueOf_44 rfl (by rw [hφ]; exact ⟨congrArg (fun q => some (z_i q)) (by rw [hvl]; try omega), rfl⟩) ⟨Nat.zero_le _, Nat.zero_le _⟩
theorem la_compares {G : z_G} {D : Nat} {B : Nat → Int → Nat} {κ : c_K} {A : Nat → Nat} {ρ σ : z_S} {h : z_H} {t : Nat} {m : Int} {o : Prop} (hG : z_OK G) (hI : gS t m o B κ A ρ σ) (ho : o) {e f : Int} (he : 0 ≤ e ∧ e < 30) (hf : 0 ≤ f ∧ f < 30) : z_Tr G mL_compares [.ref (A 40), z_i e, z_i f] (gH D B κ A σ h) 1 (z_i (cp ρ e f)) := by
  refine z_T_of hG pL_compares (Nat.le_of_ble_eq_true rfl) (ls0 := [(0, .ref (A 40)), (1, z_i e), (2, z_i f)]) rfl fun Y hY hg hmc hms hφ hψ => ?_
  subst hg
  have hc4 := (gS_b hI).s15 0
  have hO := gS_O hI ho
  refine z_const hY eL_compares_0 ?_
  refine z_istore hY eL_compares_1 (ls' := [(3, z_i 0), (0, .ref (A 40)), (1, z_i e), (2, z_i f)]) rfl ?_
  refine z_sub [1, 2, 3, 0] (ls' := [(0, .ref (A 40)), (1, z_i e), (2, z_i f), (3, z_i 0)]) rfl ?_
  have lp2 : ∀ (fu : Nat) (c : Int), (σ 15 0 - c).toNat < fu → (0 ≤ c ∧ c ≤ σ 15 0) → (cm ρ e f (ρ 12 0 - c).toNat c = cp ρ e f) → z_W Y 2 [(0, .ref (A 40)), (1, z_i e), (2, z_i f), (3, z_i c)] [] (gH D B κ A σ h) 0 0 := by
    intro fu
    induction fu with
    | zero => intro c hf; exact absurd hf (Nat.not_lt_zero _)
    | succ fu ih2 =>
      intro c hf hc hn
      refine z_iload hY eL_compares_2 3 rfl ?_
      refine z_aload hY eL_compares_3 0 rfl ?_
      have hb1 := (gS_b hI).s15 0
      refine g_gf hY (gS_X hI) eL_compares_4 (v := z_i (σ 15 0)) rfl ?_
      refine z_icmpge hY eL_compares_7 (by omega) (fun c7 => ?_) (fun c7 => ?_)
      · refine z_const hY eL_compares_66 ?_
        exact z_ireturn hY eL_compares_67 rfl (by rw [hφ]; exact ⟨congrArg (fun q => some (z_i q)) (by rw [← hn, cm_e (by rw [hO.1]; omega)]), rfl⟩) ⟨Nat.zero_le _, Nat.zero_le _⟩
      · refine z_aload hY eL_compares_10 0 rfl ?_
        refine z_iload hY eL_compares_11 1 rfl ?_
        refine z_iload hY eL_compares_12 3 rfl ?_
        refine z_callVr (As := [z_i e, z_i c]) (rest := []) (r := z_i (vl ρ e c)) hY eL_compares_13 (la_valueOf hG hI ho (e := e) (c := c) (by omega) (by omega)) ((gH_at (gS_X hI) (by decide)).trans (congrArg some lC_40)) (by decide) (Nat.le_of_ble_eq_true rfl) ⟨Nat.zero_le _, Nat.zero_le _⟩ ?_
        have hv2 := vl_b (gS_M hI) e c
        refine z_aload hY eL_compares_16 0 rfl ?_
        refine z_iload hY eL_compares_17 2 rfl ?_
        refine z_iload hY eL_compares_18 3 rfl ?_
        refine z_callVr (As := [z_i f, z_i c]) (rest := [z_i (vl ρ e c)]) (r := z_i (vl ρ f c)) hY eL_compares_19 (la_valueOf hG hI ho (e := f) (c := c) (by omega) (by omega)) ((gH_at (gS_X hI) (by decide)).trans (congrArg some lC_40)) (by decide) (Nat.le_of_ble_eq_true rfl) ⟨Nat.zero_le _, Nat.zero_le _⟩ ?_
        have hv3 := vl_b (gS_M hI) f c
        refine z_icmpeq hY eL_compares_22 (by omega) (fun c22 => ?_) (fun c22 => ?_)
        · refine z_iinc hY eL_compares_60 3 rfl (ls' := [(3, z_i (c + 1)), (0, .ref (A 40)), (1, z_i e), (2, z_i f)]) rfl ?_
          refine z_goto hY eL_compares_63 ?_
          refine z_sub [1, 2, 3, 0] (ls' := [(0, .ref (A 40)), (1, z_i e), (2, z_i f), (3, z_i (c + 1))]) rfl ?_
          exact ih2 (c + 1) (by omega) (by omega) (by rw [← hn]; exact (cm_f (by rw [hO.1]; omega) (by omega)).symm)
        · refine z_aload hY eL_compares_25 0 rfl ?_
          refine z_iload hY eL_compares_26 1 rfl ?_
          refine z_iload hY eL_compares_27 3 rfl ?_
          refine z_callVr (As := [z_i e, z_i c]) (rest := []) (r := z_i (vl ρ e c)) hY eL_compares_28 (la_valueOf hG hI ho (e := e) (c := c) (by omega) (by omega)) ((gH_at (gS_X hI) (by decide)).trans (congrArg some lC_40)) (by decide) (Nat.le_of_ble_eq_true rfl) ⟨Nat.zero_le _, Nat.zero_le _⟩ ?_
          have hv4 := vl_b (gS_M hI) e c
          refine z_aload hY eL_compares_31 0 rfl ?_
          refine z_iload hY eL_compares_32 2 rfl ?_
          refine z_iload hY eL_compares_33 3 rfl ?_
          refine z_callVr (As := [z_i f, z_i c]) (rest := [z_i (vl ρ e c)]) (r := z_i (vl ρ f c)) hY eL_compares_34 (la_valueOf hG hI ho (e := f) (c := c) (by omega) (by omega)) ((gH_at (gS_X hI) (by decide)).trans (congrArg some lC_40)) (by decide) (Nat.le_of_ble_eq_true rfl) ⟨Nat.zero_le _, Nat.zero_le _⟩ ?_
          have hv5 := vl_b (gS_M hI) f c
          refine z_icmple hY eL_compares_37 (by omega) (fun c37 => ?_) (fun c37 => ?_)
          · refine z_const hY eL_compares_44 ?_
            refine z_aload hY eL_compares_45 0 rfl ?_
            refine g_gf hY (gS_X hI) eL_compares_46 (v := .ref (A 8)) rfl ?_
            refine z_iload hY eL_compares_49 3 rfl ?_
            have hb6 := (gS_b hI).s8 c
            refine g_bal hY (gS_X hI) eL_compares_50 (j := 8) (N := 4) (x := σ 8 c) (by decide) rfl (by omega) rfl ?_
            refine z_icmpne hY eL_compares_51 (by omega) (fun c51 => ?_) (fun c51 => ?_)
            · refine z_const hY eL_compares_58 ?_
              exact z_ireturn hY eL_compares_59 rfl (by rw [hφ]; exact ⟨congrArg (fun q => some (z_i q)) (by rw [← hn, cm_t (by rw [hO.1]; omega) (by omega), hO.2.2 c (by omega) (by omega)]; split <;> first | rfl | (rename_i q9; exfalso; omega)), rfl⟩) ⟨Nat.zero_le _, Nat.zero_le _⟩
            · refine z_const hY eL_compares_54 ?_
              refine z_goto hY eL_compares_55 ?_
              exact z_ireturn hY eL_compares_59 rfl (by rw [hφ]; exact ⟨congrArg (fun q => some (z_i q)) (by rw [← hn, cm_t (by rw [hO.1]; omega) (by omega), hO.2.2 c (by omega) (by omega)]; split <;> first | rfl | (rename_i q9; exfalso; omega)), rfl⟩) ⟨Nat.zero_le _, Nat.zero_le _⟩
          · refine z_const hY eL_compares_40 ?_
            refine z_goto hY eL_compares_41 ?_
            refine z_aload hY eL_compares_45 0 rfl ?_
            refine g_gf hY (gS_X hI) eL_compares_46 (v := .ref (A 8)) rfl ?_
            refine z_iload hY eL_compares_49 3 rfl ?_
            have hb7 := (gS_b hI).s8 c
            refine g_bal hY (gS_X hI) eL_compares_50 (j := 8) (N := 4) (x := σ 8 c) (by decide) rfl (by omega) rfl ?_
            refine z_icmpne hY eL_compares_51 (by omega) (fun c51 => ?_) (fun c51 => ?_)
            · refine z_const hY eL_compares_58 ?_
              exact z_ireturn hY eL_compares_59 rfl (by rw [hφ]; exact ⟨congrArg (fun q => some (z_i q)) (by rw [← hn, cm_t (by rw [hO.1]; omega) (by omega), hO.2.2 c (by omega) (by omega)]; split <;> first | rfl | (rename_i q9; exfalso; omega)), rfl⟩) ⟨Nat.zero_le _, Nat.zero_le _⟩
            · refine z_const hY eL_compares_54 ?_
              refine z_goto hY eL_compares_55 ?_
              exact z_ireturn hY eL_compares_59 rfl (by rw [hφ]; exact ⟨congrArg (fun q => some (z_i q)) (by rw [← hn, cm_t (by rw [hO.1]; omega) (by omega), hO.2.2 c (by omega) (by omega)]; split <;> first | rfl | (rename_i q9; exfalso; omega)), rfl⟩) ⟨Nat.zero_le _, Nat.zero_le _⟩
  exact lp2 _ 0 (Nat.lt_succ_self _) (by omega) rfl
theorem la_placeIn {G : z_G} {D : Nat} {B : Nat → Int → Nat} {κ : c_K} {A : Nat → Nat} {ρ σ : z_S} {h : z_H} {t : Nat} {m : Int} {o : Prop} (hG : z_OK G) (hI : gS t m o B κ A ρ σ) {e : Int} (he : -1 ≤ e ∧ e < 30) : z_Tr G mL_placeIn [.ref (A 40), z_i e] (gH D B κ A σ h) 0 (z_i (lp ρ e)) := by
  refine z_T_of hG pL_placeIn (Nat.le_of_ble_eq_true rfl) (ls0 := [(0, .ref (A 40)), (1, z_i e)]) rfl fun Y hY hg hmc hms hφ hψ => ?_
  subst hg
  have hl := (gS_L hI).2.2.1.1
  have h25 := gS_25 hI
  have hm := (gS_b hI).s16 0
  refine z_const hY eL_placeIn_0 ?_
  refine z_istore hY eL_placeIn_1 (ls' := [(2, z_i 0), (0, .ref (A 40)), (1, z_i e)]) rfl ?_
  refine z_sub [1, 2, 0] (ls' := [(0, .ref (A 40)), (1, z_i e), (2, z_i 0)]) rfl ?_
  have lp2 : ∀ (fu : Nat) (k : Int), (σ 16 0 - k).toNat < fu → (0 ≤ k ∧ k ≤ σ 16 0) → (z_fi (fun i => ρ 21 i = e) (ρ 25 0 - k).toNat k = z_ff (fun i => ρ 21 i = e) (ρ 25 0)) → z_W Y 2 [(0, .ref (A 40)), (1, z_i e), (2, z_i k)] [] (gH D B κ A σ h) 0 0 := by
    intro fu
    induction fu with
    | zero => intro k hf; exact absurd hf (Nat.not_lt_zero _)
    | succ fu ih2 =>
      intro k hf hk hn
      refine z_iload hY eL_placeIn_2 2 rfl ?_
      refine z_aload hY eL_placeIn_3 0 rfl ?_
      have hb1 := (gS_b hI).s16 0
      refine g_gf hY (gS_X hI) eL_placeIn_4 (v := z_i (σ 16 0)) rfl ?_
      refine z_icmpge hY eL_placeIn_7 (by omega) (fun c7 => ?_) (fun c7 => ?_)
      · refine z_const hY eL_placeIn_30 ?_
        exact z_ireturn hY eL_placeIn_31 rfl (by rw [hφ]; exact ⟨congrArg (fun q => some (z_i q)) (by unfold lp; rw [← hn, z_fi_e (by omega), if_pos rfl]), rfl⟩) ⟨Nat.zero_le _, Nat.zero_le _⟩
      · refine z_aload hY eL_placeIn_10 0 rfl ?_
        refine g_gf hY (gS_X hI) eL_placeIn_11 (v := .ref (A 9)) rfl ?_
        refine z_iload hY eL_placeIn_14 2 rfl ?_
        have hb2 := (gS_b hI).s9 k
        refine g_ial hY (gS_X hI) eL_placeIn_15 (j := 9) (N := 30) (x := σ 9 k) (by decide) rfl (by omega) rfl ?_
        refine z_iload hY eL_placeIn_16 1 rfl ?_
        refine z_icmpne hY eL_placeIn_17 (by omega) (fun c17 => ?_) (fun c17 => ?_)
        · refine z_iinc hY eL_placeIn_24 2 rfl (ls' := [(2, z_i (k + 1)), (0, .ref (A 40)), (1, z_i e)]) rfl ?_
          refine z_goto hY eL_placeIn_27 ?_
          refine z_sub [1, 2, 0] (ls' := [(0, .ref (A 40)), (1, z_i e), (2, z_i (k + 1))]) rfl ?_
          exact ih2 (k + 1) (by omega) (by omega) (by rw [← hn]; exact (z_fi_f (by omega) (by rw [hl k (by omega) (by omega)]; omega)).symm)
        · refine z_iload hY eL_placeIn_20 2 rfl ?_
          refine z_const hY eL_placeIn_21 ?_
          refine z_iadd hY eL_placeIn_22 ?_
          exact z_ireturn hY eL_placeIn_23 rfl (by rw [hφ]; exact ⟨congrArg (fun q => some (z_i q)) (by unfold lp; rw [← hn, z_fi_t (by omega) (by rw [hl k (by omega) (by omega)]; omega), if_neg (by omega)]), rfl⟩) ⟨Nat.zero_le _, Nat.zero_le _⟩
  exact lp2 _ 0 (Nat.lt_succ_self _) (by omega) rfl
end LV1
