/-! readOrder of the class against the model's (laid by wip/whole/gen/gm28.py). -/
section C6
theorem kRg_8 {κ : c_K} {o : Int} (h : kRg κ) : kRg (k_u (kE κ o) 8 0 0 0) := by
  intro k h1 h2
  have h3 : kE κ o k = κ k := by
    unfold kE kF
    rw [k_u_ne (by omega), k_r_ne (by omega), k_r_ne (by omega)]
  have := h k h1 h2
  unfold k_u
  rw [h3]
  (repeat' split) <;> omega
theorem TR_8 {κ : c_K} {σ : z_S} {o : Int} (hT : TR κ σ) : TR (k_u (kE κ o) 8 0 0 0) (z_u (z_u σ 7 0 0) 13 0 0) := TR_u (by decide) (kSo_T kSo_e (o := o) (σ := σ) (ρ := z_u (z_u σ 7 0 0) 13 0 0) rfl rfl hT)

theorem r_readOrder {G : z_G} {D : Nat} {B : Nat → Int → Nat} {κ : c_K} {h : z_H} (hG : z_OK G) (hJ : cJ B κ) {σ : z_S} (hT : TR κ σ) (hRg : kRg κ) (h6 : -1000000 ≤ σ 6 0 ∧ σ 6 0 ≤ 1000000) (h1a : ∀ i : Int, 0 ≤ σ 1 i ∧ σ 1 i ≤ 255) {o : Int} (ho : 0 ≤ o ∧ o ≤ 1) : z_T G mX3_readOrder [.ref (B 3 0), .ref (B 4 o)] (cH D B κ h) 5 0 0 (fun v h' => ∃ κ' : c_K, v = some (z_i (yRo σ).1) ∧ h' = cH D B κ' h ∧ kSo κ κ' o ∧ kRg κ' ∧ Rk κ' (yRo σ).2 ∧ TR κ' (yRo σ).2 ∧ ((yRo σ).1 ≠ 0 → FO κ' (yRo σ).2 o ((yRo σ).2 13 0) ∧ SO κ' (yRo σ).2 o ((yRo σ).2 13 0) ∧ κ' 16 o 0 = (yRo σ).2 13 0) ∧ (∃ n, FO κ' (yRo σ).2 o n ∧ SO κ' (yRo σ).2 o n) ∧ (0 ≤ κ' 16 o 0 ∧ κ' 16 o 0 ≤ 4)) (z_no) := by
  have hPi : mP0 (z_u (z_u σ 7 0 0) 13 0 0) := ⟨⟨by show (0 : Int) ≤ 0; omega, by show (0 : Int) ≤ σ 2 0; exact hT.2.1.1, hT.2.1.2⟩, fun i => by have := h1a i; exact this, by show (0 : Int) ≤ 0 ∧ (0 : Int) ≤ 4; omega⟩
  refine z_T_of hG pX3_readOrder (Nat.le_of_ble_eq_true rfl) (ls0 := [(0, .ref (B 3 0)), (1, .ref (B 4 o))]) rfl fun Y hY hg hmc hms hφ hψ => ?_
  subst hg
  refine z_aload hY eX3_readOrder_0 1 rfl ?_
  refine z_callV (As := []) (rest := []) hY eX3_readOrder_1 (o_empty2 (κ := κ) (o := o) hG hJ ho) (cH_at (t := 4) (i := o) hJ (by omega)) (by decide) (Nat.le_of_ble_eq_true rfl) ⟨Nat.zero_le _, Nat.zero_le _⟩ (fun _ _ q => q.elim) (fun vv1 hh1 q1 => ?_)
  obtain ⟨rfl, rfl⟩ := q1
  have hJe : cJ B (kE κ o) := kSo_J kSo_e hJ
  refine z_aload hY eX3_readOrder_4 0 rfl ?_
  refine z_const hY eX3_readOrder_5 ?_
  refine c_pf hY hJe eX3_readOrder_6 (key := 8) (t := 3) (i := 0) (by decide) rfl (by omega) rfl (Nat.le_of_ble_eq_true rfl) (by simp [cC, k_u, k_r]) ?_
  refine z_aload hY eX3_readOrder_9 0 rfl ?_
  refine z_callV (As := []) (rest := []) hY eX3_readOrder_10 (r_readToken (κ := k_u (kE κ o) 8 0 0 0) (σ := z_u (z_u σ 7 0 0) 13 0 0) hG (cJ_u (by decide) hJe) (TR_8 hT) hPi rfl (kRg_8 hRg)) (cH_at (t := 3) (i := 0) (cJ_u (by decide) hJe) ((cL_u (by decide) _ _).mpr (by omega))) (by decide) (Nat.le_of_ble_eq_true rfl) ⟨Nat.zero_le _, Nat.zero_le _⟩ (fun _ _ q => q.elim) (fun vv2 hh2 q2 => ?_)
  obtain ⟨rfl, κ2, rfl, hSn2, hRn2, hKn2, hTn2⟩ := q2
  have hJn2 : cJ B κ2 := kSm_J hSn2 (cJ_u (by decide) hJe)
  have hPn2 : mP (yRo0 σ) := mP_yRd hPi h6
  have hKo2 : Rk κ2 (yRo0 σ) := hKn2
  have hTo2 : TR κ2 (yRo0 σ) := hTn2
  have hSo2 : kSo κ κ2 o := kSo_t (kSo_t kSo_e (kSo_m (kSm_u (by decide)))) (kSo_m hSn2)
  have h13_2 : yRo0 σ 13 0 = 0 := congrFun (yRd_k (by decide)) 0
  have hFn2 : FO κ2 (yRo0 σ) o 0 := FO_m (by rw [hSn2 12 (by decide), k_u_ne (by decide)]) (yRd_k (by decide)) (FO_e0 (σ := z_u (z_u σ 7 0 0) 13 0 0))
  have hOn2 : SO κ2 (yRo0 σ) o 0 := SO_m (by rw [hSn2 14 (by decide), k_u_ne (by decide)]) (yRd_k (by decide)) (SO_e0 (σ := z_u (z_u σ 7 0 0) 13 0 0))
  have h16_2 : κ2 16 o 0 = 0 := by rw [hSn2 16 (by decide), k_u_ne (by decide)]; exact k_u_at
  obtain ⟨-, hk4_3, -, hk2_3, hk3_3, -, -, -⟩ := id hKo2
  have hg6_3 := hRn2 6 (by decide) (by decide)
  have hg9_3 := hRn2 9 (by decide) (by decide)
  have hg10_3 := hRn2 10 (by decide) (by decide)
  refine z_const hY eX3_readOrder_13 ?_
  refine z_istore hY eX3_readOrder_14 (ls' := [(2, z_i 0), (0, .ref (B 3 0)), (1, .ref (B 4 o))]) rfl ?_
  refine z_sub [1, 2, 0] (ls' := [(0, .ref (B 3 0)), (1, .ref (B 4 o)), (2, z_i 0)]) rfl ?_
  have lp : ∀ (fu : Nat) (i : Int) (κ2 : c_K) (μ : z_S), (4 - i).toNat < fu → (0 ≤ i ∧ i ≤ 4) → kSo κ κ2 o → kRg κ2 → Rk κ2 μ → TR κ2 μ → mP μ → FO κ2 μ o i → SO κ2 μ o i → (κ2 16 o 0 = i) → μ 13 0 = i → cCl (4 - i).toNat μ = cCl 4 (yRo0 σ) → cJ B κ2 → z_W Y 15 [(0, .ref (B 3 0)), (1, .ref (B 4 o)), (2, z_i i)] [] (cH D B κ2 h) 0 0 := by
    intro fu
    induction fu with
    | zero => intro i κ2 μ hf; exact absurd hf (Nat.not_lt_zero _)
    | succ fu ih =>
      intro i κ2 μ hf h0 gS gR gK gT gP gF gO g16 g13 hn gJ
      obtain ⟨-, hk4_4, -, hk2_4, hk3_4, -, -, -⟩ := id gK
      have hg6_4 := gR 6 (by decide) (by decide)
      have hg9_4 := gR 9 (by decide) (by decide)
      have hg10_4 := gR 10 (by decide) (by decide)
      refine z_iload hY eX3_readOrder_15 2 rfl ?_
      refine z_const hY eX3_readOrder_16 ?_
      refine z_icmpge hY eX3_readOrder_17 (by omega) (fun c17 => ?_) (fun c17 => ?_)
      · refine z_const hY eX3_readOrder_66 ?_
        exact z_zreturn hY eX3_readOrder_67 rfl (by omega) (by rw [hφ]; have ee : yRo σ = (0, μ) := (by rw [yRo_cCl (mP_yRd hPi h6), ← hn, cCl_0 (by omega)]); exact ⟨_, by rw [ee], rfl, gS, gR, by rw [ee]; exact gK, by rw [ee]; exact gT, fun hne => absurd (by rw [ee]) hne, by rw [ee]; exact ⟨_, gF, gO⟩, (by rw [g16]; omega)⟩) ⟨Nat.zero_le _, Nat.zero_le _⟩
      · refine z_aload hY eX3_readOrder_20 0 rfl ?_
        refine z_aload hY eX3_readOrder_21 1 rfl ?_
        refine z_iload hY eX3_readOrder_22 2 rfl ?_
        refine z_callV (As := [.ref (B 4 o), z_i i]) (rest := []) hY eX3_readOrder_23 (r_readCriterion (κ := κ2) (σ := μ) (o := o) (c := i) hG gJ gT gK gP gR ho (by have := g13; omega) gF gO) (cH_at (t := 3) (i := 0) gJ (by omega)) (by decide) (Nat.le_of_ble_eq_true rfl) ⟨Nat.zero_le _, Nat.zero_le _⟩ (fun _ _ q => q.elim) (fun vv5 hh5 q5 => ?_)
        obtain ⟨κ5, rfl, rfl, hSn5, hRn5, hKn5, hTn5, hXn5, hYn5, hZn5⟩ := q5
        have hJn5 : cJ B κ5 := kSo_J hSn5 gJ
        obtain ⟨hPn5, hcs5⟩ := yRc_s gP
        have hSo5 : kSo κ κ5 o := kSo_t gS hSn5
        have hi13 := g13
        obtain ⟨-, hk4_6, -, hk2_6, hk3_6, -, -, -⟩ := id hKn5
        have hg6_6 := hRn5 6 (by decide) (by decide)
        have hg9_6 := hRn5 9 (by decide) (by decide)
        have hg10_6 := hRn5 10 (by decide) (by decide)
        refine z_ifne hY eX3_readOrder_26 (by omega) (fun c26 => ?_) (fun c26 => ?_)
        · obtain ⟨hFx5, hOx5, h16x5⟩ := hXn5 c26
          have h13x5 : ((yRc μ).2) 13 0 = i + 1 := by omega
          refine z_aload hY eX3_readOrder_31 0 rfl ?_
          refine c_gf hY hJn5 eX3_readOrder_32 (t := 3) (i := 0) (v := z_i (κ5 6 0 0)) (by omega) rfl rfl ?_
          refine z_const hY eX3_readOrder_35 ?_
          have htk7 := tk_s hKn5 (b := 59) (by decide)
          refine z_icmpeq hY eX3_readOrder_37 (by omega) (fun c37 => ?_) (fun c37 => ?_)
          · refine z_aload hY eX3_readOrder_56 0 rfl ?_
            refine z_callV (As := []) (rest := []) hY eX3_readOrder_57 (r_readToken (κ := κ5) (σ := (yRc μ).2) hG hJn5 hTn5 hPn5.1 (hKn5.2.2.2.2.2.2.1) hRn5) (cH_at (t := 3) (i := 0) hJn5 (by omega)) (by decide) (Nat.le_of_ble_eq_true rfl) ⟨Nat.zero_le _, Nat.zero_le _⟩ (fun _ _ q => q.elim) (fun vv8 hh8 q8 => ?_)
            obtain ⟨rfl, κ8, rfl, hSn8, hRn8, hKn8, hTn8⟩ := q8
            have hJn8 : cJ B κ8 := kSm_J hSn8 hJn5
            have hPn8 : mP (yRd ((yRc μ).2)) := mP_r hPn5
            have hk13_8 : (yRd ((yRc μ).2)) 13 0 = ((yRc μ).2) 13 0 := congrFun (yRd_k (by decide)) 0
            have hSo8 : kSo κ κ8 o := kSo_t hSo5 (kSo_m hSn8)
            have hFn8 := FO_m (κ' := κ8) (ρ := yRd ((yRc μ).2)) (by rw [hSn8 12 (by decide)]) (yRd_k (by decide)) hFx5
            have hOn8 := SO_m (κ' := κ8) (ρ := yRd ((yRc μ).2)) (by rw [hSn8 14 (by decide)]) (yRd_k (by decide)) hOx5
            have h16_8 := (congrFun (congrFun (hSn8 16 (by decide)) o) 0).trans h16x5
            have h13_8 := hk13_8.trans h13x5
            obtain ⟨-, hk4_9, -, hk2_9, hk3_9, -, -, -⟩ := id hKn8
            have hg6_9 := hRn8 6 (by decide) (by decide)
            have hg9_9 := hRn8 9 (by decide) (by decide)
            have hg10_9 := hRn8 10 (by decide) (by decide)
            refine z_iinc hY eX3_readOrder_60 2 rfl (ls' := [(2, z_i (i + 1)), (0, .ref (B 3 0)), (1, .ref (B 4 o))]) rfl ?_
            refine z_goto hY eX3_readOrder_63 ?_
            refine z_sub [1, 2, 0] (ls' := [(0, .ref (B 3 0)), (1, .ref (B 4 o)), (2, z_i (i + 1))]) rfl ?_
            exact ih (i + 1) κ8 (yRd ((yRc μ).2)) (by omega) (by omega) hSo8 hRn8 hKn8 hTn8 hPn8 hFn8 hOn8 h16_8 h13_8 ((cCl_c (by omega) (by omega) (by omega)).symm.trans hn) hJn8
          · refine z_aload hY eX3_readOrder_40 0 rfl ?_
            refine c_gf hY hJn5 eX3_readOrder_41 (t := 3) (i := 0) (v := z_i (κ5 6 0 0)) (by omega) rfl rfl ?_
            refine z_const hY eX3_readOrder_44 ?_
            have htk10 := tk_e hKn5
            refine z_icmpne hY eX3_readOrder_47 (by omega) (fun c47 => ?_) (fun c47 => ?_)
            · refine z_const hY eX3_readOrder_54 ?_
              exact z_zreturn hY eX3_readOrder_55 rfl (by omega) (by rw [hφ]; first | (have ee : yRo σ = (1, (yRc μ).2) := (by rw [yRo_cCl (mP_yRd hPi h6), ← hn, cCl_e (by omega) (by omega) (by omega), if_pos (by omega)]); exact ⟨_, by rw [ee], rfl, hSo5, hRn5, by rw [ee]; exact hKn5, by rw [ee]; exact hTn5, fun _ => by rw [ee]; exact ⟨by rw [h13x5]; exact hFx5, by rw [h13x5]; exact hOx5, by rw [h13x5]; exact h16x5⟩, by rw [ee]; exact ⟨_, hFx5, hOx5⟩, (by rw [h16x5]; omega)⟩) | (have ee : yRo σ = (0, (yRc μ).2) := (by rw [yRo_cCl (mP_yRd hPi h6), ← hn, cCl_e (by omega) (by omega) (by omega), if_neg (by omega)]); exact ⟨_, by rw [ee], rfl, hSo5, hRn5, by rw [ee]; exact hKn5, by rw [ee]; exact hTn5, fun hne => absurd (by rw [ee]) hne, by rw [ee]; exact ⟨_, hFx5, hOx5⟩, (by rw [h16x5]; omega)⟩)) ⟨Nat.zero_le _, Nat.zero_le _⟩
            · refine z_const hY eX3_readOrder_50 ?_
              refine z_goto hY eX3_readOrder_51 ?_
              exact z_zreturn hY eX3_readOrder_55 rfl (by omega) (by rw [hφ]; first | (have ee : yRo σ = (1, (yRc μ).2) := (by rw [yRo_cCl (mP_yRd hPi h6), ← hn, cCl_e (by omega) (by omega) (by omega), if_pos (by omega)]); exact ⟨_, by rw [ee], rfl, hSo5, hRn5, by rw [ee]; exact hKn5, by rw [ee]; exact hTn5, fun _ => by rw [ee]; exact ⟨by rw [h13x5]; exact hFx5, by rw [h13x5]; exact hOx5, by rw [h13x5]; exact h16x5⟩, by rw [ee]; exact ⟨_, hFx5, hOx5⟩, (by rw [h16x5]; omega)⟩) | (have ee : yRo σ = (0, (yRc μ).2) := (by rw [yRo_cCl (mP_yRd hPi h6), ← hn, cCl_e (by omega) (by omega) (by omega), if_neg (by omega)]); exact ⟨_, by rw [ee], rfl, hSo5, hRn5, by rw [ee]; exact hKn5, by rw [ee]; exact hTn5, fun hne => absurd (by rw [ee]) hne, by rw [ee]; exact ⟨_, hFx5, hOx5⟩, (by rw [h16x5]; omega)⟩)) ⟨Nat.zero_le _, Nat.zero_le _⟩
        · refine z_const hY eX3_readOrder_29 ?_
          exact z_zreturn hY eX3_readOrder_30 rfl (by omega) (by rw [hφ]; have ee : yRo σ = (0, (yRc μ).2) := (by rw [yRo_cCl (mP_yRd hPi h6), ← hn, cCl_f (by omega) (by omega)]); exact ⟨_, by rw [ee], rfl, hSo5, hRn5, by rw [ee]; exact hKn5, by rw [ee]; exact hTn5, fun hne => absurd (by rw [ee]) hne, by rw [ee]; exact hYn5, (by rcases hZn5 with q | q <;> omega)⟩) ⟨Nat.zero_le _, Nat.zero_le _⟩
  exact lp _ 0 κ2 (yRo0 σ) (Nat.lt_succ_self _) (by omega) hSo2 hRn2 hKo2 hTo2 hPn2 hFn2 hOn2 h16_2 h13_2 rfl hJn2
end C6
