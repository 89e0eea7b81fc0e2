/-! THE LAW holds the ladder and the standing (laid by wip/p53/gen/gl75.py). -/
section LV3
theorem w_lad {t : Nat} {m : Int} {o : Prop} {B : Nat → Int → Nat} {κ : c_K} {A : Nat → Nat} {ρ σ : z_S} (h : gS t m o B κ A ρ σ) : κ 24 3 0 = σ 16 0 ∧ ∀ k, 0 ≤ k → k < σ 16 0 → pr ρ (σ 9 k) ∧ cLp κ (σ 9 k) = k + 1 ∧ lp ρ (σ 9 k) = k + 1 ∧ κ 34 (κ 20 3 (k + 1 - 1)) 0 = σ 9 k ∧ κ 20 3 k = σ 9 k := by
  obtain ⟨l1, l2, l3⟩ := (gS_R h).l
  have h25 := gS_25 h
  have hl := (gS_L h).2.2.1.1
  refine ⟨by omega, fun k h0 h1 => ?_⟩
  have e1 := l2 k h0 (by omega)
  have e2 := hl k h0 h1
  have e3 : lp ρ (σ 9 k) = k + 1 := lp_is ⟨h0, by omega⟩ e2 (fun i i0 i1 q => by
    have := l3 i k i0 (by omega) h0 (by omega) (by rw [q, e2])
    omega)
  have e4 := (gS_R h).aLadderAt (gS_S h) (p := k + 1) (by omega)
  rw [show k + 1 - 1 = k by omega, e2] at e4
  refine ⟨e2 ▸ e1.2, ((gS_R h).aLp _).trans e3, e3, ?_, e1.1.trans e2⟩
  rw [show k + 1 - 1 = k by omega]
  exact e4
theorem w_or {t : Nat} {m : Int} {o : Prop} {B : Nat → Int → Nat} {κ : c_K} {A : Nat → Nat} {ρ σ : z_S} (h : gS t m o B κ A ρ σ) (ho : o) : κ 16 (κ 17 0 0) 0 = σ 15 0 ∧ 1 ≤ σ 15 0 ∧ σ 15 0 ≤ 4 := by
  have h1 := (gS_R h).o.1
  have h2 := (gS_O h ho).1
  have h3 := mV_c (gS_M h)
  omega
theorem la_isLadder {G : z_G} {D : Nat} {B : Nat → Int → Nat} {κ : c_K} {A : Nat → Nat} {ρ σ : z_S} {h : z_H} {t : Nat} {m : Int} {o : Prop} (hG : z_OK G) (hI : gS t m o B κ A ρ σ)  : z_T G mL_isLadder [.ref (A 40)] (gH D B κ A σ h) 8 60 360 (fun v h' => v = some (z_i 1) ∧ h' = gH D B κ A σ h) (z_no) := by
  refine z_T_of hG pL_isLadder (Nat.le_of_ble_eq_true rfl) (ls0 := [(0, .ref (A 40))]) rfl fun Y hY hg hmc hms hφ hψ => ?_
  subst hg
  have hm := (gS_b hI).s16 0
  obtain ⟨hl3, hlk⟩ := w_lad hI
  refine z_const hY eL_isLadder_0 ?_
  refine z_istore hY eL_isLadder_1 (ls' := [(1, z_i 0), (0, .ref (A 40))]) rfl ?_
  refine z_sub [1, 0] (ls' := [(0, .ref (A 40)), (1, z_i 0)]) rfl ?_
  have lp2 : ∀ (fu : Nat) (k : Int), (σ 16 0 - k).toNat < fu → (0 ≤ k ∧ k ≤ σ 16 0) → z_W Y 2 [(0, .ref (A 40)), (1, z_i k)] [] (gH D B κ A σ h) (2 * k.toNat) (12 * k.toNat) := by
    intro fu
    induction fu with
    | zero => intro k hf; exact absurd hf (Nat.not_lt_zero _)
    | succ fu ih2 =>
      intro k hf hk
      refine z_iload hY eL_isLadder_2 1 rfl ?_
      refine z_aload hY eL_isLadder_3 0 rfl ?_
      have hb1 := (gS_b hI).s16 0
      refine g_gf hY (gS_X hI) eL_isLadder_4 (v := z_i (σ 16 0)) rfl ?_
      refine z_icmpge hY eL_isLadder_7 (by omega) (fun c7 => ?_) (fun c7 => ?_)
      · refine z_const hY eL_isLadder_56 ?_
        exact z_zreturn hY eL_isLadder_57 rfl (by omega) (by rw [hφ]; exact ⟨rfl, rfl⟩) (by rw [hmc, hms]; omega)
      · obtain ⟨hp1, hp2, hp3, hp4, hp5⟩ := hlk k (by omega) (by omega)
        have hp6 := gS_cpr hI hp1
        refine z_aload hY eL_isLadder_10 0 rfl ?_
        refine g_gf hY (gS_X hI) eL_isLadder_11 (v := .ref (B 0 0)) rfl ?_
        refine z_iload hY eL_isLadder_14 1 rfl ?_
        refine z_const hY eL_isLadder_15 ?_
        refine z_iadd hY eL_isLadder_16 ?_
        refine z_callV (As := [z_i (k + 1)]) (rest := []) hY eL_isLadder_17 (q_ladderAt (D := D) (h := lH A (B 0 0) σ h) hG (gS_J hI) (gS_B hI) (gS_V hI) (gS_S hI) (by omega)) (cH_at (t := 0) (i := 0) (gS_J hI) (by omega)) (by decide) (Nat.le_of_ble_eq_true rfl) (by rw [hmc, hms]; omega) (fun E9 h9 q => by obtain ⟨-, q⟩ := q; exfalso; omega) (fun vv3 hh3 q3 => ?_)
        obtain ⟨-, rfl, rfl⟩ := q3
        refine z_heq (show _ = gH D B κ A σ h from rfl) ?_
        refine z_aload hY eL_isLadder_20 0 rfl ?_
        refine g_gf hY (gS_X hI) eL_isLadder_21 (v := .ref (A 9)) rfl ?_
        refine z_iload hY eL_isLadder_24 1 rfl ?_
        have hb4 := (gS_b hI).s9 k
        refine g_ial hY (gS_X hI) eL_isLadder_25 (j := 9) (N := 30) (x := σ 9 k) (by decide) rfl (by omega) rfl ?_
        refine z_icmpne hY eL_isLadder_26 (by omega) (fun c26 => by exfalso; exact c26 hp4) (fun c26 => ?_)
        refine z_aload hY eL_isLadder_29 0 rfl ?_
        refine g_gf hY (gS_X hI) eL_isLadder_30 (v := .ref (B 0 0)) rfl ?_
        refine z_aload hY eL_isLadder_33 0 rfl ?_
        refine g_gf hY (gS_X hI) eL_isLadder_34 (v := .ref (A 9)) rfl ?_
        refine z_iload hY eL_isLadder_37 1 rfl ?_
        refine g_ial hY (gS_X hI) eL_isLadder_38 (j := 9) (N := 30) (x := σ 9 k) (by decide) rfl (by omega) rfl ?_
        refine z_callV (As := [z_i (σ 9 k)]) (rest := []) hY eL_isLadder_39 (q_ladderPlace (D := D) (h := lH A (B 0 0) σ h) hG (gS_J hI) (gS_B hI) (gS_V hI) (gS_S hI) (by omega)) (cH_at (t := 0) (i := 0) (gS_J hI) (by omega)) (by decide) (Nat.le_of_ble_eq_true rfl) (by rw [hmc, hms]; omega) (fun E9 h9 q => by obtain ⟨-, q⟩ := q; exfalso; omega) (fun vv6 hh6 q6 => ?_)
        obtain ⟨-, rfl, rfl⟩ := q6
        refine z_heq (show _ = gH D B κ A σ h from rfl) ?_
        refine z_iload hY eL_isLadder_42 1 rfl ?_
        refine z_const hY eL_isLadder_43 ?_
        refine z_iadd hY eL_isLadder_44 ?_
        refine z_icmpeq hY eL_isLadder_45 (by omega) (fun c45 => ?_) (fun c45 => by exfalso; exact c45 hp2)
        refine z_iinc hY eL_isLadder_50 1 rfl (ls' := [(1, z_i (k + 1)), (0, .ref (A 40))]) rfl ?_
        refine z_goto hY eL_isLadder_53 ?_
        refine z_sub [1, 0] (ls' := [(0, .ref (A 40)), (1, z_i (k + 1))]) rfl ?_
        refine z_widen (k' := (2 * (k + 1).toNat)) (n' := (12 * (k + 1).toNat)) (by omega) (by omega) ?_
        exact ih2 (k + 1) (by omega) (by omega)
  refine z_widen (k' := (2 * (0 : Int).toNat)) (n' := (12 * (0 : Int).toNat)) (by omega) (by omega) ?_
  exact lp2 _ 0 (Nat.lt_succ_self _) (by omega)
theorem la_isStanding {G : z_G} {D : Nat} {B : Nat → Int → Nat} {κ : c_K} {A : Nat → Nat} {ρ σ : z_S} {h : z_H} {t : Nat} {m : Int} {o : Prop} (hG : z_OK G) (hI : gS t m o B κ A ρ σ) (ho : o) : z_T G mL_isStanding [.ref (A 40)] (gH D B κ A σ h) 8 330 1980 (fun v h' => ∃ σ' : z_S, v = some (z_i 1) ∧ gS t m o B κ A ρ σ' ∧ wE σ' σ ∧ h' = gH D B κ A σ' h) (z_no) := by
  refine z_T_of hG pL_isStanding (Nat.le_of_ble_eq_true rfl) (ls0 := [(0, .ref (A 40))]) rfl fun Y hY hg hmc hms hφ hψ => ?_
  subst hg
  refine z_aload hY eL_isStanding_0 0 rfl ?_
  refine z_callV (As := []) (rest := []) hY eL_isStanding_1 (la_sorts hG hI ho) ((gH_at (gS_X hI) (by decide)).trans (congrArg some lC_40)) (by decide) (Nat.le_of_ble_eq_true rfl) ⟨Nat.zero_le _, Nat.zero_le _⟩ (fun _ _ q => q.elim) (fun vv2 hh2 q2 => ?_)
  obtain ⟨σ1, rfl, ⟨hE1, hw1, hrow1⟩, rfl⟩ := q2
  have hI1 := gS_E hI hE1 hw1
  have hmy := w_my (gS_j hI)
  refine z_istore hY eL_isStanding_4 (ls' := [(1, z_i (my ρ)), (0, .ref (A 40))]) rfl ?_
  refine z_const hY eL_isStanding_5 ?_
  refine z_istore hY eL_isStanding_6 (ls' := [(2, z_i 0), (1, z_i (my ρ)), (0, .ref (A 40))]) rfl ?_
  have hn1 := (gS_R hI).xn1 (gS_M hI)
  have hrs := w_rs (gS_j hI) (gS_S hI)
  obtain ⟨hor1, hor2, hor3⟩ := w_or hI1 ho
  have h19 := gS_19 hI1
  have hc14 := (gS_b hI1).s14 0
  refine z_aload hY eL_isStanding_7 2 rfl ?_
  refine g_gf hY (gS_X hI1) eL_isStanding_8 (v := .ref (B 0 0)) rfl ?_
  refine z_callV (As := []) (rest := []) hY eL_isStanding_11 (q_entrants (D := D) (h := lH A (B 0 0) σ1 h) hG (gS_J hI1) (gS_B hI1) (gS_V hI1) (gS_S hI1) ) (cH_at (t := 0) (i := 0) (gS_J hI1) (by omega)) (by decide) (Nat.le_of_ble_eq_true rfl) ⟨Nat.zero_le _, Nat.zero_le _⟩ (fun _ _ q => q.elim) (fun vv4 hh4 q4 => ?_)
  obtain ⟨rfl, rfl⟩ := q4
  refine z_heq (show _ = gH D B κ A σ1 h from rfl) ?_
  refine z_iload hY eL_isStanding_14 1 rfl ?_
  refine z_icmpne hY eL_isStanding_15 (by omega) (fun c15 => by exfalso; exact c15 hn1) (fun c15 => ?_)
  refine z_aload hY eL_isStanding_18 2 rfl ?_
  refine g_gf hY (gS_X hI1) eL_isStanding_19 (v := .ref (B 0 0)) rfl ?_
  refine z_callV (As := []) (rest := []) hY eL_isStanding_22 (q_rankSum (D := D) (h := lH A (B 0 0) σ1 h) hG (gS_J hI1) (gS_B hI1) (gS_V hI1) (gS_S hI1) ) (cH_at (t := 0) (i := 0) (gS_J hI1) (by omega)) (by decide) (Nat.le_of_ble_eq_true rfl) ⟨Nat.zero_le _, Nat.zero_le _⟩ (fun _ _ q => q.elim) (fun vv6 hh6 q6 => ?_)
  obtain ⟨rfl, rfl⟩ := q6
  refine z_heq (show _ = gH D B κ A σ1 h from rfl) ?_
  refine z_iload hY eL_isStanding_25 1 rfl ?_
  refine z_iload hY eL_isStanding_26 1 rfl ?_
  refine z_const hY eL_isStanding_27 ?_
  refine z_iadd hY eL_isStanding_28 ?_
  refine z_imul hY eL_isStanding_29 ?_
  have hpp : 0 ≤ my ρ * (my ρ + 1) ∧ my ρ * (my ρ + 1) ≤ 30 * 31 := ⟨Int.mul_nonneg (by omega) (by omega), Int.mul_le_mul (by omega) (by omega) (by omega) (by omega)⟩
  refine z_icmpeq hY eL_isStanding_30 (by omega) (fun c30 => ?_) (fun c30 => by exfalso; exact c30 hrs)
  refine z_const hY eL_isStanding_35 ?_
  refine z_istore hY eL_isStanding_36 (ls' := [(3, z_i 0), (2, z_i 0), (1, z_i (my ρ)), (0, .ref (A 40))]) rfl ?_
  refine z_sub [3, 2, 0, 1] (ls' := [(0, .ref (A 40)), (1, z_i (my ρ)), (3, z_i 0), (2, z_i 0)]) rfl ?_
  have lp37 : ∀ (fu : Nat) (k : Int) (u : Int), (my ρ - k).toNat < fu → (0 ≤ k ∧ k ≤ my ρ) → (u = z_sm (fun j => if gI κ j ≠ 0 then (1 : Int) else 0) k) → (0 ≤ u ∧ u ≤ k) → z_W Y 37 [(0, .ref (A 40)), (1, z_i (my ρ)), (3, z_i k), (2, z_i u)] [] (gH D B κ A σ1 h) (11 * k.toNat) (66 * k.toNat) := by
    intro fu
    induction fu with
    | zero => intro k u hf; exact absurd hf (Nat.not_lt_zero _)
    | succ fu ih37 =>
      intro k u hf hk hun hub
      refine z_iload hY eL_isStanding_37 2 rfl ?_
      refine z_iload hY eL_isStanding_38 1 rfl ?_
      refine z_icmpge hY eL_isStanding_39 (by omega) (fun c39 => ?_) (fun c39 => ?_)
      · refine z_aload hY eL_isStanding_284 0 rfl ?_
        refine g_gf hY (gS_X hI1) eL_isStanding_285 (v := .ref (B 0 0)) rfl ?_
        refine z_callV (As := []) (rest := []) hY eL_isStanding_288 (q_results (D := D) (h := lH A (B 0 0) σ1 h) hG (gS_J hI1) (gS_B hI1) (gS_V hI1) (gS_S hI1) ) (cH_at (t := 0) (i := 0) (gS_J hI1) (by omega)) (by decide) (Nat.le_of_ble_eq_true rfl) (by rw [hmc, hms]; omega) (fun _ _ q => q.elim) (fun vv8 hh8 q8 => ?_)
        obtain ⟨rfl, rfl⟩ := q8
        refine z_heq (show _ = gH D B κ A σ1 h from rfl) ?_
        have hcre : cRe κ = u := by rw [hun, show k = κ 24 1 0 by omega]; rfl
        refine z_iload hY eL_isStanding_291 3 rfl ?_
        refine z_icmpne hY eL_isStanding_292 (by omega) (fun c292 => by exfalso; exact c292 hcre) (fun c292 => ?_)
        refine z_const hY eL_isStanding_295 ?_
        refine z_goto hY eL_isStanding_296 ?_
        exact z_zreturn hY eL_isStanding_300 rfl (by omega) (by rw [hφ]; exact ⟨σ1, rfl, hI1, hE1, rfl⟩) (by rw [hmc, hms]; omega)
      · have hpe0 := (w_ea (gS_j hI) (k := k) (by omega)).2
        obtain ⟨e, hee⟩ : ∃ e, e = ea ρ (k + 1) := ⟨_, rfl⟩
        rw [← hee] at hpe0
        obtain ⟨hpe, hple⟩ := hpe0
        have hpb := gS_pb hI1 hpe
        have hcp := gS_cpr hI hpe
        refine z_aload hY eL_isStanding_42 0 rfl ?_
        refine g_gf hY (gS_X hI1) eL_isStanding_43 (v := .ref (A 6)) rfl ?_
        refine z_iload hY eL_isStanding_46 2 rfl ?_
        refine g_ial hY (gS_X hI1) eL_isStanding_47 (j := 6) (N := 30) (x := e) (by decide) rfl (by omega) ((hrow1 k (by omega) (by omega)).1.trans hee.symm) ?_
        refine z_istore hY eL_isStanding_48 (ls' := [(4, z_i e), (0, .ref (A 40)), (1, z_i (my ρ)), (3, z_i k), (2, z_i u)]) rfl ?_
        refine z_const hY eL_isStanding_50 ?_
        refine z_istore hY eL_isStanding_51 (ls' := [(5, z_i 0), (4, z_i e), (0, .ref (A 40)), (1, z_i (my ρ)), (3, z_i k), (2, z_i u)]) rfl ?_
        refine z_const hY eL_isStanding_53 ?_
        refine z_istore hY eL_isStanding_54 (ls' := [(6, z_i 0), (5, z_i 0), (4, z_i e), (0, .ref (A 40)), (1, z_i (my ρ)), (3, z_i k), (2, z_i u)]) rfl ?_
        refine z_const hY eL_isStanding_56 ?_
        refine z_istore hY eL_isStanding_57 (ls' := [(7, z_i 0), (6, z_i 0), (5, z_i 0), (4, z_i e), (0, .ref (A 40)), (1, z_i (my ρ)), (3, z_i k), (2, z_i u)]) rfl ?_
        refine z_sub [4, 5, 7, 6, 3, 0, 2, 1] (ls' := [(0, .ref (A 40)), (1, z_i (my ρ)), (2, z_i u), (3, z_i k), (4, z_i e), (7, z_i 0), (5, z_i 0), (6, z_i 0)]) rfl ?_
        have lp59 : ∀ (fu : Nat) (i : Int) (b : Int) (a : Int), (my ρ - i).toNat < fu → (0 ≤ i ∧ i ≤ my ρ) → (b = z_sm (fun j => if 0 < cp ρ (ea ρ (j + 1)) e then (1 : Int) else 0) i) → (a = z_sm (fun j => if cp ρ (ea ρ (j + 1)) e = 0 then (1 : Int) else 0) i) → (0 ≤ b ∧ b ≤ i ∧ 0 ≤ a ∧ a ≤ i) → z_W Y 59 [(0, .ref (A 40)), (1, z_i (my ρ)), (2, z_i u), (3, z_i k), (4, z_i e), (7, z_i i), (5, z_i b), (6, z_i a)] [] (gH D B κ A σ1 h) (11 * k.toNat) (66 * k.toNat) := by
          intro fu
          induction fu with
          | zero => intro i b a hf; exact absurd hf (Nat.not_lt_zero _)
          | succ fu ih59 =>
            intro i b a hf hi hb ha hab
            refine z_iload hY eL_isStanding_59 5 rfl ?_
            refine z_iload hY eL_isStanding_61 1 rfl ?_
            refine z_icmpge hY eL_isStanding_62 (by omega) (fun c62 => ?_) (fun c62 => ?_)
            · have hbt : b = bt ρ e := by rw [hb, show i = my ρ by omega]; exact w_bt (gS_j hI) e
              have hal : a = al ρ e := by rw [ha, show i = my ρ by omega]; exact w_al (gS_j hI) e
              have hg := w_gI (gS_j hI) (k := k) (by omega)
              rw [← hee] at hg
              have hdn := w_dn (gS_j hI) (k := k) (by omega)
              rw [← hee] at hdn
              refine z_iload hY eL_isStanding_123 3 rfl ?_
              refine z_ifeq hY eL_isStanding_124 (by omega) (fun c124 => ?_) (fun c124 => ?_)
              · refine z_iinc hY eL_isStanding_144 2 rfl (ls' := [(2, z_i (u + 1)), (0, .ref (A 40)), (1, z_i (my ρ)), (3, z_i k), (4, z_i e), (7, z_i i), (5, z_i b), (6, z_i a)]) rfl ?_
                have hu2 : (u + 1) = z_sm (fun j => if gI κ j ≠ 0 then (1 : Int) else 0) (k + 1) := by rw [z_smS (by omega), ← hun]; split; all_goals (rename_i c9; first | (have := hg.mp c9; omega) | (have := fun q => c9 (hg.mpr q); omega))
                have hsr := (gS_R hI).xsRk (gS_M hI) (gS_S hI) hpe
                have hca := (gS_R hI).xcAl (gS_M hI) hpe
                have hpl2 := ((gS_R hI).xpl (gS_M hI) hpe).1
                have hat := (gS_R hI).xat1 (gS_M hI) (gS_S hI) (p := k + 1) (by omega)
                rw [← hee] at hat
                have hcv := (gS_R hI).aCrit (c := σ1 15 0 - 1) hpe (by have := (gS_O hI1 ho).1; omega)
                refine z_aload hY eL_isStanding_147 1 rfl ?_
                refine g_gf hY (gS_X hI1) eL_isStanding_148 (v := .ref (B 0 0)) rfl ?_
                refine z_iload hY eL_isStanding_151 3 rfl ?_
                refine z_const hY eL_isStanding_152 ?_
                refine z_iadd hY eL_isStanding_153 ?_
                refine z_callV (As := [z_i (k + 1)]) (rest := []) hY eL_isStanding_154 (q_at (D := D) (h := lH A (B 0 0) σ1 h) hG (gS_J hI1) (gS_B hI1) (gS_V hI1) (gS_S hI1) (by omega)) (cH_at (t := 0) (i := 0) (gS_J hI1) (by omega)) (by decide) (Nat.le_of_ble_eq_true rfl) (by rw [hmc, hms]; omega) (fun E9 h9 q => by obtain ⟨-, q⟩ := q; exfalso; omega) (fun vv10 hh10 q10 => ?_)
                obtain ⟨-, rfl, rfl⟩ := q10
                refine z_heq (show _ = gH D B κ A σ1 h from rfl) ?_
                refine z_iload hY eL_isStanding_157 4 rfl ?_
                refine z_icmpne hY eL_isStanding_159 (by omega) (fun c159 => by exfalso; exact c159 hat) (fun c159 => ?_)
                refine z_aload hY eL_isStanding_162 1 rfl ?_
                refine g_gf hY (gS_X hI1) eL_isStanding_163 (v := .ref (B 0 0)) rfl ?_
                refine z_iload hY eL_isStanding_166 4 rfl ?_
                refine z_callV (As := [z_i e]) (rest := []) hY eL_isStanding_168 (q_place (D := D) (h := lH A (B 0 0) σ1 h) hG (gS_J hI1) (gS_B hI1) (gS_V hI1) (gS_S hI1) (by omega)) (cH_at (t := 0) (i := 0) (gS_J hI1) (by omega)) (by decide) (Nat.le_of_ble_eq_true rfl) (by rw [hmc, hms]; omega) (fun E9 h9 q => by obtain ⟨-, q⟩ := q; exfalso; omega) (fun vv12 hh12 q12 => ?_)
                obtain ⟨-, rfl, rfl⟩ := q12
                refine z_heq (show _ = gH D B κ A σ1 h from rfl) ?_
                refine z_iload hY eL_isStanding_171 3 rfl ?_
                refine z_const hY eL_isStanding_172 ?_
                refine z_iadd hY eL_isStanding_173 ?_
                refine z_icmpne hY eL_isStanding_174 (by omega) (fun c174 => by exfalso; omega) (fun c174 => ?_)
                refine z_aload hY eL_isStanding_177 1 rfl ?_
                refine g_gf hY (gS_X hI1) eL_isStanding_178 (v := .ref (B 0 0)) rfl ?_
                refine z_iload hY eL_isStanding_181 4 rfl ?_
                refine z_callV (As := [z_i e]) (rest := []) hY eL_isStanding_183 (q_alike (D := D) (h := lH A (B 0 0) σ1 h) hG (gS_J hI1) (gS_B hI1) (gS_V hI1) (gS_S hI1) (by omega)) (cH_at (t := 0) (i := 0) (gS_J hI1) (by omega)) (by decide) (Nat.le_of_ble_eq_true rfl) (by rw [hmc, hms]; omega) (fun E9 h9 q => by obtain ⟨-, q⟩ := q; exfalso; omega) (fun vv14 hh14 q14 => ?_)
                obtain ⟨-, rfl, rfl⟩ := q14
                refine z_heq (show _ = gH D B κ A σ1 h from rfl) ?_
                refine z_iload hY eL_isStanding_186 7 rfl ?_
                refine z_icmpne hY eL_isStanding_188 (by omega) (fun c188 => by exfalso; omega) (fun c188 => ?_)
                refine z_aload hY eL_isStanding_191 1 rfl ?_
                refine g_gf hY (gS_X hI1) eL_isStanding_192 (v := .ref (B 0 0)) rfl ?_
                refine z_iload hY eL_isStanding_195 4 rfl ?_
                refine z_aload hY eL_isStanding_197 1 rfl ?_
                have hb15 := (gS_b hI1).s15 0
                refine g_gf hY (gS_X hI1) eL_isStanding_198 (v := z_i (σ1 15 0)) rfl ?_
                refine z_const hY eL_isStanding_201 ?_
                refine z_isub hY eL_isStanding_202 ?_
                refine z_callV (As := [z_i e, z_i ((σ1 15 0) - 1)]) (rest := []) hY eL_isStanding_203 (q_criterion (D := D) (h := lH A (B 0 0) σ1 h) hG (gS_J hI1) (gS_B hI1) (gS_V hI1) (gS_S hI1) (by omega) (by omega)) (cH_at (t := 0) (i := 0) (gS_J hI1) (by omega)) (by decide) (Nat.le_of_ble_eq_true rfl) (by rw [hmc, hms]; omega) (fun E9 h9 q => by obtain ⟨-, q⟩ := q; exfalso; omega) (fun vv17 hh17 q17 => ?_)
                obtain ⟨-, rfl, rfl⟩ := q17
                refine z_heq (show _ = gH D B κ A σ1 h from rfl) ?_
                refine z_aload hY eL_isStanding_206 1 rfl ?_
                refine z_iload hY eL_isStanding_207 4 rfl ?_
                refine z_aload hY eL_isStanding_209 1 rfl ?_
                refine g_gf hY (gS_X hI1) eL_isStanding_210 (v := z_i (σ1 15 0)) rfl ?_
                refine z_const hY eL_isStanding_213 ?_
                refine z_isub hY eL_isStanding_214 ?_
                refine z_callVr (As := [z_i e, z_i ((σ1 15 0) - 1)]) (rest := [z_i (cVl κ (κ 17 0 0) e ((σ1 15 0) - 1))]) (r := z_i (vl ρ e ((σ1 15 0) - 1))) hY eL_isStanding_215 (la_valueOf hG hI1 ho (e := e) (c := ((σ1 15 0) - 1)) (by omega) (by omega)) ((gH_at (gS_X hI1) (by decide)).trans (congrArg some lC_40)) (by decide) (Nat.le_of_ble_eq_true rfl) (by rw [hmc, hms]; omega) ?_
                have hv18 := vl_b (gS_M hI1) e ((σ1 15 0) - 1)
                refine z_icmpeq hY eL_isStanding_218 (by omega) (fun c218 => ?_) (fun c218 => by exfalso; exact c218 hcv)
                refine z_aload hY eL_isStanding_223 1 rfl ?_
                refine g_gf hY (gS_X hI1) eL_isStanding_224 (v := .ref (B 0 0)) rfl ?_
                refine z_iload hY eL_isStanding_227 4 rfl ?_
                refine z_const hY eL_isStanding_229 ?_
                refine z_callV (As := [z_i e, z_i 0]) (rest := []) hY eL_isStanding_230 (q_rank (D := D) (h := lH A (B 0 0) σ1 h) hG (gS_J hI1) (gS_B hI1) (gS_V hI1) (gS_S hI1) (by omega) (by omega)) (cH_at (t := 0) (i := 0) (gS_J hI1) (by omega)) (by decide) (Nat.le_of_ble_eq_true rfl) (by rw [hmc, hms]; omega) (fun E9 h9 q => by obtain ⟨-, q⟩ := q; exfalso; omega) (fun vv20 hh20 q20 => ?_)
                obtain ⟨-, rfl, rfl⟩ := q20
                refine z_heq (show _ = gH D B κ A σ1 h from rfl) ?_
                refine z_top (b := sRk κ e) (if_pos rfl) ?_
                refine z_iload hY eL_isStanding_233 6 rfl ?_
                refine z_const hY eL_isStanding_235 ?_
                refine z_iadd hY eL_isStanding_236 ?_
                refine z_icmpne hY eL_isStanding_237 (by omega) (fun c237 => by exfalso; omega) (fun c237 => ?_)
                refine z_aload hY eL_isStanding_240 1 rfl ?_
                refine g_gf hY (gS_X hI1) eL_isStanding_241 (v := .ref (B 0 0)) rfl ?_
                refine z_iload hY eL_isStanding_244 4 rfl ?_
                refine z_const hY eL_isStanding_246 ?_
                refine z_callV (As := [z_i e, z_i 1]) (rest := []) hY eL_isStanding_247 (q_rank (D := D) (h := lH A (B 0 0) σ1 h) hG (gS_J hI1) (gS_B hI1) (gS_V hI1) (gS_S hI1) (by omega) (by omega)) (cH_at (t := 0) (i := 0) (gS_J hI1) (by omega)) (by decide) (Nat.le_of_ble_eq_true rfl) (by rw [hmc, hms]; omega) (fun E9 h9 q => by obtain ⟨-, q⟩ := q; exfalso; omega) (fun vv22 hh22 q22 => ?_)
                obtain ⟨-, rfl, rfl⟩ := q22
                refine z_heq (show _ = gH D B κ A σ1 h from rfl) ?_
                refine z_top (b := cDn κ e) ((if_neg (by decide)).trans (if_pos rfl)) ?_
                refine z_iload hY eL_isStanding_250 0 rfl ?_
                refine z_icmpne hY eL_isStanding_251 (by omega) (fun c251 => by exfalso; omega) (fun c251 => ?_)
                refine z_aload hY eL_isStanding_254 1 rfl ?_
                refine g_gf hY (gS_X hI1) eL_isStanding_255 (v := .ref (B 0 0)) rfl ?_
                refine z_iload hY eL_isStanding_258 4 rfl ?_
                refine z_const hY eL_isStanding_260 ?_
                refine z_callV (As := [z_i e, z_i 2]) (rest := []) hY eL_isStanding_261 (q_rank (D := D) (h := lH A (B 0 0) σ1 h) hG (gS_J hI1) (gS_B hI1) (gS_V hI1) (gS_S hI1) (by omega) (by omega)) (cH_at (t := 0) (i := 0) (gS_J hI1) (by omega)) (by decide) (Nat.le_of_ble_eq_true rfl) (by rw [hmc, hms]; omega) (fun E9 h9 q => by obtain ⟨-, q⟩ := q; exfalso; omega) (fun vv24 hh24 q24 => ?_)
                obtain ⟨-, rfl, rfl⟩ := q24
                refine z_heq (show _ = gH D B κ A σ1 h from rfl) ?_
                refine z_top (b := 2 * sRk κ e + cAl κ e - 1) ((if_neg (by decide)).trans (if_neg (by decide))) ?_
                refine z_const hY eL_isStanding_264 ?_
                refine z_iload hY eL_isStanding_265 6 rfl ?_
                refine z_imul hY eL_isStanding_267 ?_
                refine z_iload hY eL_isStanding_268 7 rfl ?_
                refine z_iadd hY eL_isStanding_270 ?_
                refine z_const hY eL_isStanding_271 ?_
                refine z_iadd hY eL_isStanding_272 ?_
                refine z_icmpeq hY eL_isStanding_273 (by omega) (fun c273 => ?_) (fun c273 => by exfalso; omega)
                refine z_iinc hY eL_isStanding_278 3 rfl (ls' := [(3, z_i (k + 1)), (2, z_i (u + 1)), (0, .ref (A 40)), (1, z_i (my ρ)), (4, z_i e), (7, z_i i), (5, z_i b), (6, z_i a)]) rfl ?_
                refine z_goto hY eL_isStanding_281 ?_
                refine z_sub [2, 3, 0, 1] (ls' := [(0, .ref (A 40)), (1, z_i (my ρ)), (3, z_i (k + 1)), (2, z_i (u + 1))]) rfl ?_
                refine z_widen (k' := (11 * (k + 1).toNat)) (n' := (66 * (k + 1).toNat)) (by omega) (by omega) ?_
                exact ih37 (k + 1) (u + 1) (by omega) (by omega) hu2 (by omega)
              · have hpk := pr_b (w_ea (gS_j hI) (k := k - 1) (by omega)).2.1
                rw [show k - 1 + 1 = k by omega] at hpk
                refine z_aload hY eL_isStanding_127 0 rfl ?_
                refine z_aload hY eL_isStanding_128 0 rfl ?_
                refine g_gf hY (gS_X hI1) eL_isStanding_129 (v := .ref (A 6)) rfl ?_
                refine z_iload hY eL_isStanding_132 3 rfl ?_
                refine z_const hY eL_isStanding_133 ?_
                refine z_isub hY eL_isStanding_134 ?_
                refine g_ial hY (gS_X hI1) eL_isStanding_135 (j := 6) (N := 30) (x := ea ρ k) (by decide) rfl (by omega) (by have h9 := (hrow1 (k - 1) (by omega) (by omega)).1; rwa [show k - 1 + 1 = k by omega] at h9) ?_
                refine z_iload hY eL_isStanding_136 4 rfl ?_
                refine z_callVr (As := [z_i (ea ρ k), z_i e]) (rest := []) (r := z_i (cp ρ (ea ρ k) e)) hY eL_isStanding_138 (la_compares hG hI1 ho (e := (ea ρ k)) (f := e) (by omega) (by omega)) ((gH_at (gS_X hI1) (by decide)).trans (congrArg some lC_40)) (by decide) (Nat.le_of_ble_eq_true rfl) (by rw [hmc, hms]; omega) ?_
                have hv25 := cp_b ρ (ea ρ k) e
                refine z_ifle hY eL_isStanding_141 (by omega) (fun c141 => ?_) (fun c141 => ?_)
                · have hu2 : u = z_sm (fun j => if gI κ j ≠ 0 then (1 : Int) else 0) (k + 1) := by rw [z_smS (by omega), ← hun]; split; all_goals (rename_i c9; first | (have := hg.mp c9; omega) | (have := fun q => c9 (hg.mpr q); omega))
                  have hsr := (gS_R hI).xsRk (gS_M hI) (gS_S hI) hpe
                  have hca := (gS_R hI).xcAl (gS_M hI) hpe
                  have hpl2 := ((gS_R hI).xpl (gS_M hI) hpe).1
                  have hat := (gS_R hI).xat1 (gS_M hI) (gS_S hI) (p := k + 1) (by omega)
                  rw [← hee] at hat
                  have hcv := (gS_R hI).aCrit (c := σ1 15 0 - 1) hpe (by have := (gS_O hI1 ho).1; omega)
                  refine z_aload hY eL_isStanding_147 0 rfl ?_
                  refine g_gf hY (gS_X hI1) eL_isStanding_148 (v := .ref (B 0 0)) rfl ?_
                  refine z_iload hY eL_isStanding_151 3 rfl ?_
                  refine z_const hY eL_isStanding_152 ?_
                  refine z_iadd hY eL_isStanding_153 ?_
                  refine z_callV (As := [z_i (k + 1)]) (rest := []) hY eL_isStanding_154 (q_at (D := D) (h := lH A (B 0 0) σ1 h) hG (gS_J hI1) (gS_B hI1) (gS_V hI1) (gS_S hI1) (by omega)) (cH_at (t := 0) (i := 0) (gS_J hI1) (by omega)) (by decide) (Nat.le_of_ble_eq_true rfl) (by rw [hmc, hms]; omega) (fun E9 h9 q => by obtain ⟨-, q⟩ := q; exfalso; omega) (fun vv27 hh27 q27 => ?_)
                  obtain ⟨-, rfl, rfl⟩ := q27
                  refine z_heq (show _ = gH D B κ A σ1 h from rfl) ?_
                  refine z_iload hY eL_isStanding_157 4 rfl ?_
                  refine z_icmpne hY eL_isStanding_159 (by omega) (fun c159 => by exfalso; exact c159 hat) (fun c159 => ?_)
                  refine z_aload hY eL_isStanding_162 0 rfl ?_
                  refine g_gf hY (gS_X hI1) eL_isStanding_163 (v := .ref (B 0 0)) rfl ?_
                  refine z_iload hY eL_isStanding_166 4 rfl ?_
                  refine z_callV (As := [z_i e]) (rest := []) hY eL_isStanding_168 (q_place (D := D) (h := lH A (B 0 0) σ1 h) hG (gS_J hI1) (gS_B hI1) (gS_V hI1) (gS_S hI1) (by omega)) (cH_at (t := 0) (i := 0) (gS_J hI1) (by omega)) (by decide) (Nat.le_of_ble_eq_true rfl) (by rw [hmc, hms]; omega) (fun E9 h9 q => by obtain ⟨-, q⟩ := q; exfalso; omega) (fun vv29 hh29 q29 => ?_)
                  obtain ⟨-, rfl, rfl⟩ := q29
                  refine z_heq (show _ = gH D B κ A σ1 h from rfl) ?_
                  refine z_iload hY eL_isStanding_171 3 rfl ?_
                  refine z_const hY eL_isStanding_172 ?_
                  refine z_iadd hY eL_isStanding_173 ?_
                  refine z_icmpne hY eL_isStanding_174 (by omega) (fun c174 => by exfalso; omega) (fun c174 => ?_)
                  refine z_aload hY eL_isStanding_177 0 rfl ?_
                  refine g_gf hY (gS_X hI1) eL_isStanding_178 (v := .ref (B 0 0)) rfl ?_
                  refine z_iload hY eL_isStanding_181 4 rfl ?_
                  refine z_callV (As := [z_i e]) (rest := []) hY eL_isStanding_183 (q_alike (D := D) (h := lH A (B 0 0) σ1 h) hG (gS_J hI1) (gS_B hI1) (gS_V hI1) (gS_S hI1) (by omega)) (cH_at (t := 0) (i := 0) (gS_J hI1) (by omega)) (by decide) (Nat.le_of_ble_eq_true rfl) (by rw [hmc, hms]; omega) (fun E9 h9 q => by obtain ⟨-, q⟩ := q; exfalso; omega) (fun vv31 hh31 q31 => ?_)
                  obtain ⟨-, rfl, rfl⟩ := q31
                  refine z_heq (show _ = gH D B κ A σ1 h from rfl) ?_
                  refine z_iload hY eL_isStanding_186 7 rfl ?_
                  refine z_icmpne hY eL_isStanding_188 (by omega) (fun c188 => by exfalso; omega) (fun c188 => ?_)
                  refine z_aload hY eL_isStanding_191 0 rfl ?_
                  refine g_gf hY (gS_X hI1) eL_isStanding_192 (v := .ref (B 0 0)) rfl ?_
                  refine z_iload hY eL_isStanding_195 4 rfl ?_
                  refine z_aload hY eL_isStanding_197 0 rfl ?_
                  have hb32 := (gS_b hI1).s15 0
                  refine g_gf hY (gS_X hI1) eL_isStanding_198 (v := z_i (σ1 15 0)) rfl ?_
                  refine z_const hY eL_isStanding_201 ?_
                  refine z_isub hY eL_isStanding_202 ?_
                  refine z_callV (As := [z_i e, z_i ((σ1 15 0) - 1)]) (rest := []) hY eL_isStanding_203 (q_criterion (D := D) (h := lH A (B 0 0) σ1 h) hG (gS_J hI1) (gS_B hI1) (gS_V hI1) (gS_S hI1) (by omega) (by omega)) (cH_at (t := 0) (i := 0) (gS_J hI1) (by omega)) (by decide) (Nat.le_of_ble_eq_true rfl) (by rw [hmc, hms]; omega) (fun E9 h9 q => by obtain ⟨-, q⟩ := q; exfalso; omega) (fun vv34 hh34 q34 => ?_)
                  obtain ⟨-, rfl, rfl⟩ := q34
                  refine z_heq (show _ = gH D B κ A σ1 h from rfl) ?_
                  refine z_aload hY eL_isStanding_206 0 rfl ?_
                  refine z_iload hY eL_isStanding_207 4 rfl ?_
                  refine z_aload hY eL_isStanding_209 0 rfl ?_
                  refine g_gf hY (gS_X hI1) eL_isStanding_210 (v := z_i (σ1 15 0)) rfl ?_
                  refine z_const hY eL_isStanding_213 ?_
                  refine z_isub hY eL_isStanding_214 ?_
                  refine z_callVr (As := [z_i e, z_i ((σ1 15 0) - 1)]) (rest := [z_i (cVl κ (κ 17 0 0) e ((σ1 15 0) - 1))]) (r := z_i (vl ρ e ((σ1 15 0) - 1))) hY eL_isStanding_215 (la_valueOf hG hI1 ho (e := e) (c := ((σ1 15 0) - 1)) (by omega) (by omega)) ((gH_at (gS_X hI1) (by decide)).trans (congrArg some lC_40)) (by decide) (Nat.le_of_ble_eq_true rfl) (by rw [hmc, hms]; omega) ?_
                  have hv35 := vl_b (gS_M hI1) e ((σ1 15 0) - 1)
                  refine z_icmpeq hY eL_isStanding_218 (by omega) (fun c218 => ?_) (fun c218 => by exfalso; exact c218 hcv)
                  refine z_aload hY eL_isStanding_223 0 rfl ?_
                  refine g_gf hY (gS_X hI1) eL_isStanding_224 (v := .ref (B 0 0)) rfl ?_
                  refine z_iload hY eL_isStanding_227 4 rfl ?_
                  refine z_const hY eL_isStanding_229 ?_
                  refine z_callV (As := [z_i e, z_i 0]) (rest := []) hY eL_isStanding_230 (q_rank (D := D) (h := lH A (B 0 0) σ1 h) hG (gS_J hI1) (gS_B hI1) (gS_V hI1) (gS_S hI1) (by omega) (by omega)) (cH_at (t := 0) (i := 0) (gS_J hI1) (by omega)) (by decide) (Nat.le_of_ble_eq_true rfl) (by rw [hmc, hms]; omega) (fun E9 h9 q => by obtain ⟨-, q⟩ := q; exfalso; omega) (fun vv37 hh37 q37 => ?_)
                  obtain ⟨-, rfl, rfl⟩ := q37
                  refine z_heq (show _ = gH D B κ A σ1 h from rfl) ?_
                  refine z_top (b := sRk κ e) (if_pos rfl) ?_
                  refine z_iload hY eL_isStanding_233 6 rfl ?_
                  refine z_const hY eL_isStanding_235 ?_
                  refine z_iadd hY eL_isStanding_236 ?_
                  refine z_icmpne hY eL_isStanding_237 (by omega) (fun c237 => by exfalso; omega) (fun c237 => ?_)
                  refine z_aload hY eL_isStanding_240 0 rfl ?_
                  refine g_gf hY (gS_X hI1) eL_isStanding_241 (v := .ref (B 0 0)) rfl ?_
                  refine z_iload hY eL_isStanding_244 4 rfl ?_
                  refine z_const hY eL_isStanding_246 ?_
                  refine z_callV (As := [z_i e, z_i 1]) (rest := []) hY eL_isStanding_247 (q_rank (D := D) (h := lH A (B 0 0) σ1 h) hG (gS_J hI1) (gS_B hI1) (gS_V hI1) (gS_S hI1) (by omega) (by omega)) (cH_at (t := 0) (i := 0) (gS_J hI1) (by omega)) (by decide) (Nat.le_of_ble_eq_true rfl) (by rw [hmc, hms]; omega) (fun E9 h9 q => by obtain ⟨-, q⟩ := q; exfalso; omega) (fun vv39 hh39 q39 => ?_)
                  obtain ⟨-, rfl, rfl⟩ := q39
                  refine z_heq (show _ = gH D B κ A σ1 h from rfl) ?_
                  refine z_top (b := cDn κ e) ((if_neg (by decide)).trans (if_pos rfl)) ?_
                  refine z_iload hY eL_isStanding_250 2 rfl ?_
                  refine z_icmpne hY eL_isStanding_251 (by omega) (fun c251 => by exfalso; omega) (fun c251 => ?_)
                  refine z_aload hY eL_isStanding_254 0 rfl ?_
                  refine g_gf hY (gS_X hI1) eL_isStanding_255 (v := .ref (B 0 0)) rfl ?_
                  refine z_iload hY eL_isStanding_258 4 rfl ?_
                  refine z_const hY eL_isStanding_260 ?_
                  refine z_callV (As := [z_i e, z_i 2]) (rest := []) hY eL_isStanding_261 (q_rank (D := D) (h := lH A (B 0 0) σ1 h) hG (gS_J hI1) (gS_B hI1) (gS_V hI1) (gS_S hI1) (by omega) (by omega)) (cH_at (t := 0) (i := 0) (gS_J hI1) (by omega)) (by decide) (Nat.le_of_ble_eq_true rfl) (by rw [hmc, hms]; omega) (fun E9 h9 q => by obtain ⟨-, q⟩ := q; exfalso; omega) (fun vv41 hh41 q41 => ?_)
                  obtain ⟨-, rfl, rfl⟩ := q41
                  refine z_heq (show _ = gH D B κ A σ1 h from rfl) ?_
                  refine z_top (b := 2 * sRk κ e + cAl κ e - 1) ((if_neg (by decide)).trans (if_neg (by decide))) ?_
                  refine z_const hY eL_isStanding_264 ?_
                  refine z_iload hY eL_isStanding_265 6 rfl ?_
                  refine z_imul hY eL_isStanding_267 ?_
                  refine z_iload hY eL_isStanding_268 7 rfl ?_
                  refine z_iadd hY eL_isStanding_270 ?_
                  refine z_const hY eL_isStanding_271 ?_
                  refine z_iadd hY eL_isStanding_272 ?_
                  refine z_icmpeq hY eL_isStanding_273 (by omega) (fun c273 => ?_) (fun c273 => by exfalso; omega)
                  refine z_iinc hY eL_isStanding_278 3 rfl (ls' := [(3, z_i (k + 1)), (0, .ref (A 40)), (1, z_i (my ρ)), (2, z_i u), (4, z_i e), (7, z_i i), (5, z_i b), (6, z_i a)]) rfl ?_
                  refine z_goto hY eL_isStanding_281 ?_
                  refine z_sub [1, 2, 0, 3] (ls' := [(0, .ref (A 40)), (1, z_i (my ρ)), (3, z_i (k + 1)), (2, z_i u)]) rfl ?_
                  refine z_widen (k' := (11 * (k + 1).toNat)) (n' := (66 * (k + 1).toNat)) (by omega) (by omega) ?_
                  exact ih37 (k + 1) u (by omega) (by omega) hu2 (by omega)
                · refine z_iinc hY eL_isStanding_144 2 rfl (ls' := [(2, z_i (u + 1)), (0, .ref (A 40)), (1, z_i (my ρ)), (3, z_i k), (4, z_i e), (7, z_i i), (5, z_i b), (6, z_i a)]) rfl ?_
                  have hu2 : (u + 1) = z_sm (fun j => if gI κ j ≠ 0 then (1 : Int) else 0) (k + 1) := by rw [z_smS (by omega), ← hun]; split; all_goals (rename_i c9; first | (have := hg.mp c9; omega) | (have := fun q => c9 (hg.mpr q); omega))
                  have hsr := (gS_R hI).xsRk (gS_M hI) (gS_S hI) hpe
                  have hca := (gS_R hI).xcAl (gS_M hI) hpe
                  have hpl2 := ((gS_R hI).xpl (gS_M hI) hpe).1
                  have hat := (gS_R hI).xat1 (gS_M hI) (gS_S hI) (p := k + 1) (by omega)
                  rw [← hee] at hat
                  have hcv := (gS_R hI).aCrit (c := σ1 15 0 - 1) hpe (by have := (gS_O hI1 ho).1; omega)
                  refine z_aload hY eL_isStanding_147 1 rfl ?_
                  refine g_gf hY (gS_X hI1) eL_isStanding_148 (v := .ref (B 0 0)) rfl ?_
                  refine z_iload hY eL_isStanding_151 3 rfl ?_
                  refine z_const hY eL_isStanding_152 ?_
                  refine z_iadd hY eL_isStanding_153 ?_
                  refine z_callV (As := [z_i (k + 1)]) (rest := []) hY eL_isStanding_154 (q_at (D := D) (h := lH A (B 0 0) σ1 h) hG (gS_J hI1) (gS_B hI1) (gS_V hI1) (gS_S hI1) (by omega)) (cH_at (t := 0) (i := 0) (gS_J hI1) (by omega)) (by decide) (Nat.le_of_ble_eq_true rfl) (by rw [hmc, hms]; omega) (fun E9 h9 q => by obtain ⟨-, q⟩ := q; exfalso; omega) (fun vv43 hh43 q43 => ?_)
                  obtain ⟨-, rfl, rfl⟩ := q43
                  refine z_heq (show _ = gH D B κ A σ1 h from rfl) ?_
                  refine z_iload hY eL_isStanding_157 4 rfl ?_
                  refine z_icmpne hY eL_isStanding_159 (by omega) (fun c159 => by exfalso; exact c159 hat) (fun c159 => ?_)
                  refine z_aload hY eL_isStanding_162 1 rfl ?_
                  refine g_gf hY (gS_X hI1) eL_isStanding_163 (v := .ref (B 0 0)) rfl ?_
                  refine z_iload hY eL_isStanding_166 4 rfl ?_
                  refine z_callV (As := [z_i e]) (rest := []) hY eL_isStanding_168 (q_place (D := D) (h := lH A (B 0 0) σ1 h) hG (gS_J hI1) (gS_B hI1) (gS_V hI1) (gS_S hI1) (by omega)) (cH_at (t := 0) (i := 0) (gS_J hI1) (by omega)) (by decide) (Nat.le_of_ble_eq_true rfl) (by rw [hmc, hms]; omega) (fun E9 h9 q => by obtain ⟨-, q⟩ := q; exfalso; omega) (fun vv45 hh45 q45 => ?_)
                  obtain ⟨-, rfl, rfl⟩ := q45
                  refine z_heq (show _ = gH D B κ A σ1 h from rfl) ?_
                  refine z_iload hY eL_isStanding_171 3 rfl ?_
                  refine z_const hY eL_isStanding_172 ?_
                  refine z_iadd hY eL_isStanding_173 ?_
                  refine z_icmpne hY eL_isStanding_174 (by omega) (fun c174 => by exfalso; omega) (fun c174 => ?_)
                  refine z_aload hY eL_isStanding_177 1 rfl ?_
                  refine g_gf hY (gS_X hI1) eL_isStanding_178 (v := .ref (B 0 0)) rfl ?_
                  refine z_iload hY eL_isStanding_181 4 rfl ?_
                  refine z_callV (As := [z_i e]) (rest := []) hY eL_isStanding_183 (q_alike (D := D) (h := lH A (B 0 0) σ1 h) hG (gS_J hI1) (gS_B hI1) (gS_V hI1) (gS_S hI1) (by omega)) (cH_at (t := 0) (i := 0) (gS_J hI1) (by omega)) (by decide) (Nat.le_of_ble_eq_true rfl) (by rw [hmc, hms]; omega) (fun E9 h9 q => by obtain ⟨-, q⟩ := q; exfalso; omega) (fun vv47 hh47 q47 => ?_)
                  obtain ⟨-, rfl, rfl⟩ := q47
                  refine z_heq (show _ = gH D B κ A σ1 h from rfl) ?_
                  refine z_iload hY eL_isStanding_186 7 rfl ?_
                  refine z_icmpne hY eL_isStanding_188 (by omega) (fun c188 => by exfalso; omega) (fun c188 => ?_)
                  refine z_aload hY eL_isStanding_191 1 rfl ?_
                  refine g_gf hY (gS_X hI1) eL_isStanding_192 (v := .ref (B 0 0)) rfl ?_
                  refine z_iload hY eL_isStanding_195 4 rfl ?_
                  refine z_aload hY eL_isStanding_197 1 rfl ?_
                  have hb48 := (gS_b hI1).s15 0
                  refine g_gf hY (gS_X hI1) eL_isStanding_198 (v := z_i (σ1 15 0)) rfl ?_
                  refine z_const hY eL_isStanding_201 ?_
                  refine z_isub hY eL_isStanding_202 ?_
                  refine z_callV (As := [z_i e, z_i ((σ1 15 0) - 1)]) (rest := []) hY eL_isStanding_203 (q_criterion (D := D) (h := lH A (B 0 0) σ1 h) hG (gS_J hI1) (gS_B hI1) (gS_V hI1) (gS_S hI1) (by omega) (by omega)) (cH_at (t := 0) (i := 0) (gS_J hI1) (by omega)) (by decide) (Nat.le_of_ble_eq_true rfl) (by rw [hmc, hms]; omega) (fun E9 h9 q => by obtain ⟨-, q⟩ := q; exfalso; omega) (fun vv50 hh50 q50 => ?_)
                  obtain ⟨-, rfl, rfl⟩ := q50
                  refine z_heq (show _ = gH D B κ A σ1 h from rfl) ?_
                  refine z_aload hY eL_isStanding_206 1 rfl ?_
                  refine z_iload hY eL_isStanding_207 4 rfl ?_
                  refine z_aload hY eL_isStanding_209 1 rfl ?_
                  refine g_gf hY (gS_X hI1) eL_isStanding_210 (v := z_i (σ1 15 0)) rfl ?_
                  refine z_const hY eL_isStanding_213 ?_
                  refine z_isub hY eL_isStanding_214 ?_
                  refine z_callVr (As := [z_i e, z_i ((σ1 15 0) - 1)]) (rest := [z_i (cVl κ (κ 17 0 0) e ((σ1 15 0) - 1))]) (r := z_i (vl ρ e ((σ1 15 0) - 1))) hY eL_isStanding_215 (la_valueOf hG hI1 ho (e := e) (c := ((σ1 15 0) - 1)) (by omega) (by omega)) ((gH_at (gS_X hI1) (by decide)).trans (congrArg some lC_40)) (by decide) (Nat.le_of_ble_eq_true rfl) (by rw [hmc, hms]; omega) ?_
                  have hv51 := vl_b (gS_M hI1) e ((σ1 15 0) - 1)
                  refine z_icmpeq hY eL_isStanding_218 (by omega) (fun c218 => ?_) (fun c218 => by exfalso; exact c218 hcv)
                  refine z_aload hY eL_isStanding_223 1 rfl ?_
                  refine g_gf hY (gS_X hI1) eL_isStanding_224 (v := .ref (B 0 0)) rfl ?_
                  refine z_iload hY eL_isStanding_227 4 rfl ?_
                  refine z_const hY eL_isStanding_229 ?_
                  refine z_callV (As := [z_i e, z_i 0]) (rest := []) hY eL_isStanding_230 (q_rank (D := D) (h := lH A (B 0 0) σ1 h) hG (gS_J hI1) (gS_B hI1) (gS_V hI1) (gS_S hI1) (by omega) (by omega)) (cH_at (t := 0) (i := 0) (gS_J hI1) (by omega)) (by decide) (Nat.le_of_ble_eq_true rfl) (by rw [hmc, hms]; omega) (fun E9 h9 q => by obtain ⟨-, q⟩ := q; exfalso; omega) (fun vv53 hh53 q53 => ?_)
                  obtain ⟨-, rfl, rfl⟩ := q53
                  refine z_heq (show _ = gH D B κ A σ1 h from rfl) ?_
                  refine z_top (b := sRk κ e) (if_pos rfl) ?_
                  refine z_iload hY eL_isStanding_233 6 rfl ?_
                  refine z_const hY eL_isStanding_235 ?_
                  refine z_iadd hY eL_isStanding_236 ?_
                  refine z_icmpne hY eL_isStanding_237 (by omega) (fun c237 => by exfalso; omega) (fun c237 => ?_)
                  refine z_aload hY eL_isStanding_240 1 rfl ?_
                  refine g_gf hY (gS_X hI1) eL_isStanding_241 (v := .ref (B 0 0)) rfl ?_
                  refine z_iload hY eL_isStanding_244 4 rfl ?_
                  refine z_const hY eL_isStanding_246 ?_
                  refine z_callV (As := [z_i e, z_i 1]) (rest := []) hY eL_isStanding_247 (q_rank (D := D) (h := lH A (B 0 0) σ1 h) hG (gS_J hI1) (gS_B hI1) (gS_V hI1) (gS_S hI1) (by omega) (by omega)) (cH_at (t := 0) (i := 0) (gS_J hI1) (by omega)) (by decide) (Nat.le_of_ble_eq_true rfl) (by rw [hmc, hms]; omega) (fun E9 h9 q => by obtain ⟨-, q⟩ := q; exfalso; omega) (fun vv55 hh55 q55 => ?_)
                  obtain ⟨-, rfl, rfl⟩ := q55
                  refine z_heq (show _ = gH D B κ A σ1 h from rfl) ?_
                  refine z_top (b := cDn κ e) ((if_neg (by decide)).trans (if_pos rfl)) ?_
                  refine z_iload hY eL_isStanding_250 0 rfl ?_
                  refine z_icmpne hY eL_isStanding_251 (by omega) (fun c251 => by exfalso; omega) (fun c251 => ?_)
                  refine z_aload hY eL_isStanding_254 1 rfl ?_
                  refine g_gf hY (gS_X hI1) eL_isStanding_255 (v := .ref (B 0 0)) rfl ?_
                  refine z_iload hY eL_isStanding_258 4 rfl ?_
                  refine z_const hY eL_isStanding_260 ?_
                  refine z_callV (As := [z_i e, z_i 2]) (rest := []) hY eL_isStanding_261 (q_rank (D := D) (h := lH A (B 0 0) σ1 h) hG (gS_J hI1) (gS_B hI1) (gS_V hI1) (gS_S hI1) (by omega) (by omega)) (cH_at (t := 0) (i := 0) (gS_J hI1) (by omega)) (by decide) (Nat.le_of_ble_eq_true rfl) (by rw [hmc, hms]; omega) (fun E9 h9 q => by obtain ⟨-, q⟩ := q; exfalso; omega) (fun vv57 hh57 q57 => ?_)
                  obtain ⟨-, rfl, rfl⟩ := q57
                  refine z_heq (show _ = gH D B κ A σ1 h from rfl) ?_
                  refine z_top (b := 2 * sRk κ e + cAl κ e - 1) ((if_neg (by decide)).trans (if_neg (by decide))) ?_
                  refine z_const hY eL_isStanding_264 ?_
                  refine z_iload hY eL_isStanding_265 6 rfl ?_
                  refine z_imul hY eL_isStanding_267 ?_
                  refine z_iload hY eL_isStanding_268 7 rfl ?_
                  refine z_iadd hY eL_isStanding_270 ?_
                  refine z_const hY eL_isStanding_271 ?_
                  refine z_iadd hY eL_isStanding_272 ?_
                  refine z_icmpeq hY eL_isStanding_273 (by omega) (fun c273 => ?_) (fun c273 => by exfalso; omega)
                  refine z_iinc hY eL_isStanding_278 3 rfl (ls' := [(3, z_i (k + 1)), (2, z_i (u + 1)), (0, .ref (A 40)), (1, z_i (my ρ)), (4, z_i e), (7, z_i i), (5, z_i b), (6, z_i a)]) rfl ?_
                  refine z_goto hY eL_isStanding_281 ?_
                  refine z_sub [2, 3, 0, 1] (ls' := [(0, .ref (A 40)), (1, z_i (my ρ)), (3, z_i (k + 1)), (2, z_i (u + 1))]) rfl ?_
                  refine z_widen (k' := (11 * (k + 1).toNat)) (n' := (66 * (k + 1).toNat)) (by omega) (by omega) ?_
                  exact ih37 (k + 1) (u + 1) (by omega) (by omega) hu2 (by omega)
            · have hpi := pr_b (w_ea (gS_j hI) (k := i) (by omega)).2.1
              refine z_iload hY eL_isStanding_65 6 rfl ?_
              refine z_aload hY eL_isStanding_67 0 rfl ?_
              refine z_aload hY eL_isStanding_68 0 rfl ?_
              refine g_gf hY (gS_X hI1) eL_isStanding_69 (v := .ref (A 6)) rfl ?_
              refine z_iload hY eL_isStanding_72 5 rfl ?_
              refine g_ial hY (gS_X hI1) eL_isStanding_74 (j := 6) (N := 30) (x := ea ρ (i + 1)) (by decide) rfl (by omega) (hrow1 i (by omega) (by omega)).1 ?_
              refine z_iload hY eL_isStanding_75 4 rfl ?_
              refine z_callVr (As := [z_i (ea ρ (i + 1)), z_i e]) (rest := [z_i b]) (r := z_i (cp ρ (ea ρ (i + 1)) e)) hY eL_isStanding_77 (la_compares hG hI1 ho (e := (ea ρ (i + 1))) (f := e) (by omega) (by omega)) ((gH_at (gS_X hI1) (by decide)).trans (congrArg some lC_40)) (by decide) (Nat.le_of_ble_eq_true rfl) (by rw [hmc, hms]; omega) ?_
              have hv58 := cp_b ρ (ea ρ (i + 1)) e
              refine z_ifle hY eL_isStanding_80 (by omega) (fun c80 => ?_) (fun c80 => ?_)
              · refine z_const hY eL_isStanding_87 ?_
                refine z_iadd hY eL_isStanding_88 ?_
                refine z_top (b := b) (by omega) ?_
                refine z_istore hY eL_isStanding_89 (ls' := [(5, z_i b), (0, .ref (A 40)), (1, z_i (my ρ)), (2, z_i u), (3, z_i k), (4, z_i e), (7, z_i i), (6, z_i a)]) rfl ?_
                refine z_iload hY eL_isStanding_91 7 rfl ?_
                refine z_aload hY eL_isStanding_93 1 rfl ?_
                refine z_aload hY eL_isStanding_94 1 rfl ?_
                refine g_gf hY (gS_X hI1) eL_isStanding_95 (v := .ref (A 6)) rfl ?_
                refine z_iload hY eL_isStanding_98 6 rfl ?_
                refine g_ial hY (gS_X hI1) eL_isStanding_100 (j := 6) (N := 30) (x := ea ρ (i + 1)) (by decide) rfl (by omega) (hrow1 i (by omega) (by omega)).1 ?_
                refine z_iload hY eL_isStanding_101 5 rfl ?_
                refine z_callVr (As := [z_i (ea ρ (i + 1)), z_i e]) (rest := [z_i a]) (r := z_i (cp ρ (ea ρ (i + 1)) e)) hY eL_isStanding_103 (la_compares hG hI1 ho (e := (ea ρ (i + 1))) (f := e) (by omega) (by omega)) ((gH_at (gS_X hI1) (by decide)).trans (congrArg some lC_40)) (by decide) (Nat.le_of_ble_eq_true rfl) (by rw [hmc, hms]; omega) ?_
                have hv59 := cp_b ρ (ea ρ (i + 1)) e
                refine z_ifne hY eL_isStanding_106 (by omega) (fun c106 => ?_) (fun c106 => ?_)
                · refine z_const hY eL_isStanding_113 ?_
                  refine z_iadd hY eL_isStanding_114 ?_
                  refine z_top (b := a) (by omega) ?_
                  refine z_istore hY eL_isStanding_115 (ls' := [(6, z_i a), (5, z_i b), (0, .ref (A 40)), (1, z_i (my ρ)), (2, z_i u), (3, z_i k), (4, z_i e), (7, z_i i)]) rfl ?_
                  refine z_iinc hY eL_isStanding_117 7 rfl (ls' := [(7, z_i (i + 1)), (6, z_i a), (5, z_i b), (0, .ref (A 40)), (1, z_i (my ρ)), (2, z_i u), (3, z_i k), (4, z_i e)]) rfl ?_
                  refine z_goto hY eL_isStanding_120 ?_
                  refine z_sub [3, 4, 5, 6, 7, 0, 2, 1] (ls' := [(0, .ref (A 40)), (1, z_i (my ρ)), (2, z_i u), (3, z_i k), (4, z_i e), (7, z_i (i + 1)), (5, z_i b), (6, z_i a)]) rfl ?_
                  exact ih59 (i + 1) b a (by omega) (by omega) (by rw [z_smS (by omega), ← hb]; split <;> omega) (by rw [z_smS (by omega), ← ha]; split <;> omega) (by omega)
                · refine z_const hY eL_isStanding_109 ?_
                  refine z_goto hY eL_isStanding_110 ?_
                  refine z_iadd hY eL_isStanding_114 ?_
                  refine z_istore hY eL_isStanding_115 (ls' := [(6, z_i (a + 1)), (5, z_i b), (0, .ref (A 40)), (1, z_i (my ρ)), (2, z_i u), (3, z_i k), (4, z_i e), (7, z_i i)]) rfl ?_
                  refine z_iinc hY eL_isStanding_117 7 rfl (ls' := [(7, z_i (i + 1)), (6, z_i (a + 1)), (5, z_i b), (0, .ref (A 40)), (1, z_i (my ρ)), (2, z_i u), (3, z_i k), (4, z_i e)]) rfl ?_
                  refine z_goto hY eL_isStanding_120 ?_
                  refine z_sub [3, 4, 5, 6, 7, 0, 2, 1] (ls' := [(0, .ref (A 40)), (1, z_i (my ρ)), (2, z_i u), (3, z_i k), (4, z_i e), (7, z_i (i + 1)), (5, z_i b), (6, z_i (a + 1))]) rfl ?_
                  exact ih59 (i + 1) b (a + 1) (by omega) (by omega) (by rw [z_smS (by omega), ← hb]; split <;> omega) (by rw [z_smS (by omega), ← ha]; split <;> omega) (by omega)
              · refine z_const hY eL_isStanding_83 ?_
                refine z_goto hY eL_isStanding_84 ?_
                refine z_iadd hY eL_isStanding_88 ?_
                refine z_istore hY eL_isStanding_89 (ls' := [(5, z_i (b + 1)), (0, .ref (A 40)), (1, z_i (my ρ)), (2, z_i u), (3, z_i k), (4, z_i e), (7, z_i i), (6, z_i a)]) rfl ?_
                refine z_iload hY eL_isStanding_91 7 rfl ?_
                refine z_aload hY eL_isStanding_93 1 rfl ?_
                refine z_aload hY eL_isStanding_94 1 rfl ?_
                refine g_gf hY (gS_X hI1) eL_isStanding_95 (v := .ref (A 6)) rfl ?_
                refine z_iload hY eL_isStanding_98 6 rfl ?_
                refine g_ial hY (gS_X hI1) eL_isStanding_100 (j := 6) (N := 30) (x := ea ρ (i + 1)) (by decide) rfl (by omega) (hrow1 i (by omega) (by omega)).1 ?_
                refine z_iload hY eL_isStanding_101 5 rfl ?_
                refine z_callVr (As := [z_i (ea ρ (i + 1)), z_i e]) (rest := [z_i a]) (r := z_i (cp ρ (ea ρ (i + 1)) e)) hY eL_isStanding_103 (la_compares hG hI1 ho (e := (ea ρ (i + 1))) (f := e) (by omega) (by omega)) ((gH_at (gS_X hI1) (by decide)).trans (congrArg some lC_40)) (by decide) (Nat.le_of_ble_eq_true rfl) (by rw [hmc, hms]; omega) ?_
                have hv60 := cp_b ρ (ea ρ (i + 1)) e
                refine z_ifne hY eL_isStanding_106 (by omega) (fun c106 => ?_) (fun c106 => ?_)
                · refine z_const hY eL_isStanding_113 ?_
                  refine z_iadd hY eL_isStanding_114 ?_
                  refine z_top (b := a) (by omega) ?_
                  refine z_istore hY eL_isStanding_115 (ls' := [(6, z_i a), (5, z_i (b + 1)), (0, .ref (A 40)), (1, z_i (my ρ)), (2, z_i u), (3, z_i k), (4, z_i e), (7, z_i i)]) rfl ?_
                  refine z_iinc hY eL_isStanding_117 7 rfl (ls' := [(7, z_i (i + 1)), (6, z_i a), (5, z_i (b + 1)), (0, .ref (A 40)), (1, z_i (my ρ)), (2, z_i u), (3, z_i k), (4, z_i e)]) rfl ?_
                  refine z_goto hY eL_isStanding_120 ?_
                  refine z_sub [3, 4, 5, 6, 7, 0, 2, 1] (ls' := [(0, .ref (A 40)), (1, z_i (my ρ)), (2, z_i u), (3, z_i k), (4, z_i e), (7, z_i (i + 1)), (5, z_i (b + 1)), (6, z_i a)]) rfl ?_
                  exact ih59 (i + 1) (b + 1) a (by omega) (by omega) (by rw [z_smS (by omega), ← hb]; split <;> omega) (by rw [z_smS (by omega), ← ha]; split <;> omega) (by omega)
                · refine z_const hY eL_isStanding_109 ?_
                  refine z_goto hY eL_isStanding_110 ?_
                  refine z_iadd hY eL_isStanding_114 ?_
                  refine z_istore hY eL_isStanding_115 (ls' := [(6, z_i (a + 1)), (5, z_i (b + 1)), (0, .ref (A 40)), (1, z_i (my ρ)), (2, z_i u), (3, z_i k), (4, z_i e), (7, z_i i)]) rfl ?_
                  refine z_iinc hY eL_isStanding_117 7 rfl (ls' := [(7, z_i (i + 1)), (6, z_i (a + 1)), (5, z_i (b + 1)), (0, .ref (A 40)), (1, z_i (my ρ)), (2, z_i u), (3, z_i k), (4, z_i e)]) rfl ?_
                  refine z_goto hY eL_isStanding_120 ?_
                  refine z_sub [3, 4, 5, 6, 7, 0, 2, 1] (ls' := [(0, .ref (A 40)), (1, z_i (my ρ)), (2, z_i u), (3, z_i k), (4, z_i e), (7, z_i (i + 1)), (5, z_i (b + 1)), (6, z_i (a + 1))]) rfl ?_
                  exact ih59 (i + 1) (b + 1) (a + 1) (by omega) (by omega) (by rw [z_smS (by omega), ← hb]; split <;> omega) (by rw [z_smS (by omega), ← ha]; split <;> omega) (by omega)
        exact lp59 _ 0 0 0 (Nat.lt_succ_self _) (by omega) (z_sm0 (by omega)).symm (z_sm0 (by omega)).symm (by omega)
  refine z_widen (k' := (11 * (0 : Int).toNat)) (n' := (66 * (0 : Int).toNat)) (by omega) (by omega) ?_
  exact lp37 _ 0 0 (Nat.lt_succ_self _) (by omega) (z_sm0 (by omega)).symm (by omega)
end LV3
