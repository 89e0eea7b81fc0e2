/-! THE LAW's standings apart (laid by wip/p53/gen/gl81.py). -/
section LV8
section
variable {t : Nat} {m : Int} {o : Prop} {B : Nat → Int → Nat} {κ : c_K} {A : Nat → Nat} {ρ σ : z_S}
theorem w_pi (h : gS t m o B κ A ρ σ) {r : Int} (hr : 0 ≤ r ∧ r < σ 19 0 ∧ σ 19 0 - 20 ≤ r) {e : Int} (he : 0 ≤ e ∧ e < 30) : σ 13 (30 * r + e) = yPi ρ r e := by
  unfold yPi
  rw [if_neg (by omega)]
  exact ((gS_L h).2.2.2.2 e r he.1 he.2 hr.1 hr.2.1 hr.2.2).symm
theorem w_kp (h : gS t m o B κ A ρ σ) {r : Int} (hr : 0 ≤ r ∧ r < σ 19 0 ∧ σ 19 0 - 20 ≤ r) : kp ρ r := by
  have := gS_30 h
  unfold kp
  omega
theorem w_pi0 (h : gS t m o B κ A ρ σ) {r : Int} (hr : 0 ≤ r ∧ r < σ 19 0 ∧ σ 19 0 - 20 ≤ r) {e : Int} (he : σ 14 0 ≤ e ∧ e < 30) : yPi ρ r e = -1 := by
  have := gS_30 h
  have := gS_19 h
  unfold yPi
  rw [if_neg (by omega)]
  exact ((gS_R h).z (e := e) ⟨by omega, he.2⟩).2.2.2.1 (r % 20) (by omega) (by omega) (by omega)
theorem w_pin (h : gS t m o B κ A ρ σ) {e : Int} : (pr ρ e ∧ yPi ρ (-1) e = pl ρ e) ∨ (0 ≤ e → ¬ pr ρ e ∧ yPi ρ (-1) e = -1) := by
  unfold yPi
  rw [if_pos rfl]
  by_cases c : pr ρ e
  · exact Or.inl ⟨c, if_pos ⟨c.2.1, c.2.2⟩⟩
  · exact Or.inr fun h0 => ⟨c, if_neg fun q => c ⟨h0, q.1, q.2⟩⟩
theorem yAp_00 (ρ : z_S) : yAp ρ (-1) (-1) = 0 := z_sm_zero fun e _ _ => z_sm_zero fun f _ _ => if_neg fun q => q.2.2.2.2 Iff.rfl
theorem yAp_sw (ρ : z_S) (r s : Int) : yAp ρ s r = yAp ρ r s := z_sm_congr fun e _ _ => jn_ct fun f _ _ => ⟨fun q => ⟨q.2.2.1, q.2.2.2.1, q.1, q.2.1, fun z => q.2.2.2.2 z.symm⟩, fun q => ⟨q.2.2.1, q.2.2.2.1, q.1, q.2.1, fun z => q.2.2.2.2 z.symm⟩⟩
def aF (ρ : z_S) (r s e : Int) : Int := z_sm (fun f => if yAq ρ r s e f then (1 : Int) else 0) e
theorem aF_0 {ρ : z_S} {r s e : Int} (h : yPi ρ r e = -1 ∨ yPi ρ s e = -1) (n : Int) : z_sm (fun f => if yAq ρ r s e f then (1 : Int) else 0) n = 0 := z_sm_zero fun f _ _ => if_neg fun q => by
  rcases h with c | c
  · exact q.1 c
  · exact q.2.2.1 c
theorem aF_30 (h : gS t m o B κ A ρ σ) {r s : Int} (hr : 0 ≤ r ∧ r < σ 19 0 ∧ σ 19 0 - 20 ≤ r) : z_sm (aF ρ r s) 30 = yAp ρ r s := by
  have h14 := (gS_b h).s14 0
  have h19 := gS_19 h
  have := z_sm_flat (F := aF ρ r s) (a := ρ 19 0) (by omega) (30 - ρ 19 0) (by omega) (fun j j0 j1 => aF_0 (Or.inl (w_pi0 h hr ⟨by omega, by omega⟩)) _)
  rw [show ρ 19 0 + (30 - ρ 19 0) = 30 by omega] at this
  exact this
/-- the climb so far -/
def aC (ρ : z_S) (r e c a : Int) : Prop := (a = 0 ∧ c = 0 ∧ ∀ q, q < e → pr ρ q → yPi ρ r q = -1) ∨ (a = 1 ∧ (∃ q, pr ρ q ∧ q < e ∧ yPi ρ r q ≠ -1 ∧ c = yPi ρ r q - pl ρ q) ∧ ∀ q, q < e → pr ρ q → yPi ρ r q ≠ -1 → yPi ρ r q - pl ρ q ≤ c)
theorem aC_0 {ρ : z_S} {r : Int} : aC ρ r 0 0 0 := Or.inl ⟨rfl, rfl, fun q h p => by have := p.1; omega⟩
theorem aC_s {ρ : z_S} {r e c a : Int} (h : aC ρ r e c a) (hc : pr ρ e → yPi ρ r e = -1 ∨ (a = 1 ∧ yPi ρ r e - pl ρ e ≤ c)) : aC ρ r (e + 1) c a := by
  rcases h with ⟨h1, h2, h3⟩ | ⟨h1, ⟨q, q1, q2, q3, q4⟩, h3⟩
  · refine Or.inl ⟨h1, h2, fun q h p => ?_⟩
    by_cases k : q = e
    · rw [k] at p ⊢
      rcases hc p with z | z
      · exact z
      · omega
    · exact h3 q (by omega) p
  · refine Or.inr ⟨h1, ⟨q, q1, by omega, q3, q4⟩, fun q h p u => ?_⟩
    by_cases k : q = e
    · rw [k] at p u ⊢
      rcases hc p with z | z
      · exact absurd z u
      · exact z.2
    · exact h3 q (by omega) p u
theorem aC_n {ρ : z_S} {r e c a : Int} (h : aC ρ r e c a) (hp : pr ρ e) (hv : yPi ρ r e ≠ -1) (hc : a = 0 ∨ c < yPi ρ r e - pl ρ e) : aC ρ r (e + 1) (yPi ρ r e - pl ρ e) 1 := by
  refine Or.inr ⟨rfl, ⟨e, hp, by omega, hv, rfl⟩, fun q k p u => ?_⟩
  by_cases z : q = e
  · rw [z]; exact Int.le_refl _
  · rcases h with ⟨h1, h2, h3⟩ | ⟨h1, -, h3⟩
    · exact absurd (h3 q (by omega) p) u
    · have := h3 q (by omega) p u
      omega
theorem aC_a {ρ : z_S} {r e c a : Int} (h : aC ρ r e c a) : a = 0 ∨ a = 1 := by
  rcases h with h | h
  · exact Or.inl h.1
  · exact Or.inr h.1
theorem aC_e (h : gS t m o B κ A ρ σ) {r c a : Int} (hr : 0 ≤ r ∧ r < σ 19 0 ∧ σ 19 0 - 20 ≤ r) (hc : aC ρ r 30 c a) : cCb κ r = c := by
  have h14 := (gS_b h).s14 0
  have h19 := gS_19 h
  rw [(gS_R h).aClimb (gS_j h).B (gS_M h) (w_kp h hr)]
  have hb : ∀ q, pr ρ q → q < 30 := fun q p => by have := p.2.1; omega
  rcases yCl_s (r := r) (gS_j h).B (gS_M h) with ⟨k1, k2⟩ | ⟨k1, ⟨q, q1, q2, q3⟩, k4⟩
  · rw [if_pos k1]
    rcases hc with ⟨h1, h2, h3⟩ | ⟨h1, ⟨q, q1, q2, q3, q4⟩, h3⟩
    · exact h2.symm
    · exact absurd (k2 q q1) q3
  · rw [if_neg k1]
    rcases hc with ⟨h1, h2, h3⟩ | ⟨h1, ⟨z, z1, z2, z3, z4⟩, h3⟩
    · exact absurd (h3 q (hb q q1) q1) q2
    · have a1 := h3 q (hb q q1) q1 q2
      have a2 := k4 z z1 z3
      omega
theorem yPi_r (h : gS t m o B κ A ρ σ) {r e : Int} (he : 0 ≤ e ∧ e < 30) (hr : r = -1 ∨ (0 ≤ r ∧ r < σ 19 0 ∧ σ 19 0 - 20 ≤ r)) : -1 ≤ yPi ρ r e ∧ yPi ρ r e ≤ 30 := by
  rcases hr with rfl | hr
  · rcases w_pin h (e := e) with w | w
    · have h8 := (gS_R h).xpl (gS_M h) w.1
      have h7 := (gS_R h).xn1 (gS_M h)
      have := w_my (gS_j h)
      rw [w.2]
      omega
    · rw [(w he.1).2]; omega
  · rw [← w_pi h hr he]
    exact (gS_b h).s13 _
end
theorem la_placeThen {G : z_G} {D : Nat} {B : Nat → Int → Nat} {κ : c_K} {A : Nat → Nat} {ρ σ : z_S} {h : z_H} {t : Nat} {m : Int} {o : Prop} (hG : z_OK G) (hI : gS t m o B κ A ρ σ) (hrow : wRow ρ (σ 6)) {r e : Int} (he : 0 ≤ e ∧ e < 30) (hr : r = -1 ∨ (0 ≤ r ∧ r < σ 19 0 ∧ σ 19 0 - 20 ≤ r)) : z_Tr G mL_placeThen [.ref (A 40), z_i r, z_i e] (gH D B κ A σ h) 2 (z_i (yPi ρ r e)) := by
  refine z_T_of hG pL_placeThen (Nat.le_of_ble_eq_true rfl) (ls0 := [(0, .ref (A 40)), (1, z_i r), (2, z_i e)]) rfl fun Y hY hg hmc hms hφ hψ => ?_
  subst hg
  have hb19 := (gS_b hI).s19 0
  have hmy := w_my (gS_j hI)
  have hn1 := (gS_R hI).xn1 (gS_M hI)
  have h14 := (gS_b hI).s14 0
  have h19 := gS_19 hI
  refine z_iload hY eL_placeThen_0 1 rfl ?_
  refine z_const hY eL_placeThen_1 ?_
  refine z_icmpeq hY eL_placeThen_2 (by omega) (fun c2 => ?_) (fun c2 => ?_)
  · refine z_const hY eL_placeThen_17 ?_
    refine z_istore hY eL_placeThen_18 (ls' := [(3, z_i 0), (0, .ref (A 40)), (1, z_i r), (2, z_i e)]) rfl ?_
    refine z_sub [1, 2, 3, 0] (ls' := [(0, .ref (A 40)), (1, z_i r), (2, z_i e), (3, z_i 0)]) rfl ?_
    have lp19 : ∀ (fu : Nat) (k : Int), (my ρ - k).toNat < fu → (0 ≤ k ∧ k ≤ my ρ) → (∀ j, 0 ≤ j → j < k → ea ρ (j + 1) ≠ e) → z_W Y 19 [(0, .ref (A 40)), (1, z_i r), (2, z_i e), (3, z_i k)] [] (gH D B κ A σ h) 0 0 := by
      intro fu
      induction fu with
      | zero => intro k hf; exact absurd hf (Nat.not_lt_zero _)
      | succ fu ih19 =>
        intro k hf hk hne
        refine z_iload hY eL_placeThen_19 3 rfl ?_
        refine z_aload hY eL_placeThen_20 0 rfl ?_
        refine g_gf hY (gS_X hI) eL_placeThen_21 (v := .ref (B 0 0)) rfl ?_
        refine z_callV (As := []) (rest := [z_i k]) hY eL_placeThen_24 (q_entrants (D := D) (h := lH A (B 0 0) σ h) hG (gS_J hI) (gS_B hI) (gS_V hI) (gS_S hI) ) (cH_at (t := 0) (i := 0) (gS_J hI) (by omega)) (by decide) (Nat.le_of_ble_eq_true rfl) ⟨Nat.zero_le _, Nat.zero_le _⟩ (fun _ _ q => q.elim) (fun vv2 hh2 q2 => ?_)
        obtain ⟨rfl, rfl⟩ := q2
        refine z_heq (show _ = gH D B κ A σ h from rfl) ?_
        refine z_icmpge hY eL_placeThen_27 (by omega) (fun c27 => ?_) (fun c27 => ?_)
        · refine z_const hY eL_placeThen_50 ?_
          exact z_ireturn hY eL_placeThen_51 rfl (by rw [hφ]; have hyv : yPi ρ (-1) e = -1 := (by rcases w_pin hI (e := e) with w9 | w9; (exfalso; have h8 := (gS_R hI).xpl (gS_M hI) w9.1; have h9 := hne (pl ρ e - 1) (by omega) (by omega); have h7 := (gS_R hI).xea (gS_M hI) (p := pl ρ e) (by omega); rw [show pl ρ e - 1 + 1 = pl ρ e by omega, h7] at h9; exact h9 h8.2.2.2); (exact (w9 he.1).2)); exact ⟨congrArg (fun q => some (z_i q)) (by rw [show r = -1 by omega, hyv]), rfl⟩) ⟨Nat.zero_le _, Nat.zero_le _⟩
        · have hpk := pr_b (w_ea (gS_j hI) (k := k) (by omega)).2.1
          refine z_aload hY eL_placeThen_30 0 rfl ?_
          refine g_gf hY (gS_X hI) eL_placeThen_31 (v := .ref (A 6)) rfl ?_
          refine z_iload hY eL_placeThen_34 3 rfl ?_
          refine g_ial hY (gS_X hI) eL_placeThen_35 (j := 6) (N := 30) (x := ea ρ (k + 1)) (by decide) rfl (by omega) (hrow k (by omega) (by omega)).1 ?_
          refine z_iload hY eL_placeThen_36 2 rfl ?_
          refine z_icmpne hY eL_placeThen_37 (by omega) (fun c37 => ?_) (fun c37 => ?_)
          · refine z_iinc hY eL_placeThen_44 3 rfl (ls' := [(3, z_i (k + 1)), (0, .ref (A 40)), (1, z_i r), (2, z_i e)]) rfl ?_
            refine z_goto hY eL_placeThen_47 ?_
            refine z_sub [1, 2, 3, 0] (ls' := [(0, .ref (A 40)), (1, z_i r), (2, z_i e), (3, z_i (k + 1))]) rfl ?_
            exact ih19 (k + 1) (by omega) (by omega) (fun j j0 j1 => by by_cases c9 : j = k; (rw [c9]; exact c37); (exact hne j j0 (by omega)))
          · refine z_iload hY eL_placeThen_40 3 rfl ?_
            refine z_const hY eL_placeThen_41 ?_
            refine z_iadd hY eL_placeThen_42 ?_
            exact z_ireturn hY eL_placeThen_43 rfl (by rw [hφ]; have hw := w_ea (gS_j hI) (k := k) (by omega); rw [show ea ρ (k + 1) = e by omega] at hw; have hw2 := hw.2.2; have hyv : yPi ρ (-1) e = k + 1 := (by rcases w_pin hI (e := e) with w9 | w9; (rw [w9.2]; omega); (exact absurd hw.2.1 (w9 he.1).1)); exact ⟨congrArg (fun q => some (z_i q)) (by rw [show r = -1 by omega, hyv]), rfl⟩) ⟨Nat.zero_le _, Nat.zero_le _⟩
    exact lp19 _ 0 (Nat.lt_succ_self _) (by omega) (fun j _ _ => by omega)
  · refine z_aload hY eL_placeThen_5 0 rfl ?_
    refine g_gf hY (gS_X hI) eL_placeThen_6 (v := .ref (A 13)) rfl ?_
    refine z_const hY eL_placeThen_9 ?_
    refine z_iload hY eL_placeThen_11 1 rfl ?_
    refine z_imul hY eL_placeThen_12 ?_
    refine z_iload hY eL_placeThen_13 2 rfl ?_
    refine z_iadd hY eL_placeThen_14 ?_
    refine g_ial hY (gS_X hI) eL_placeThen_15 (j := 13) (N := 1200) (x := yPi ρ r e) (by decide) rfl (by omega) (w_pi hI (by omega) he) ?_
    exact z_ireturn hY eL_placeThen_16 rfl (by rw [hφ]; exact ⟨rfl, rfl⟩) ⟨Nat.zero_le _, Nat.zero_le _⟩
theorem la_areApart {G : z_G} {D : Nat} {B : Nat → Int → Nat} {κ : c_K} {A : Nat → Nat} {ρ σ : z_S} {h : z_H} {t : Nat} {m : Int} {o : Prop} (hG : z_OK G) (hD : D = z_dc G) (hM : z_MI G) (hI : gS t m o B κ A ρ σ) (ho : o) : z_T G mL_areApart [.ref (A 40)] (gH D B κ A σ h) 10 80 480 (fun v h' => ∃ (κ' : c_K) (B' : Nat → Int → Nat) (ρ' σ' : z_S) (h2 : z_H), v = some (z_i 1) ∧ gS (t) (m) o B' κ' A ρ' σ' ∧ σ' 14 0 = σ 14 0 ∧ h' = gH D B' κ' A σ' h2) (z_no) := by
  refine z_T_of hG pL_areApart (Nat.le_of_ble_eq_true rfl) (ls0 := [(0, .ref (A 40))]) rfl fun Y hY hg hmc hms hφ hψ => ?_
  subst hg
  have hb19 := (gS_b hI).s19 0
  refine z_aload hY eL_areApart_0 0 rfl ?_
  have hb1 := (gS_b hI).s19 0
  refine g_gf hY (gS_X hI) eL_areApart_1 (v := z_i (σ 19 0)) rfl ?_
  refine z_ifne hY eL_areApart_4 (by omega) (fun c4 => ?_) (fun c4 => ?_)
  · refine z_const hY eL_areApart_25 ?_
    refine z_aload hY eL_areApart_26 0 rfl ?_
    refine g_gf hY (gS_X hI) eL_areApart_27 (v := z_i (σ 19 0)) rfl ?_
    refine z_const hY eL_areApart_30 ?_
    refine z_isub hY eL_areApart_31 ?_
    refine z_aload hY eL_areApart_32 0 rfl ?_
    refine z_const hY eL_areApart_33 ?_
    refine z_callV (As := [z_i 20]) (rest := [z_i ((σ 19 0) - 1), z_i 0]) hY eL_areApart_35 (la_next (B := B) (κ := κ) (σ := σ) hG (gS_X hI) (n := 20) (by omega)) ((gH_at (gS_X hI) (by decide)).trans (congrArg some lC_40)) (by decide) (Nat.le_of_ble_eq_true rfl) ⟨Nat.zero_le _, Nat.zero_le _⟩ (fun _ _ q => q.elim) (fun vv3 hh3 q3 => ?_)
    obtain ⟨r2, X2, rfl, hr2, hX2, rfl⟩ := q3
    refine z_isub hY eL_areApart_38 ?_
    refine z_top (b := (σ 19 0) - r2 - 1) (by omega) ?_
    refine z_callSr (As := [z_i 0, z_i ((σ 19 0) - r2 - 1)]) (rest := []) (r := z_i (if 0 < ((σ 19 0) - r2 - 1) then ((σ 19 0) - r2 - 1) else 0)) hY eL_areApart_39 (ma_max hG (by omega)) (by decide) (Nat.le_of_ble_eq_true rfl) ⟨Nat.zero_le _, Nat.zero_le _⟩ ?_
    obtain ⟨M4, hM4⟩ : ∃ M : Int, M = if 0 < ((σ 19 0) - r2 - 1) then ((σ 19 0) - r2 - 1) else 0 := ⟨_, rfl⟩
    refine z_top (b := M4) hM4.symm ?_
    have hMs4 : (0 < ((σ 19 0) - r2 - 1) ∧ M4 = ((σ 19 0) - r2 - 1)) ∨ (((σ 19 0) - r2 - 1) ≤ 0 ∧ M4 = 0) := by rw [hM4]; split <;> omega
    obtain ⟨r, hnmr⟩ : ∃ q : Int, q = M4 := ⟨_, rfl⟩
    refine z_top (b := r) hnmr.symm ?_
    refine z_istore hY eL_areApart_42 (ls' := [(1, z_i r), (0, .ref (A 40))]) rfl ?_
    refine z_aload hY eL_areApart_43 1 rfl ?_
    refine z_const hY eL_areApart_44 ?_
    refine z_callV (As := [z_i 3]) (rest := []) hY eL_areApart_45 (la_next (B := B) (κ := κ) (σ := (z_u σ 0 0 X2)) hG (gS_X hI) (n := 3) (by omega)) ((gH_at (gS_X hI) (by decide)).trans (congrArg some lC_40)) (by decide) (Nat.le_of_ble_eq_true rfl) ⟨Nat.zero_le _, Nat.zero_le _⟩ (fun _ _ q => q.elim) (fun vv6 hh6 q6 => ?_)
    obtain ⟨r5, X5, rfl, hr5, hX5, rfl⟩ := q6
    refine z_ifne hY eL_areApart_48 (by omega) (fun c48 => ?_) (fun c48 => ?_)
    · refine z_const hY eL_areApart_71 ?_
      obtain ⟨q, hnmq⟩ : ∃ q : Int, q = (-1) := ⟨_, rfl⟩
      refine z_top (b := q) hnmq.symm ?_
      refine z_istore hY eL_areApart_72 (ls' := [(2, z_i q), (1, z_i r), (0, .ref (A 40))]) rfl ?_
      refine z_aload hY eL_areApart_73 2 rfl ?_
      refine z_callV (As := []) (rest := []) hY eL_areApart_74 (la_sorts hG (gS_E hI (wE_u (wE_u wE_r (by decide)) (by decide)) (wB_u (wB_u (gS_b hI) (by show (-2147483648 : Int) ≤ _ ∧ _ ≤ (2147483647 : Int); omega)) (by show (-2147483648 : Int) ≤ _ ∧ _ ≤ (2147483647 : Int); omega))) ho) ((gH_at (gS_X hI) (by decide)).trans (congrArg some lC_40)) (by decide) (Nat.le_of_ble_eq_true rfl) ⟨Nat.zero_le _, Nat.zero_le _⟩ (fun _ _ q => q.elim) (fun vv8 hh8 q8 => ?_)
      obtain ⟨σ7, rfl, ⟨hE7, hw7, hrow7⟩, rfl⟩ := q8
      have hI7 := gS_E (gS_E hI (wE_u (wE_u wE_r (by decide)) (by decide)) (wB_u (wB_u (gS_b hI) (by show (-2147483648 : Int) ≤ _ ∧ _ ≤ (2147483647 : Int); omega)) (by show (-2147483648 : Int) ≤ _ ∧ _ ≤ (2147483647 : Int); omega))) hE7 hw7
      have hmy := w_my (gS_j hI)
      refine z_istore hY eL_areApart_77 (ls' := [(3, z_i (my ρ)), (2, z_i q), (1, z_i r), (0, .ref (A 40))]) rfl ?_
      have hkk : 0 ≤ r ∧ r < σ7 19 0 ∧ σ7 19 0 - 20 ≤ r := by rw [hE7 19 (by decide) (by decide) (by decide)]; show 0 ≤ r ∧ r < σ 19 0 ∧ σ 19 0 - 20 ≤ r; omega
      have hkq : q = -1 ∨ (0 ≤ q ∧ q < σ7 19 0 ∧ σ7 19 0 - 20 ≤ q) := by rw [hE7 19 (by decide) (by decide) (by decide)]; show q = -1 ∨ (0 ≤ q ∧ q < σ 19 0 ∧ σ 19 0 - 20 ≤ q); omega
      have hkO : r = -1 ∨ kp ρ r := Or.inr (w_kp hI7 hkk)
      have hkP : q = -1 ∨ kp ρ q := hkq.imp id (w_kp hI7)
      have h14 := (gS_b hI7).s14 0
      have h19 := gS_19 hI7
      refine z_const hY eL_areApart_78 ?_
      refine z_istore hY eL_areApart_79 (ls' := [(4, z_i 0), (3, z_i (my ρ)), (2, z_i q), (1, z_i r), (0, .ref (A 40))]) rfl ?_
      refine z_const hY eL_areApart_81 ?_
      refine z_istore hY eL_areApart_82 (ls' := [(5, z_i 0), (4, z_i 0), (3, z_i (my ρ)), (2, z_i q), (1, z_i r), (0, .ref (A 40))]) rfl ?_
      refine z_const hY eL_areApart_84 ?_
      refine z_istore hY eL_areApart_85 (ls' := [(6, z_i 0), (5, z_i 0), (4, z_i 0), (3, z_i (my ρ)), (2, z_i q), (1, z_i r), (0, .ref (A 40))]) rfl ?_
      refine z_const hY eL_areApart_87 ?_
      refine z_istore hY eL_areApart_88 (ls' := [(7, z_i 0), (6, z_i 0), (5, z_i 0), (4, z_i 0), (3, z_i (my ρ)), (2, z_i q), (1, z_i r), (0, .ref (A 40))]) rfl ?_
      refine z_sub [7, 6, 5, 4, 0, 3, 2, 1] (ls' := [(0, .ref (A 40)), (1, z_i r), (2, z_i q), (3, z_i (my ρ)), (7, z_i 0), (4, z_i 0), (5, z_i 0), (6, z_i 0)]) rfl ?_
      have lp90 : ∀ (fu : Nat) (e : Int) (p : Int) (c : Int) (a : Int), (30 - e).toNat < fu → (0 ≤ e ∧ e ≤ 30) → (p = z_sm (aF ρ r q) e) → (aC ρ r e c a) → (0 ≤ p ∧ p ≤ 30 * e) → (-40 ≤ c ∧ c ≤ 40) → z_W Y 90 [(0, .ref (A 40)), (1, z_i r), (2, z_i q), (3, z_i (my ρ)), (7, z_i e), (4, z_i p), (5, z_i c), (6, z_i a)] [] (gH D B κ A σ7 h) (2 * e.toNat) (12 * e.toNat) := by
        intro fu
        induction fu with
        | zero => intro e p c a hf; exact absurd hf (Nat.not_lt_zero _)
        | succ fu ih90 =>
          intro e p c a hf he hp hcl hpb hcb
          refine z_iload hY eL_areApart_90 4 rfl ?_
          refine z_const hY eL_areApart_92 ?_
          refine z_icmpge hY eL_areApart_94 (by omega) (fun c94 => ?_) (fun c94 => ?_)
          · have hpa : p = yAp ρ r q := by rw [hp, show e = 30 by omega]; exact aF_30 hI7 hkk
            have hps := yAp_sw ρ r q
            refine z_iload hY eL_areApart_340 3 rfl ?_
            refine z_iflt hY eL_areApart_341 (by omega) (fun c341 => by exfalso; omega) (fun c341 => ?_)
            refine z_aload hY eL_areApart_344 0 rfl ?_
            refine g_gf hY (gS_X hI7) eL_areApart_345 (v := .ref (B 0 0)) rfl ?_
            refine z_iload hY eL_areApart_348 1 rfl ?_
            refine z_iload hY eL_areApart_349 2 rfl ?_
            have hk1 := (gS_R hI7).a.2.1.trans (gS_30 hI7)
            refine z_callV (As := [z_i r, z_i q]) (rest := []) hY eL_areApart_350 (q_inversions (D := D) (h := lH A (B 0 0) σ7 h) hG (gS_J hI7) (gS_B hI7) (gS_V hI7) (gS_S hI7) (by omega) (by omega)) (cH_at (t := 0) (i := 0) (gS_J hI7) (by omega)) (by decide) (Nat.le_of_ble_eq_true rfl) (by rw [hmc, hms]; omega) (fun E9 h9 q => by obtain ⟨-, q⟩ := q; exfalso; omega) (fun vv10 hh10 q10 => ?_)
            obtain ⟨-, rfl, R9, hR9, rfl⟩ := q10
            have hI9 := gS_r3 hI7 hR9
            refine z_heq (show _ = gH D B (k_r κ 3 0 R9) A σ7 h from rfl) ?_
            refine z_top (b := yAp ρ r q) ((gS_R hI7).aInv (gS_M hI7) (by first | exact Or.inl rfl | exact hkO | exact hkP) (by first | exact Or.inl rfl | exact hkO | exact hkP)).2 ?_
            refine z_iload hY eL_areApart_353 5 rfl ?_
            refine z_icmpne hY eL_areApart_355 (by omega) (fun c355 => by exfalso; omega) (fun c355 => ?_)
            refine z_aload hY eL_areApart_358 0 rfl ?_
            refine g_gf hY (gS_X hI9) eL_areApart_359 (v := .ref (B 0 0)) rfl ?_
            refine z_iload hY eL_areApart_362 2 rfl ?_
            refine z_iload hY eL_areApart_363 1 rfl ?_
            have hk1 := (gS_R hI9).a.2.1.trans (gS_30 hI9)
            refine z_callV (As := [z_i q, z_i r]) (rest := []) hY eL_areApart_364 (q_inversions (D := D) (h := lH A (B 0 0) σ7 h) hG (gS_J hI9) (gS_B hI9) (gS_V hI9) (gS_S hI9) (by omega) (by omega)) (cH_at (t := 0) (i := 0) (gS_J hI9) (by omega)) (by decide) (Nat.le_of_ble_eq_true rfl) (by rw [hmc, hms]; omega) (fun E9 h9 q => by obtain ⟨-, q⟩ := q; exfalso; omega) (fun vv12 hh12 q12 => ?_)
            obtain ⟨-, rfl, R11, hR11, rfl⟩ := q12
            have hI11 := gS_r3 hI9 hR11
            refine z_heq (show _ = gH D B (k_r (k_r κ 3 0 R9) 3 0 R11) A σ7 h from rfl) ?_
            refine z_top (b := yAp ρ q r) ((gS_R hI9).aInv (gS_M hI9) (by first | exact Or.inl rfl | exact hkO | exact hkP) (by first | exact Or.inl rfl | exact hkO | exact hkP)).2 ?_
            refine z_iload hY eL_areApart_367 5 rfl ?_
            refine z_icmpne hY eL_areApart_369 (by omega) (fun c369 => by exfalso; omega) (fun c369 => ?_)
            refine z_aload hY eL_areApart_372 0 rfl ?_
            refine g_gf hY (gS_X hI11) eL_areApart_373 (v := .ref (B 0 0)) rfl ?_
            refine z_iload hY eL_areApart_376 1 rfl ?_
            refine z_iload hY eL_areApart_377 2 rfl ?_
            have hk1 := (gS_R hI11).a.2.1.trans (gS_30 hI11)
            refine z_callV (As := [z_i r, z_i q]) (rest := []) hY eL_areApart_378 (q_swaps (D := D) (h := lH A (B 0 0) σ7 h) hG (gS_J hI11) (gS_B hI11) (gS_V hI11) (gS_S hI11) (by omega) (by omega)) (cH_at (t := 0) (i := 0) (gS_J hI11) (by omega)) (by decide) (Nat.le_of_ble_eq_true rfl) (by rw [hmc, hms]; omega) (fun E9 h9 q => by obtain ⟨-, q⟩ := q; exfalso; omega) (fun vv14 hh14 q14 => ?_)
            obtain ⟨-, rfl, R13, hR13, rfl⟩ := q14
            have hI13 := gS_r3 hI11 hR13
            refine z_heq (show _ = gH D B (k_r (k_r (k_r κ 3 0 R9) 3 0 R11) 3 0 R13) A σ7 h from rfl) ?_
            refine z_top (b := yAp ρ r q) ((gS_R hI11).aSwaps (gS_M hI11) hkO hkP) ?_
            refine z_iload hY eL_areApart_381 5 rfl ?_
            refine z_icmpne hY eL_areApart_383 (by omega) (fun c383 => by exfalso; omega) (fun c383 => ?_)
            refine z_aload hY eL_areApart_386 0 rfl ?_
            refine g_gf hY (gS_X hI13) eL_areApart_387 (v := .ref (B 0 0)) rfl ?_
            refine z_iload hY eL_areApart_390 1 rfl ?_
            have hk1 := (gS_R hI13).a.2.1.trans (gS_30 hI13)
            refine z_callV (As := [z_i r]) (rest := []) hY eL_areApart_391 (q_climb (D := D) (h := lH A (B 0 0) σ7 h) hG (gS_J hI13) (gS_B hI13) (gS_V hI13) (gS_S hI13) (by omega)) (cH_at (t := 0) (i := 0) (gS_J hI13) (by omega)) (by decide) (Nat.le_of_ble_eq_true rfl) (by rw [hmc, hms]; omega) (fun E9 h9 q => by obtain ⟨-, q⟩ := q; exfalso; omega) (fun vv16 hh16 q16 => ?_)
            obtain ⟨-, rfl, rfl⟩ := q16
            refine z_heq (show _ = gH D B (k_r (k_r (k_r κ 3 0 R9) 3 0 R11) 3 0 R13) A σ7 h from rfl) ?_
            refine z_top (b := c) (aC_e hI13 hkk (show aC ρ r 30 c a from (show e = 30 by omega) ▸ hcl)) ?_
            refine z_iload hY eL_areApart_394 6 rfl ?_
            refine z_icmpne hY eL_areApart_396 (by omega) (fun c396 => by exfalso; omega) (fun c396 => ?_)
            refine z_const hY eL_areApart_399 ?_
            refine z_goto hY eL_areApart_400 ?_
            exact z_zreturn hY eL_areApart_404 rfl (by omega) (by rw [hφ]; exact ⟨k_r (k_r (k_r κ 3 0 R9) 3 0 R11) 3 0 R13, B, ρ, σ7, h, rfl, hI13, by rw [hE7 14 (by decide) (by decide) (by decide)]; rfl, rfl⟩) (by rw [hmc, hms]; omega)
          · have hye := yPi_r hI7 (r := r) (e := e) (by omega) (Or.inr hkk)
            have hyq := w_pin hI7 (e := e)
            have hca := aC_a hcl
            refine z_aload hY eL_areApart_97 0 rfl ?_
            refine g_gf hY (gS_X hI7) eL_areApart_98 (v := .ref (B 0 0)) rfl ?_
            refine z_iload hY eL_areApart_101 1 rfl ?_
            refine z_iload hY eL_areApart_102 4 rfl ?_
            have hk1 := (gS_R hI7).a.2.1.trans (gS_30 hI7)
            refine z_callV (As := [z_i r, z_i e]) (rest := []) hY eL_areApart_104 (q_placeThen (D := D) (h := lH A (B 0 0) σ7 h) hG (gS_J hI7) (gS_B hI7) (gS_V hI7) (gS_S hI7) (by omega) (by omega)) (cH_at (t := 0) (i := 0) (gS_J hI7) (by omega)) (by decide) (Nat.le_of_ble_eq_true rfl) (by rw [hmc, hms]; omega) (fun E9 h9 q => by obtain ⟨-, q⟩ := q; exfalso; omega) (fun vv18 hh18 q18 => ?_)
            obtain ⟨-, rfl, rfl⟩ := q18
            refine z_heq (show _ = gH D B κ A σ7 h from rfl) ?_
            refine z_top (b := yPi ρ r e) ((gS_R hI7).aPlaceThen (w_kp hI7 hkk) (by omega)) ?_
            refine z_aload hY eL_areApart_107 0 rfl ?_
            refine g_gf hY (gS_X hI7) eL_areApart_108 (v := .ref (A 13)) rfl ?_
            refine z_const hY eL_areApart_111 ?_
            refine z_iload hY eL_areApart_113 1 rfl ?_
            refine z_imul hY eL_areApart_114 ?_
            refine z_iload hY eL_areApart_115 4 rfl ?_
            refine z_iadd hY eL_areApart_117 ?_
            refine g_ial hY (gS_X hI7) eL_areApart_118 (j := 13) (N := 1200) (x := yPi ρ r e) (by decide) rfl (by omega) (w_pi hI7 hkk (by omega)) ?_
            refine z_icmpeq hY eL_areApart_119 (by omega) (fun c119 => ?_) (fun c119 => by exfalso; omega)
            refine z_aload hY eL_areApart_124 0 rfl ?_
            refine z_iload hY eL_areApart_125 2 rfl ?_
            refine z_iload hY eL_areApart_126 4 rfl ?_
            refine z_callVr (As := [z_i q, z_i e]) (rest := []) (r := z_i (yPi ρ q e)) hY eL_areApart_128 (la_placeThen hG hI7 hrow7 (r := q) (e := e) (by omega) (by omega)) ((gH_at (gS_X hI7) (by decide)).trans (congrArg some lC_40)) (by decide) (Nat.le_of_ble_eq_true rfl) (by rw [hmc, hms]; omega) ?_
            have hyb19 := yPi_r hI7 (r := q) (e := e) (by omega) (by first | exact Or.inl rfl | exact hkq | exact Or.inr hkk)
            refine z_istore hY eL_areApart_131 (ls' := [(8, z_i (yPi ρ q e)), (0, .ref (A 40)), (1, z_i r), (2, z_i q), (3, z_i (my ρ)), (7, z_i e), (4, z_i p), (5, z_i c), (6, z_i a)]) rfl ?_
            refine z_aload hY eL_areApart_133 1 rfl ?_
            refine g_gf hY (gS_X hI7) eL_areApart_134 (v := .ref (A 13)) rfl ?_
            refine z_const hY eL_areApart_137 ?_
            refine z_iload hY eL_areApart_139 2 rfl ?_
            refine z_imul hY eL_areApart_140 ?_
            refine z_iload hY eL_areApart_141 5 rfl ?_
            refine z_iadd hY eL_areApart_143 ?_
            refine g_ial hY (gS_X hI7) eL_areApart_144 (j := 13) (N := 1200) (x := yPi ρ r e) (by decide) rfl (by omega) (w_pi hI7 hkk (by omega)) ?_
            refine z_const hY eL_areApart_145 ?_
            refine z_icmpne hY eL_areApart_146 (by omega) (fun c146 => ?_) (fun c146 => ?_)
            · refine z_aload hY eL_areApart_152 1 rfl ?_
              refine z_const hY eL_areApart_153 ?_
              refine z_iload hY eL_areApart_154 5 rfl ?_
              refine z_callVr (As := [z_i (-1), z_i e]) (rest := []) (r := z_i (yPi ρ (-1) e)) hY eL_areApart_156 (la_placeThen hG hI7 hrow7 (r := (-1)) (e := e) (by omega) (by omega)) ((gH_at (gS_X hI7) (by decide)).trans (congrArg some lC_40)) (by decide) (Nat.le_of_ble_eq_true rfl) (by rw [hmc, hms]; omega) ?_
              have hyb20 := yPi_r hI7 (r := (-1)) (e := e) (by omega) (by first | exact Or.inl rfl | exact hkq | exact Or.inr hkk)
              refine z_istore hY eL_areApart_159 (ls' := [(9, z_i (yPi ρ (-1) e)), (8, z_i (yPi ρ q e)), (0, .ref (A 40)), (1, z_i r), (2, z_i q), (3, z_i (my ρ)), (7, z_i e), (4, z_i p), (5, z_i c), (6, z_i a)]) rfl ?_
              refine z_iload hY eL_areApart_161 0 rfl ?_
              refine z_const hY eL_areApart_163 ?_
              refine z_icmpeq hY eL_areApart_164 (by omega) (fun c164 => ?_) (fun c164 => ?_)
              · refine z_const hY eL_areApart_212 ?_
                refine z_istore hY eL_areApart_213 (ls' := [(10, z_i 0), (9, z_i (yPi ρ (-1) e)), (8, z_i (yPi ρ q e)), (0, .ref (A 40)), (1, z_i r), (2, z_i q), (3, z_i (my ρ)), (7, z_i e), (4, z_i p), (5, z_i c), (6, z_i a)]) rfl ?_
                have hcl2 : aC ρ r (e + 1) c a := aC_s hcl (fun z => by rcases hyq with w9 | w9; (have w8 := (gS_R hI7).xpl (gS_M hI7) w9.1; first | exact Or.inr ⟨by omega, by omega⟩ | (exfalso; omega)); (exact absurd z (w9 (by omega)).1))
                have hcb2 : -40 ≤ c ∧ c ≤ 40 := by omega
                refine z_sub [3, 4, 5, 6, 7, 2, 1, 9, 10, 0, 8] (ls' := [(0, .ref (A 40)), (1, z_i r), (2, z_i q), (3, z_i (my ρ)), (7, z_i e), (8, z_i (yPi ρ q e)), (9, z_i (yPi ρ (-1) e)), (5, z_i c), (6, z_i a), (10, z_i 0), (4, z_i p)]) rfl ?_
                have lp215 : ∀ (fu : Nat) (f : Int) (p2 : Int), (e - f).toNat < fu → (0 ≤ f ∧ f ≤ e) → (p2 = p + z_sm (fun f => if yAq ρ r q e f then (1 : Int) else 0) f) → (p ≤ p2 ∧ p2 ≤ p + f) → z_W Y 215 [(0, .ref (A 40)), (1, z_i r), (2, z_i q), (3, z_i (my ρ)), (7, z_i e), (8, z_i (yPi ρ q e)), (9, z_i (yPi ρ (-1) e)), (5, z_i c), (6, z_i a), (10, z_i f), (4, z_i p2)] [] (gH D B κ A σ7 h) (2 * e.toNat + 2) (12 * e.toNat + 12) := by
                  intro fu
                  induction fu with
                  | zero => intro f p2 hf; exact absurd hf (Nat.not_lt_zero _)
                  | succ fu ih215 =>
                    intro f p2 hf hf hp2 hpb2
                    refine z_iload hY eL_areApart_215 9 rfl ?_
                    refine z_iload hY eL_areApart_217 4 rfl ?_
                    refine z_icmpge hY eL_areApart_219 (by omega) (fun c219 => ?_) (fun c219 => ?_)
                    · refine z_iinc hY eL_areApart_334 4 rfl (ls' := [(7, z_i (e + 1)), (0, .ref (A 40)), (1, z_i r), (2, z_i q), (3, z_i (my ρ)), (8, z_i (yPi ρ q e)), (9, z_i (yPi ρ (-1) e)), (5, z_i c), (6, z_i a), (10, z_i f), (4, z_i p2)]) rfl ?_
                      refine z_goto hY eL_areApart_337 ?_
                      refine z_sub [1, 2, 3, 4, 0, 10, 7, 8] (ls' := [(0, .ref (A 40)), (1, z_i r), (2, z_i q), (3, z_i (my ρ)), (7, z_i (e + 1)), (4, z_i p2), (5, z_i c), (6, z_i a)]) rfl ?_
                      refine z_widen (k' := (2 * (e + 1).toNat)) (n' := (12 * (e + 1).toNat)) (by omega) (by omega) ?_
                      exact ih90 (e + 1) p2 c a (by omega) (by omega) (by rw [z_smS (by omega), ← hp]; unfold aF; first | (rw [show e = f by omega]; rw [show e = f by omega] at hp2; omega) | (rw [aF_0 (Or.inr (by omega))]; rw [aF_0 (Or.inr (by omega))] at hp2; omega)) hcl2 (by omega) (by omega)
                    · refine z_iload hY eL_areApart_222 5 rfl ?_
                      refine z_const hY eL_areApart_224 ?_
                      refine z_icmpeq hY eL_areApart_225 (by omega) (fun c225 => ?_) (fun c225 => ?_)
                      · refine z_iinc hY eL_areApart_334 4 rfl (ls' := [(7, z_i (e + 1)), (0, .ref (A 40)), (1, z_i r), (2, z_i q), (3, z_i (my ρ)), (8, z_i (yPi ρ q e)), (9, z_i (yPi ρ (-1) e)), (5, z_i c), (6, z_i a), (10, z_i f), (4, z_i p2)]) rfl ?_
                        refine z_goto hY eL_areApart_337 ?_
                        refine z_sub [1, 2, 3, 4, 0, 10, 7, 8] (ls' := [(0, .ref (A 40)), (1, z_i r), (2, z_i q), (3, z_i (my ρ)), (7, z_i (e + 1)), (4, z_i p2), (5, z_i c), (6, z_i a)]) rfl ?_
                        refine z_widen (k' := (2 * (e + 1).toNat)) (n' := (12 * (e + 1).toNat)) (by omega) (by omega) ?_
                        exact ih90 (e + 1) p2 c a (by omega) (by omega) (by rw [z_smS (by omega), ← hp]; unfold aF; first | (rw [show e = f by omega]; rw [show e = f by omega] at hp2; omega) | (rw [aF_0 (Or.inr (by omega))]; rw [aF_0 (Or.inr (by omega))] at hp2; omega)) hcl2 (by omega) (by omega)
                      · have hyf := yPi_r hI7 (r := r) (e := f) (by omega) (Or.inr hkk)
                        refine z_aload hY eL_areApart_228 0 rfl ?_
                        refine z_iload hY eL_areApart_229 2 rfl ?_
                        refine z_iload hY eL_areApart_230 9 rfl ?_
                        refine z_callVr (As := [z_i q, z_i f]) (rest := []) (r := z_i (yPi ρ q f)) hY eL_areApart_232 (la_placeThen hG hI7 hrow7 (r := q) (e := f) (by omega) (by omega)) ((gH_at (gS_X hI7) (by decide)).trans (congrArg some lC_40)) (by decide) (Nat.le_of_ble_eq_true rfl) (by rw [hmc, hms]; omega) ?_
                        have hyb21 := yPi_r hI7 (r := q) (e := f) (by omega) (by first | exact Or.inl rfl | exact hkq | exact Or.inr hkk)
                        refine z_istore hY eL_areApart_235 (ls' := [(11, z_i (yPi ρ q f)), (0, .ref (A 40)), (1, z_i r), (2, z_i q), (3, z_i (my ρ)), (7, z_i e), (8, z_i (yPi ρ q e)), (9, z_i (yPi ρ (-1) e)), (5, z_i c), (6, z_i a), (10, z_i f), (4, z_i p2)]) rfl ?_
                        refine z_iload hY eL_areApart_237 0 rfl ?_
                        refine z_const hY eL_areApart_239 ?_
                        refine z_icmpeq hY eL_areApart_240 (by omega) (fun c240 => ?_) (fun c240 => ?_)
                        · refine z_const hY eL_areApart_263 ?_
                          refine z_istore hY eL_areApart_264 (ls' := [(12, z_i 0), (11, z_i (yPi ρ q f)), (0, .ref (A 40)), (1, z_i r), (2, z_i q), (3, z_i (my ρ)), (7, z_i e), (8, z_i (yPi ρ q e)), (9, z_i (yPi ρ (-1) e)), (5, z_i c), (6, z_i a), (10, z_i f), (4, z_i p2)]) rfl ?_
                          refine z_iload hY eL_areApart_266 12 rfl ?_
                          refine z_iload hY eL_areApart_268 0 rfl ?_
                          refine z_ifeq hY eL_areApart_270 (by omega) (fun _ => ?_) (fun c => absurd c (by omega))
                          refine z_const hY eL_areApart_324 ?_
                          refine z_iadd hY eL_areApart_325 ?_
                          refine z_top (b := p2) (by omega) ?_
                          have hq1 : (if yAq ρ r q e f then (1 : Int) else 0) = 0 := by first | exact if_pos (by unfold yAq; omega) | exact if_neg (by unfold yAq; omega)
                          refine z_istore hY eL_areApart_326 (ls' := [(4, z_i p2), (12, z_i 0), (11, z_i (yPi ρ q f)), (0, .ref (A 40)), (1, z_i r), (2, z_i q), (3, z_i (my ρ)), (7, z_i e), (8, z_i (yPi ρ q e)), (9, z_i (yPi ρ (-1) e)), (5, z_i c), (6, z_i a), (10, z_i f)]) rfl ?_
                          refine z_iinc hY eL_areApart_328 12 rfl (ls' := [(10, z_i (f + 1)), (4, z_i p2), (12, z_i 0), (11, z_i (yPi ρ q f)), (0, .ref (A 40)), (1, z_i r), (2, z_i q), (3, z_i (my ρ)), (7, z_i e), (8, z_i (yPi ρ q e)), (9, z_i (yPi ρ (-1) e)), (5, z_i c), (6, z_i a)]) rfl ?_
                          refine z_goto hY eL_areApart_331 ?_
                          refine z_sub [4, 5, 6, 7, 8, 9, 10, 11, 12, 0, 1] (ls' := [(0, .ref (A 40)), (1, z_i r), (2, z_i q), (3, z_i (my ρ)), (7, z_i e), (8, z_i (yPi ρ q e)), (9, z_i (yPi ρ (-1) e)), (5, z_i c), (6, z_i a), (10, z_i (f + 1)), (4, z_i p2)]) rfl ?_
                          exact ih215 (f + 1) p2 (by omega) (by omega) (by rw [z_smS (by omega), hq1]; omega) (by omega)
                        · refine z_aload hY eL_areApart_243 1 rfl ?_
                          refine g_gf hY (gS_X hI7) eL_areApart_244 (v := .ref (A 13)) rfl ?_
                          refine z_const hY eL_areApart_247 ?_
                          refine z_iload hY eL_areApart_249 2 rfl ?_
                          refine z_imul hY eL_areApart_250 ?_
                          refine z_iload hY eL_areApart_251 10 rfl ?_
                          refine z_iadd hY eL_areApart_253 ?_
                          refine g_ial hY (gS_X hI7) eL_areApart_254 (j := 13) (N := 1200) (x := yPi ρ r f) (by decide) rfl (by omega) (w_pi hI7 hkk (by omega)) ?_
                          refine z_const hY eL_areApart_255 ?_
                          refine z_icmpeq hY eL_areApart_256 (by omega) (fun c256 => ?_) (fun c256 => ?_)
                          · refine z_const hY eL_areApart_263 ?_
                            refine z_istore hY eL_areApart_264 (ls' := [(12, z_i 0), (11, z_i (yPi ρ q f)), (0, .ref (A 40)), (1, z_i r), (2, z_i q), (3, z_i (my ρ)), (7, z_i e), (8, z_i (yPi ρ q e)), (9, z_i (yPi ρ (-1) e)), (5, z_i c), (6, z_i a), (10, z_i f), (4, z_i p2)]) rfl ?_
                            refine z_iload hY eL_areApart_266 12 rfl ?_
                            refine z_iload hY eL_areApart_268 0 rfl ?_
                            refine z_ifeq hY eL_areApart_270 (by omega) (fun _ => ?_) (fun c => absurd c (by omega))
                            refine z_const hY eL_areApart_324 ?_
                            refine z_iadd hY eL_areApart_325 ?_
                            refine z_top (b := p2) (by omega) ?_
                            have hq1 : (if yAq ρ r q e f then (1 : Int) else 0) = 0 := by first | exact if_pos (by unfold yAq; omega) | exact if_neg (by unfold yAq; omega)
                            refine z_istore hY eL_areApart_326 (ls' := [(4, z_i p2), (12, z_i 0), (11, z_i (yPi ρ q f)), (0, .ref (A 40)), (1, z_i r), (2, z_i q), (3, z_i (my ρ)), (7, z_i e), (8, z_i (yPi ρ q e)), (9, z_i (yPi ρ (-1) e)), (5, z_i c), (6, z_i a), (10, z_i f)]) rfl ?_
                            refine z_iinc hY eL_areApart_328 12 rfl (ls' := [(10, z_i (f + 1)), (4, z_i p2), (12, z_i 0), (11, z_i (yPi ρ q f)), (0, .ref (A 40)), (1, z_i r), (2, z_i q), (3, z_i (my ρ)), (7, z_i e), (8, z_i (yPi ρ q e)), (9, z_i (yPi ρ (-1) e)), (5, z_i c), (6, z_i a)]) rfl ?_
                            refine z_goto hY eL_areApart_331 ?_
                            refine z_sub [4, 5, 6, 7, 8, 9, 10, 11, 12, 0, 1] (ls' := [(0, .ref (A 40)), (1, z_i r), (2, z_i q), (3, z_i (my ρ)), (7, z_i e), (8, z_i (yPi ρ q e)), (9, z_i (yPi ρ (-1) e)), (5, z_i c), (6, z_i a), (10, z_i (f + 1)), (4, z_i p2)]) rfl ?_
                            exact ih215 (f + 1) p2 (by omega) (by omega) (by rw [z_smS (by omega), hq1]; omega) (by omega)
                          · refine z_const hY eL_areApart_259 ?_
                            refine z_goto hY eL_areApart_260 ?_
                            refine z_istore hY eL_areApart_264 (ls' := [(12, z_i 1), (11, z_i (yPi ρ q f)), (0, .ref (A 40)), (1, z_i r), (2, z_i q), (3, z_i (my ρ)), (7, z_i e), (8, z_i (yPi ρ q e)), (9, z_i (yPi ρ (-1) e)), (5, z_i c), (6, z_i a), (10, z_i f), (4, z_i p2)]) rfl ?_
                            refine z_iload hY eL_areApart_266 12 rfl ?_
                            refine z_iload hY eL_areApart_268 0 rfl ?_
                            refine z_ifeq hY eL_areApart_270 (by omega) (fun c => absurd c (by omega)) (fun _ => ?_)
                            refine z_aload hY eL_areApart_273 2 rfl ?_
                            refine g_gf hY (gS_X hI7) eL_areApart_274 (v := .ref (A 13)) rfl ?_
                            refine z_const hY eL_areApart_277 ?_
                            refine z_iload hY eL_areApart_279 3 rfl ?_
                            refine z_imul hY eL_areApart_280 ?_
                            refine z_iload hY eL_areApart_281 6 rfl ?_
                            refine z_iadd hY eL_areApart_283 ?_
                            refine g_ial hY (gS_X hI7) eL_areApart_284 (j := 13) (N := 1200) (x := yPi ρ r e) (by decide) rfl (by omega) (w_pi hI7 hkk (by omega)) ?_
                            refine z_aload hY eL_areApart_285 2 rfl ?_
                            refine g_gf hY (gS_X hI7) eL_areApart_286 (v := .ref (A 13)) rfl ?_
                            refine z_const hY eL_areApart_289 ?_
                            refine z_iload hY eL_areApart_291 3 rfl ?_
                            refine z_imul hY eL_areApart_292 ?_
                            refine z_iload hY eL_areApart_293 11 rfl ?_
                            refine z_iadd hY eL_areApart_295 ?_
                            refine g_ial hY (gS_X hI7) eL_areApart_296 (j := 13) (N := 1200) (x := yPi ρ r f) (by decide) rfl (by omega) (w_pi hI7 hkk (by omega)) ?_
                            refine z_icmpge hY eL_areApart_297 (by omega) (fun c297 => ?_) (fun c297 => ?_)
                            · refine z_const hY eL_areApart_304 ?_
                              refine z_iload hY eL_areApart_305 7 rfl ?_
                              refine z_iload hY eL_areApart_307 1 rfl ?_
                              refine z_icmpge hY eL_areApart_309 (by omega) (fun c309 => ?_) (fun c309 => ?_)
                              · refine z_const hY eL_areApart_316 ?_
                                refine z_icmpeq hY eL_areApart_317 (by omega) (fun _ => ?_) (fun c => absurd c (by omega))
                                refine z_const hY eL_areApart_324 ?_
                                refine z_iadd hY eL_areApart_325 ?_
                                refine z_top (b := p2) (by omega) ?_
                                have hq1 : (if yAq ρ r q e f then (1 : Int) else 0) = 0 := by first | exact if_pos (by unfold yAq; omega) | exact if_neg (by unfold yAq; omega)
                                refine z_istore hY eL_areApart_326 (ls' := [(4, z_i p2), (12, z_i 1), (11, z_i (yPi ρ q f)), (0, .ref (A 40)), (1, z_i r), (2, z_i q), (3, z_i (my ρ)), (7, z_i e), (8, z_i (yPi ρ q e)), (9, z_i (yPi ρ (-1) e)), (5, z_i c), (6, z_i a), (10, z_i f)]) rfl ?_
                                refine z_iinc hY eL_areApart_328 12 rfl (ls' := [(10, z_i (f + 1)), (4, z_i p2), (12, z_i 1), (11, z_i (yPi ρ q f)), (0, .ref (A 40)), (1, z_i r), (2, z_i q), (3, z_i (my ρ)), (7, z_i e), (8, z_i (yPi ρ q e)), (9, z_i (yPi ρ (-1) e)), (5, z_i c), (6, z_i a)]) rfl ?_
                                refine z_goto hY eL_areApart_331 ?_
                                refine z_sub [4, 5, 6, 7, 8, 9, 10, 11, 12, 0, 1] (ls' := [(0, .ref (A 40)), (1, z_i r), (2, z_i q), (3, z_i (my ρ)), (7, z_i e), (8, z_i (yPi ρ q e)), (9, z_i (yPi ρ (-1) e)), (5, z_i c), (6, z_i a), (10, z_i (f + 1)), (4, z_i p2)]) rfl ?_
                                exact ih215 (f + 1) p2 (by omega) (by omega) (by rw [z_smS (by omega), hq1]; omega) (by omega)
                              · refine z_const hY eL_areApart_312 ?_
                                refine z_goto hY eL_areApart_313 ?_
                                refine z_icmpeq hY eL_areApart_317 (by omega) (fun c => absurd c (by omega)) (fun _ => ?_)
                                refine z_const hY eL_areApart_320 ?_
                                refine z_goto hY eL_areApart_321 ?_
                                refine z_iadd hY eL_areApart_325 ?_
                                have hq1 : (if yAq ρ r q e f then (1 : Int) else 0) = 1 := by first | exact if_pos (by unfold yAq; omega) | exact if_neg (by unfold yAq; omega)
                                refine z_istore hY eL_areApart_326 (ls' := [(4, z_i (p2 + 1)), (12, z_i 1), (11, z_i (yPi ρ q f)), (0, .ref (A 40)), (1, z_i r), (2, z_i q), (3, z_i (my ρ)), (7, z_i e), (8, z_i (yPi ρ q e)), (9, z_i (yPi ρ (-1) e)), (5, z_i c), (6, z_i a), (10, z_i f)]) rfl ?_
                                refine z_iinc hY eL_areApart_328 12 rfl (ls' := [(10, z_i (f + 1)), (4, z_i (p2 + 1)), (12, z_i 1), (11, z_i (yPi ρ q f)), (0, .ref (A 40)), (1, z_i r), (2, z_i q), (3, z_i (my ρ)), (7, z_i e), (8, z_i (yPi ρ q e)), (9, z_i (yPi ρ (-1) e)), (5, z_i c), (6, z_i a)]) rfl ?_
                                refine z_goto hY eL_areApart_331 ?_
                                refine z_sub [4, 5, 6, 7, 8, 9, 10, 11, 12, 0, 1] (ls' := [(0, .ref (A 40)), (1, z_i r), (2, z_i q), (3, z_i (my ρ)), (7, z_i e), (8, z_i (yPi ρ q e)), (9, z_i (yPi ρ (-1) e)), (5, z_i c), (6, z_i a), (10, z_i (f + 1)), (4, z_i (p2 + 1))]) rfl ?_
                                exact ih215 (f + 1) (p2 + 1) (by omega) (by omega) (by rw [z_smS (by omega), hq1]; omega) (by omega)
                            · refine z_const hY eL_areApart_300 ?_
                              refine z_goto hY eL_areApart_301 ?_
                              refine z_iload hY eL_areApart_305 7 rfl ?_
                              refine z_iload hY eL_areApart_307 1 rfl ?_
                              refine z_icmpge hY eL_areApart_309 (by omega) (fun c309 => ?_) (fun c309 => ?_)
                              · refine z_const hY eL_areApart_316 ?_
                                refine z_icmpeq hY eL_areApart_317 (by omega) (fun c => absurd c (by omega)) (fun _ => ?_)
                                refine z_const hY eL_areApart_320 ?_
                                refine z_goto hY eL_areApart_321 ?_
                                refine z_iadd hY eL_areApart_325 ?_
                                have hq1 : (if yAq ρ r q e f then (1 : Int) else 0) = 1 := by first | exact if_pos (by unfold yAq; omega) | exact if_neg (by unfold yAq; omega)
                                refine z_istore hY eL_areApart_326 (ls' := [(4, z_i (p2 + 1)), (12, z_i 1), (11, z_i (yPi ρ q f)), (0, .ref (A 40)), (1, z_i r), (2, z_i q), (3, z_i (my ρ)), (7, z_i e), (8, z_i (yPi ρ q e)), (9, z_i (yPi ρ (-1) e)), (5, z_i c), (6, z_i a), (10, z_i f)]) rfl ?_
                                refine z_iinc hY eL_areApart_328 12 rfl (ls' := [(10, z_i (f + 1)), (4, z_i (p2 + 1)), (12, z_i 1), (11, z_i (yPi ρ q f)), (0, .ref (A 40)), (1, z_i r), (2, z_i q), (3, z_i (my ρ)), (7, z_i e), (8, z_i (yPi ρ q e)), (9, z_i (yPi ρ (-1) e)), (5, z_i c), (6, z_i a)]) rfl ?_
                                refine z_goto hY eL_areApart_331 ?_
                                refine z_sub [4, 5, 6, 7, 8, 9, 10, 11, 12, 0, 1] (ls' := [(0, .ref (A 40)), (1, z_i r), (2, z_i q), (3, z_i (my ρ)), (7, z_i e), (8, z_i (yPi ρ q e)), (9, z_i (yPi ρ (-1) e)), (5, z_i c), (6, z_i a), (10, z_i (f + 1)), (4, z_i (p2 + 1))]) rfl ?_
                                exact ih215 (f + 1) (p2 + 1) (by omega) (by omega) (by rw [z_smS (by omega), hq1]; omega) (by omega)
                              · refine z_const hY eL_areApart_312 ?_
                                refine z_goto hY eL_areApart_313 ?_
                                refine z_icmpeq hY eL_areApart_317 (by omega) (fun _ => ?_) (fun c => absurd c (by omega))
                                refine z_const hY eL_areApart_324 ?_
                                refine z_iadd hY eL_areApart_325 ?_
                                refine z_top (b := p2) (by omega) ?_
                                have hq1 : (if yAq ρ r q e f then (1 : Int) else 0) = 0 := by first | exact if_pos (by unfold yAq; omega) | exact if_neg (by unfold yAq; omega)
                                refine z_istore hY eL_areApart_326 (ls' := [(4, z_i p2), (12, z_i 1), (11, z_i (yPi ρ q f)), (0, .ref (A 40)), (1, z_i r), (2, z_i q), (3, z_i (my ρ)), (7, z_i e), (8, z_i (yPi ρ q e)), (9, z_i (yPi ρ (-1) e)), (5, z_i c), (6, z_i a), (10, z_i f)]) rfl ?_
                                refine z_iinc hY eL_areApart_328 12 rfl (ls' := [(10, z_i (f + 1)), (4, z_i p2), (12, z_i 1), (11, z_i (yPi ρ q f)), (0, .ref (A 40)), (1, z_i r), (2, z_i q), (3, z_i (my ρ)), (7, z_i e), (8, z_i (yPi ρ q e)), (9, z_i (yPi ρ (-1) e)), (5, z_i c), (6, z_i a)]) rfl ?_
                                refine z_goto hY eL_areApart_331 ?_
                                refine z_sub [4, 5, 6, 7, 8, 9, 10, 11, 12, 0, 1] (ls' := [(0, .ref (A 40)), (1, z_i r), (2, z_i q), (3, z_i (my ρ)), (7, z_i e), (8, z_i (yPi ρ q e)), (9, z_i (yPi ρ (-1) e)), (5, z_i c), (6, z_i a), (10, z_i (f + 1)), (4, z_i p2)]) rfl ?_
                                exact ih215 (f + 1) p2 (by omega) (by omega) (by rw [z_smS (by omega), hq1]; omega) (by omega)
                exact lp215 _ 0 p (Nat.lt_succ_self _) (by omega) (by rw [z_sm0 (by omega)]; omega) (by omega)
              · refine z_iload hY eL_areApart_167 9 rfl ?_
                refine z_ifeq hY eL_areApart_169 (by omega) (fun c169 => ?_) (fun c169 => ?_)
                · refine z_aload hY eL_areApart_192 2 rfl ?_
                  refine g_gf hY (gS_X hI7) eL_areApart_193 (v := .ref (A 13)) rfl ?_
                  refine z_const hY eL_areApart_196 ?_
                  refine z_iload hY eL_areApart_198 3 rfl ?_
                  refine z_imul hY eL_areApart_199 ?_
                  refine z_iload hY eL_areApart_200 6 rfl ?_
                  refine z_iadd hY eL_areApart_202 ?_
                  refine g_ial hY (gS_X hI7) eL_areApart_203 (j := 13) (N := 1200) (x := yPi ρ r e) (by decide) rfl (by omega) (w_pi hI7 hkk (by omega)) ?_
                  refine z_iload hY eL_areApart_204 0 rfl ?_
                  refine z_isub hY eL_areApart_206 ?_
                  refine z_istore hY eL_areApart_207 (ls' := [(5, z_i ((yPi ρ r e) - (yPi ρ (-1) e))), (9, z_i (yPi ρ (-1) e)), (8, z_i (yPi ρ q e)), (0, .ref (A 40)), (1, z_i r), (2, z_i q), (3, z_i (my ρ)), (7, z_i e), (4, z_i p), (6, z_i a)]) rfl ?_
                  refine z_const hY eL_areApart_209 ?_
                  refine z_istore hY eL_areApart_210 (ls' := [(6, z_i 1), (5, z_i ((yPi ρ r e) - (yPi ρ (-1) e))), (9, z_i (yPi ρ (-1) e)), (8, z_i (yPi ρ q e)), (0, .ref (A 40)), (1, z_i r), (2, z_i q), (3, z_i (my ρ)), (7, z_i e), (4, z_i p)]) rfl ?_
                  refine z_const hY eL_areApart_212 ?_
                  refine z_istore hY eL_areApart_213 (ls' := [(10, z_i 0), (6, z_i 1), (5, z_i ((yPi ρ r e) - (yPi ρ (-1) e))), (9, z_i (yPi ρ (-1) e)), (8, z_i (yPi ρ q e)), (0, .ref (A 40)), (1, z_i r), (2, z_i q), (3, z_i (my ρ)), (7, z_i e), (4, z_i p)]) rfl ?_
                  have hcl2 : aC ρ r (e + 1) ((yPi ρ r e) - (yPi ρ (-1) e)) 1 := (by rcases hyq with w9 | w9; (rw [w9.2]; exact aC_n hcl w9.1 (by omega) (by omega)); (have w8 := w9 (by omega); omega))
                  have hcb2 : -40 ≤ ((yPi ρ r e) - (yPi ρ (-1) e)) ∧ ((yPi ρ r e) - (yPi ρ (-1) e)) ≤ 40 := by omega
                  refine z_sub [5, 6, 7, 8, 9, 4, 3, 2, 1, 0, 10] (ls' := [(0, .ref (A 40)), (1, z_i r), (2, z_i q), (3, z_i (my ρ)), (7, z_i e), (8, z_i (yPi ρ q e)), (9, z_i (yPi ρ (-1) e)), (5, z_i ((yPi ρ r e) - (yPi ρ (-1) e))), (6, z_i 1), (10, z_i 0), (4, z_i p)]) rfl ?_
                  have lp215 : ∀ (fu : Nat) (f : Int) (p2 : Int), (e - f).toNat < fu → (0 ≤ f ∧ f ≤ e) → (p2 = p + z_sm (fun f => if yAq ρ r q e f then (1 : Int) else 0) f) → (p ≤ p2 ∧ p2 ≤ p + f) → z_W Y 215 [(0, .ref (A 40)), (1, z_i r), (2, z_i q), (3, z_i (my ρ)), (7, z_i e), (8, z_i (yPi ρ q e)), (9, z_i (yPi ρ (-1) e)), (5, z_i ((yPi ρ r e) - (yPi ρ (-1) e))), (6, z_i 1), (10, z_i f), (4, z_i p2)] [] (gH D B κ A σ7 h) (2 * e.toNat + 2) (12 * e.toNat + 12) := by
                    intro fu
                    induction fu with
                    | zero => intro f p2 hf; exact absurd hf (Nat.not_lt_zero _)
                    | succ fu ih215 =>
                      intro f p2 hf hf hp2 hpb2
                      refine z_iload hY eL_areApart_215 9 rfl ?_
                      refine z_iload hY eL_areApart_217 4 rfl ?_
                      refine z_icmpge hY eL_areApart_219 (by omega) (fun c219 => ?_) (fun c219 => ?_)
                      · refine z_iinc hY eL_areApart_334 4 rfl (ls' := [(7, z_i (e + 1)), (0, .ref (A 40)), (1, z_i r), (2, z_i q), (3, z_i (my ρ)), (8, z_i (yPi ρ q e)), (9, z_i (yPi ρ (-1) e)), (5, z_i ((yPi ρ r e) - (yPi ρ (-1) e))), (6, z_i 1), (10, z_i f), (4, z_i p2)]) rfl ?_
                        refine z_goto hY eL_areApart_337 ?_
                        refine z_sub [1, 2, 3, 4, 0, 10, 7, 8] (ls' := [(0, .ref (A 40)), (1, z_i r), (2, z_i q), (3, z_i (my ρ)), (7, z_i (e + 1)), (4, z_i p2), (5, z_i ((yPi ρ r e) - (yPi ρ (-1) e))), (6, z_i 1)]) rfl ?_
                        refine z_widen (k' := (2 * (e + 1).toNat)) (n' := (12 * (e + 1).toNat)) (by omega) (by omega) ?_
                        exact ih90 (e + 1) p2 ((yPi ρ r e) - (yPi ρ (-1) e)) 1 (by omega) (by omega) (by rw [z_smS (by omega), ← hp]; unfold aF; first | (rw [show e = f by omega]; rw [show e = f by omega] at hp2; omega) | (rw [aF_0 (Or.inr (by omega))]; rw [aF_0 (Or.inr (by omega))] at hp2; omega)) hcl2 (by omega) (by omega)
                      · refine z_iload hY eL_areApart_222 5 rfl ?_
                        refine z_const hY eL_areApart_224 ?_
                        refine z_icmpeq hY eL_areApart_225 (by omega) (fun c225 => ?_) (fun c225 => ?_)
                        · refine z_iinc hY eL_areApart_334 4 rfl (ls' := [(7, z_i (e + 1)), (0, .ref (A 40)), (1, z_i r), (2, z_i q), (3, z_i (my ρ)), (8, z_i (yPi ρ q e)), (9, z_i (yPi ρ (-1) e)), (5, z_i ((yPi ρ r e) - (yPi ρ (-1) e))), (6, z_i 1), (10, z_i f), (4, z_i p2)]) rfl ?_
                          refine z_goto hY eL_areApart_337 ?_
                          refine z_sub [1, 2, 3, 4, 0, 10, 7, 8] (ls' := [(0, .ref (A 40)), (1, z_i r), (2, z_i q), (3, z_i (my ρ)), (7, z_i (e + 1)), (4, z_i p2), (5, z_i ((yPi ρ r e) - (yPi ρ (-1) e))), (6, z_i 1)]) rfl ?_
                          refine z_widen (k' := (2 * (e + 1).toNat)) (n' := (12 * (e + 1).toNat)) (by omega) (by omega) ?_
                          exact ih90 (e + 1) p2 ((yPi ρ r e) - (yPi ρ (-1) e)) 1 (by omega) (by omega) (by rw [z_smS (by omega), ← hp]; unfold aF; first | (rw [show e = f by omega]; rw [show e = f by omega] at hp2; omega) | (rw [aF_0 (Or.inr (by omega))]; rw [aF_0 (Or.inr (by omega))] at hp2; omega)) hcl2 (by omega) (by omega)
                        · have hyf := yPi_r hI7 (r := r) (e := f) (by omega) (Or.inr hkk)
                          refine z_aload hY eL_areApart_228 0 rfl ?_
                          refine z_iload hY eL_areApart_229 2 rfl ?_
                          refine z_iload hY eL_areApart_230 9 rfl ?_
                          refine z_callVr (As := [z_i q, z_i f]) (rest := []) (r := z_i (yPi ρ q f)) hY eL_areApart_232 (la_placeThen hG hI7 hrow7 (r := q) (e := f) (by omega) (by omega)) ((gH_at (gS_X hI7) (by decide)).trans (congrArg some lC_40)) (by decide) (Nat.le_of_ble_eq_true rfl) (by rw [hmc, hms]; omega) ?_
                          have hyb22 := yPi_r hI7 (r := q) (e := f) (by omega) (by first | exact Or.inl rfl | exact hkq | exact Or.inr hkk)
                          refine z_istore hY eL_areApart_235 (ls' := [(11, z_i (yPi ρ q f)), (0, .ref (A 40)), (1, z_i r), (2, z_i q), (3, z_i (my ρ)), (7, z_i e), (8, z_i (yPi ρ q e)), (9, z_i (yPi ρ (-1) e)), (5, z_i ((yPi ρ r e) - (yPi ρ (-1) e))), (6, z_i 1), (10, z_i f), (4, z_i p2)]) rfl ?_
                          refine z_iload hY eL_areApart_237 0 rfl ?_
                          refine z_const hY eL_areApart_239 ?_
                          refine z_icmpeq hY eL_areApart_240 (by omega) (fun c240 => ?_) (fun c240 => ?_)
                          · refine z_const hY eL_areApart_263 ?_
                            refine z_istore hY eL_areApart_264 (ls' := [(12, z_i 0), (11, z_i (yPi ρ q f)), (0, .ref (A 40)), (1, z_i r), (2, z_i q), (3, z_i (my ρ)), (7, z_i e), (8, z_i (yPi ρ q e)), (9, z_i (yPi ρ (-1) e)), (5, z_i ((yPi ρ r e) - (yPi ρ (-1) e))), (6, z_i 1), (10, z_i f), (4, z_i p2)]) rfl ?_
                            refine z_iload hY eL_areApart_266 12 rfl ?_
                            refine z_iload hY eL_areApart_268 0 rfl ?_
                            refine z_ifeq hY eL_areApart_270 (by omega) (fun _ => ?_) (fun c => absurd c (by omega))
                            refine z_const hY eL_areApart_324 ?_
                            refine z_iadd hY eL_areApart_325 ?_
                            refine z_top (b := p2) (by omega) ?_
                            have hq1 : (if yAq ρ r q e f then (1 : Int) else 0) = 0 := by first | exact if_pos (by unfold yAq; omega) | exact if_neg (by unfold yAq; omega)
                            refine z_istore hY eL_areApart_326 (ls' := [(4, z_i p2), (12, z_i 0), (11, z_i (yPi ρ q f)), (0, .ref (A 40)), (1, z_i r), (2, z_i q), (3, z_i (my ρ)), (7, z_i e), (8, z_i (yPi ρ q e)), (9, z_i (yPi ρ (-1) e)), (5, z_i ((yPi ρ r e) - (yPi ρ (-1) e))), (6, z_i 1), (10, z_i f)]) rfl ?_
                            refine z_iinc hY eL_areApart_328 12 rfl (ls' := [(10, z_i (f + 1)), (4, z_i p2), (12, z_i 0), (11, z_i (yPi ρ q f)), (0, .ref (A 40)), (1, z_i r), (2, z_i q), (3, z_i (my ρ)), (7, z_i e), (8, z_i (yPi ρ q e)), (9, z_i (yPi ρ (-1) e)), (5, z_i ((yPi ρ r e) - (yPi ρ (-1) e))), (6, z_i 1)]) rfl ?_
                            refine z_goto hY eL_areApart_331 ?_
                            refine z_sub [4, 5, 6, 7, 8, 9, 10, 11, 12, 0, 1] (ls' := [(0, .ref (A 40)), (1, z_i r), (2, z_i q), (3, z_i (my ρ)), (7, z_i e), (8, z_i (yPi ρ q e)), (9, z_i (yPi ρ (-1) e)), (5, z_i ((yPi ρ r e) - (yPi ρ (-1) e))), (6, z_i 1), (10, z_i (f + 1)), (4, z_i p2)]) rfl ?_
                            exact ih215 (f + 1) p2 (by omega) (by omega) (by rw [z_smS (by omega), hq1]; omega) (by omega)
                          · refine z_aload hY eL_areApart_243 1 rfl ?_
                            refine g_gf hY (gS_X hI7) eL_areApart_244 (v := .ref (A 13)) rfl ?_
                            refine z_const hY eL_areApart_247 ?_
                            refine z_iload hY eL_areApart_249 2 rfl ?_
                            refine z_imul hY eL_areApart_250 ?_
                            refine z_iload hY eL_areApart_251 10 rfl ?_
                            refine z_iadd hY eL_areApart_253 ?_
                            refine g_ial hY (gS_X hI7) eL_areApart_254 (j := 13) (N := 1200) (x := yPi ρ r f) (by decide) rfl (by omega) (w_pi hI7 hkk (by omega)) ?_
                            refine z_const hY eL_areApart_255 ?_
                            refine z_icmpeq hY eL_areApart_256 (by omega) (fun c256 => ?_) (fun c256 => ?_)
                            · refine z_const hY eL_areApart_263 ?_
                              refine z_istore hY eL_areApart_264 (ls' := [(12, z_i 0), (11, z_i (yPi ρ q f)), (0, .ref (A 40)), (1, z_i r), (2, z_i q), (3, z_i (my ρ)), (7, z_i e), (8, z_i (yPi ρ q e)), (9, z_i (yPi ρ (-1) e)), (5, z_i ((yPi ρ r e) - (yPi ρ (-1) e))), (6, z_i 1), (10, z_i f), (4, z_i p2)]) rfl ?_
                              refine z_iload hY eL_areApart_266 12 rfl ?_
                              refine z_iload hY eL_areApart_268 0 rfl ?_
                              refine z_ifeq hY eL_areApart_270 (by omega) (fun _ => ?_) (fun c => absurd c (by omega))
                              refine z_const hY eL_areApart_324 ?_
                              refine z_iadd hY eL_areApart_325 ?_
                              refine z_top (b := p2) (by omega) ?_
                              have hq1 : (if yAq ρ r q e f then (1 : Int) else 0) = 0 := by first | exact if_pos (by unfold yAq; omega) | exact if_neg (by unfold yAq; omega)
                              refine z_istore hY eL_areApart_326 (ls' := [(4, z_i p2), (12, z_i 0), (11, z_i (yPi ρ q f)), (0, .ref (A 40)), (1, z_i r), (2, z_i q), (3, z_i (my ρ)), (7, z_i e), (8, z_i (yPi ρ q e)), (9, z_i (yPi ρ (-1) e)), (5, z_i ((yPi ρ r e) - (yPi ρ (-1) e))), (6, z_i 1), (10, z_i f)]) rfl ?_
                              refine z_iinc hY eL_areApart_328 12 rfl (ls' := [(10, z_i (f + 1)), (4, z_i p2), (12, z_i 0), (11, z_i (yPi ρ q f)), (0, .ref (A 40)), (1, z_i r), (2, z_i q), (3, z_i (my ρ)), (7, z_i e), (8, z_i (yPi ρ q e)), (9, z_i (yPi ρ (-1) e)), (5, z_i ((yPi ρ r e) - (yPi ρ (-1) e))), (6, z_i 1)]) rfl ?_
                              refine z_goto hY eL_areApart_331 ?_
                              refine z_sub [4, 5, 6, 7, 8, 9, 10, 11, 12, 0, 1] (ls' := [(0, .ref (A 40)), (1, z_i r), (2, z_i q), (3, z_i (my ρ)), (7, z_i e), (8, z_i (yPi ρ q e)), (9, z_i (yPi ρ (-1) e)), (5, z_i ((yPi ρ r e) - (yPi ρ (-1) e))), (6, z_i 1), (10, z_i (f + 1)), (4, z_i p2)]) rfl ?_
                              exact ih215 (f + 1) p2 (by omega) (by omega) (by rw [z_smS (by omega), hq1]; omega) (by omega)
                            · refine z_const hY eL_areApart_259 ?_
                              refine z_goto hY eL_areApart_260 ?_
                              refine z_istore hY eL_areApart_264 (ls' := [(12, z_i 1), (11, z_i (yPi ρ q f)), (0, .ref (A 40)), (1, z_i r), (2, z_i q), (3, z_i (my ρ)), (7, z_i e), (8, z_i (yPi ρ q e)), (9, z_i (yPi ρ (-1) e)), (5, z_i ((yPi ρ r e) - (yPi ρ (-1) e))), (6, z_i 1), (10, z_i f), (4, z_i p2)]) rfl ?_
                              refine z_iload hY eL_areApart_266 12 rfl ?_
                              refine z_iload hY eL_areApart_268 0 rfl ?_
                              refine z_ifeq hY eL_areApart_270 (by omega) (fun c => absurd c (by omega)) (fun _ => ?_)
                              refine z_aload hY eL_areApart_273 2 rfl ?_
                              refine g_gf hY (gS_X hI7) eL_areApart_274 (v := .ref (A 13)) rfl ?_
                              refine z_const hY eL_areApart_277 ?_
                              refine z_iload hY eL_areApart_279 3 rfl ?_
                              refine z_imul hY eL_areApart_280 ?_
                              refine z_iload hY eL_areApart_281 6 rfl ?_
                              refine z_iadd hY eL_areApart_283 ?_
                              refine g_ial hY (gS_X hI7) eL_areApart_284 (j := 13) (N := 1200) (x := yPi ρ r e) (by decide) rfl (by omega) (w_pi hI7 hkk (by omega)) ?_
                              refine z_aload hY eL_areApart_285 2 rfl ?_
                              refine g_gf hY (gS_X hI7) eL_areApart_286 (v := .ref (A 13)) rfl ?_
                              refine z_const hY eL_areApart_289 ?_
                              refine z_iload hY eL_areApart_291 3 rfl ?_
                              refine z_imul hY eL_areApart_292 ?_
                              refine z_iload hY eL_areApart_293 11 rfl ?_
                              refine z_iadd hY eL_areApart_295 ?_
                              refine g_ial hY (gS_X hI7) eL_areApart_296 (j := 13) (N := 1200) (x := yPi ρ r f) (by decide) rfl (by omega) (w_pi hI7 hkk (by omega)) ?_
                              refine z_icmpge hY eL_areApart_297 (by omega) (fun c297 => ?_) (fun c297 => ?_)
                              · refine z_const hY eL_areApart_304 ?_
                                refine z_iload hY eL_areApart_305 7 rfl ?_
                                refine z_iload hY eL_areApart_307 1 rfl ?_
                                refine z_icmpge hY eL_areApart_309 (by omega) (fun c309 => ?_) (fun c309 => ?_)
                                · refine z_const hY eL_areApart_316 ?_
                                  refine z_icmpeq hY eL_areApart_317 (by omega) (fun _ => ?_) (fun c => absurd c (by omega))
                                  refine z_const hY eL_areApart_324 ?_
                                  refine z_iadd hY eL_areApart_325 ?_
                                  refine z_top (b := p2) (by omega) ?_
                                  have hq1 : (if yAq ρ r q e f then (1 : Int) else 0) = 0 := by first | exact if_pos (by unfold yAq; omega) | exact if_neg (by unfold yAq; omega)
                                  refine z_istore hY eL_areApart_326 (ls' := [(4, z_i p2), (12, z_i 1), (11, z_i (yPi ρ q f)), (0, .ref (A 40)), (1, z_i r), (2, z_i q), (3, z_i (my ρ)), (7, z_i e), (8, z_i (yPi ρ q e)), (9, z_i (yPi ρ (-1) e)), (5, z_i ((yPi ρ r e) - (yPi ρ (-1) e))), (6, z_i 1), (10, z_i f)]) rfl ?_
                                  refine z_iinc hY eL_areApart_328 12 rfl (ls' := [(10, z_i (f + 1)), (4, z_i p2), (12, z_i 1), (11, z_i (yPi ρ q f)), (0, .ref (A 40)), (1, z_i r), (2, z_i q), (3, z_i (my ρ)), (7, z_i e), (8, z_i (yPi ρ q e)), (9, z_i (yPi ρ (-1) e)), (5, z_i ((yPi ρ r e) - (yPi ρ (-1) e))), (6, z_i 1)]) rfl ?_
                                  refine z_goto hY eL_areApart_331 ?_
                                  refine z_sub [4, 5, 6, 7, 8, 9, 10, 11, 12, 0, 1] (ls' := [(0, .ref (A 40)), (1, z_i r), (2, z_i q), (3, z_i (my ρ)), (7, z_i e), (8, z_i (yPi ρ q e)), (9, z_i (yPi ρ (-1) e)), (5, z_i ((yPi ρ r e) - (yPi ρ (-1) e))), (6, z_i 1), (10, z_i (f + 1)), (4, z_i p2)]) rfl ?_
                                  exact ih215 (f + 1) p2 (by omega) (by omega) (by rw [z_smS (by omega), hq1]; omega) (by omega)
                                · refine z_const hY eL_areApart_312 ?_
                                  refine z_goto hY eL_areApart_313 ?_
                                  refine z_icmpeq hY eL_areApart_317 (by omega) (fun c => absurd c (by omega)) (fun _ => ?_)
                                  refine z_const hY eL_areApart_320 ?_
                                  refine z_goto hY eL_areApart_321 ?_
                                  refine z_iadd hY eL_areApart_325 ?_
                                  have hq1 : (if yAq ρ r q e f then (1 : Int) else 0) = 1 := by first | exact if_pos (by unfold yAq; omega) | exact if_neg (by unfold yAq; omega)
                                  refine z_istore hY eL_areApart_326 (ls' := [(4, z_i (p2 + 1)), (12, z_i 1), (11, z_i (yPi ρ q f)), (0, .ref (A 40)), (1, z_i r), (2, z_i q), (3, z_i (my ρ)), (7, z_i e), (8, z_i (yPi ρ q e)), (9, z_i (yPi ρ (-1) e)), (5, z_i ((yPi ρ r e) - (yPi ρ (-1) e))), (6, z_i 1), (10, z_i f)]) rfl ?_
                                  refine z_iinc hY eL_areApart_328 12 rfl (ls' := [(10, z_i (f + 1)), (4, z_i (p2 + 1)), (12, z_i 1), (11, z_i (yPi ρ q f)), (0, .ref (A 40)), (1, z_i r), (2, z_i q), (3, z_i (my ρ)), (7, z_i e), (8, z_i (yPi ρ q e)), (9, z_i (yPi ρ (-1) e)), (5, z_i ((yPi ρ r e) - (yPi ρ (-1) e))), (6, z_i 1)]) rfl ?_
                                  refine z_goto hY eL_areApart_331 ?_
                                  refine z_sub [4, 5, 6, 7, 8, 9, 10, 11, 12, 0, 1] (ls' := [(0, .ref (A 40)), (1, z_i r), (2, z_i q), (3, z_i (my ρ)), (7, z_i e), (8, z_i (yPi ρ q e)), (9, z_i (yPi ρ (-1) e)), (5, z_i ((yPi ρ r e) - (yPi ρ (-1) e))), (6, z_i 1), (10, z_i (f + 1)), (4, z_i (p2 + 1))]) rfl ?_
                                  exact ih215 (f + 1) (p2 + 1) (by omega) (by omega) (by rw [z_smS (by omega), hq1]; omega) (by omega)
                              · refine z_const hY eL_areApart_300 ?_
                                refine z_goto hY eL_areApart_301 ?_
                                refine z_iload hY eL_areApart_305 7 rfl ?_
                                refine z_iload hY eL_areApart_307 1 rfl ?_
                                refine z_icmpge hY eL_areApart_309 (by omega) (fun c309 => ?_) (fun c309 => ?_)
                                · refine z_const hY eL_areApart_316 ?_
                                  refine z_icmpeq hY eL_areApart_317 (by omega) (fun c => absurd c (by omega)) (fun _ => ?_)
                                  refine z_const hY eL_areApart_320 ?_
                                  refine z_goto hY eL_areApart_321 ?_
                                  refine z_iadd hY eL_areApart_325 ?_
                                  have hq1 : (if yAq ρ r q e f then (1 : Int) else 0) = 1 := by first | exact if_pos (by unfold yAq; omega) | exact if_neg (by unfold yAq; omega)
                                  refine z_istore hY eL_areApart_326 (ls' := [(4, z_i (p2 + 1)), (12, z_i 1), (11, z_i (yPi ρ q f)), (0, .ref (A 40)), (1, z_i r), (2, z_i q), (3, z_i (my ρ)), (7, z_i e), (8, z_i (yPi ρ q e)), (9, z_i (yPi ρ (-1) e)), (5, z_i ((yPi ρ r e) - (yPi ρ (-1) e))), (6, z_i 1), (10, z_i f)]) rfl ?_
                                  refine z_iinc hY eL_areApart_328 12 rfl (ls' := [(10, z_i (f + 1)), (4, z_i (p2 + 1)), (12, z_i 1), (11, z_i (yPi ρ q f)), (0, .ref (A 40)), (1, z_i r), (2, z_i q), (3, z_i (my ρ)), (7, z_i e), (8, z_i (yPi ρ q e)), (9, z_i (yPi ρ (-1) e)), (5, z_i ((yPi ρ r e) - (yPi ρ (-1) e))), (6, z_i 1)]) rfl ?_
                                  refine z_goto hY eL_areApart_331 ?_
                                  refine z_sub [4, 5, 6, 7, 8, 9, 10, 11, 12, 0, 1] (ls' := [(0, .ref (A 40)), (1, z_i r), (2, z_i q), (3, z_i (my ρ)), (7, z_i e), (8, z_i (yPi ρ q e)), (9, z_i (yPi ρ (-1) e)), (5, z_i ((yPi ρ r e) - (yPi ρ (-1) e))), (6, z_i 1), (10, z_i (f + 1)), (4, z_i (p2 + 1))]) rfl ?_
                                  exact ih215 (f + 1) (p2 + 1) (by omega) (by omega) (by rw [z_smS (by omega), hq1]; omega) (by omega)
                                · refine z_const hY eL_areApart_312 ?_
                                  refine z_goto hY eL_areApart_313 ?_
                                  refine z_icmpeq hY eL_areApart_317 (by omega) (fun _ => ?_) (fun c => absurd c (by omega))
                                  refine z_const hY eL_areApart_324 ?_
                                  refine z_iadd hY eL_areApart_325 ?_
                                  refine z_top (b := p2) (by omega) ?_
                                  have hq1 : (if yAq ρ r q e f then (1 : Int) else 0) = 0 := by first | exact if_pos (by unfold yAq; omega) | exact if_neg (by unfold yAq; omega)
                                  refine z_istore hY eL_areApart_326 (ls' := [(4, z_i p2), (12, z_i 1), (11, z_i (yPi ρ q f)), (0, .ref (A 40)), (1, z_i r), (2, z_i q), (3, z_i (my ρ)), (7, z_i e), (8, z_i (yPi ρ q e)), (9, z_i (yPi ρ (-1) e)), (5, z_i ((yPi ρ r e) - (yPi ρ (-1) e))), (6, z_i 1), (10, z_i f)]) rfl ?_
                                  refine z_iinc hY eL_areApart_328 12 rfl (ls' := [(10, z_i (f + 1)), (4, z_i p2), (12, z_i 1), (11, z_i (yPi ρ q f)), (0, .ref (A 40)), (1, z_i r), (2, z_i q), (3, z_i (my ρ)), (7, z_i e), (8, z_i (yPi ρ q e)), (9, z_i (yPi ρ (-1) e)), (5, z_i ((yPi ρ r e) - (yPi ρ (-1) e))), (6, z_i 1)]) rfl ?_
                                  refine z_goto hY eL_areApart_331 ?_
                                  refine z_sub [4, 5, 6, 7, 8, 9, 10, 11, 12, 0, 1] (ls' := [(0, .ref (A 40)), (1, z_i r), (2, z_i q), (3, z_i (my ρ)), (7, z_i e), (8, z_i (yPi ρ q e)), (9, z_i (yPi ρ (-1) e)), (5, z_i ((yPi ρ r e) - (yPi ρ (-1) e))), (6, z_i 1), (10, z_i (f + 1)), (4, z_i p2)]) rfl ?_
                                  exact ih215 (f + 1) p2 (by omega) (by omega) (by rw [z_smS (by omega), hq1]; omega) (by omega)
                  exact lp215 _ 0 p (Nat.lt_succ_self _) (by omega) (by rw [z_sm0 (by omega)]; omega) (by omega)
                · refine z_aload hY eL_areApart_172 2 rfl ?_
                  refine g_gf hY (gS_X hI7) eL_areApart_173 (v := .ref (A 13)) rfl ?_
                  refine z_const hY eL_areApart_176 ?_
                  refine z_iload hY eL_areApart_178 3 rfl ?_
                  refine z_imul hY eL_areApart_179 ?_
                  refine z_iload hY eL_areApart_180 6 rfl ?_
                  refine z_iadd hY eL_areApart_182 ?_
                  refine g_ial hY (gS_X hI7) eL_areApart_183 (j := 13) (N := 1200) (x := yPi ρ r e) (by decide) rfl (by omega) (w_pi hI7 hkk (by omega)) ?_
                  refine z_iload hY eL_areApart_184 0 rfl ?_
                  refine z_isub hY eL_areApart_186 ?_
                  refine z_iload hY eL_areApart_187 8 rfl ?_
                  refine z_icmple hY eL_areApart_189 (by omega) (fun c189 => ?_) (fun c189 => ?_)
                  · refine z_const hY eL_areApart_212 ?_
                    refine z_istore hY eL_areApart_213 (ls' := [(10, z_i 0), (9, z_i (yPi ρ (-1) e)), (8, z_i (yPi ρ q e)), (0, .ref (A 40)), (1, z_i r), (2, z_i q), (3, z_i (my ρ)), (7, z_i e), (4, z_i p), (5, z_i c), (6, z_i a)]) rfl ?_
                    have hcl2 : aC ρ r (e + 1) c a := aC_s hcl (fun z => by rcases hyq with w9 | w9; (have w8 := (gS_R hI7).xpl (gS_M hI7) w9.1; first | exact Or.inr ⟨by omega, by omega⟩ | (exfalso; omega)); (exact absurd z (w9 (by omega)).1))
                    have hcb2 : -40 ≤ c ∧ c ≤ 40 := by omega
                    refine z_sub [3, 4, 5, 6, 7, 2, 1, 9, 10, 0, 8] (ls' := [(0, .ref (A 40)), (1, z_i r), (2, z_i q), (3, z_i (my ρ)), (7, z_i e), (8, z_i (yPi ρ q e)), (9, z_i (yPi ρ (-1) e)), (5, z_i c), (6, z_i a), (10, z_i 0), (4, z_i p)]) rfl ?_
                    have lp215 : ∀ (fu : Nat) (f : Int) (p2 : Int), (e - f).toNat < fu → (0 ≤ f ∧ f ≤ e) → (p2 = p + z_sm (fun f => if yAq ρ r q e f then (1 : Int) else 0) f) → (p ≤ p2 ∧ p2 ≤ p + f) → z_W Y 215 [(0, .ref (A 40)), (1, z_i r), (2, z_i q), (3, z_i (my ρ)), (7, z_i e), (8, z_i (yPi ρ q e)), (9, z_i (yPi ρ (-1) e)), (5, z_i c), (6, z_i a), (10, z_i f), (4, z_i p2)] [] (gH D B κ A σ7 h) (2 * e.toNat + 2) (12 * e.toNat + 12) := by
                      intro fu
                      induction fu with
                      | zero => intro f p2 hf; exact absurd hf (Nat.not_lt_zero _)
                      | succ fu ih215 =>
                        intro f p2 hf hf hp2 hpb2
                        refine z_iload hY eL_areApart_215 9 rfl ?_
                        refine z_iload hY eL_areApart_217 4 rfl ?_
                        refine z_icmpge hY eL_areApart_219 (by omega) (fun c219 => ?_) (fun c219 => ?_)
                        · refine z_iinc hY eL_areApart_334 4 rfl (ls' := [(7, z_i (e + 1)), (0, .ref (A 40)), (1, z_i r), (2, z_i q), (3, z_i (my ρ)), (8, z_i (yPi ρ q e)), (9, z_i (yPi ρ (-1) e)), (5, z_i c), (6, z_i a), (10, z_i f), (4, z_i p2)]) rfl ?_
                          refine z_goto hY eL_areApart_337 ?_
                          refine z_sub [1, 2, 3, 4, 0, 10, 7, 8] (ls' := [(0, .ref (A 40)), (1, z_i r), (2, z_i q), (3, z_i (my ρ)), (7, z_i (e + 1)), (4, z_i p2), (5, z_i c), (6, z_i a)]) rfl ?_
                          refine z_widen (k' := (2 * (e + 1).toNat)) (n' := (12 * (e + 1).toNat)) (by omega) (by omega) ?_
                          exact ih90 (e + 1) p2 c a (by omega) (by omega) (by rw [z_smS (by omega), ← hp]; unfold aF; first | (rw [show e = f by omega]; rw [show e = f by omega] at hp2; omega) | (rw [aF_0 (Or.inr (by omega))]; rw [aF_0 (Or.inr (by omega))] at hp2; omega)) hcl2 (by omega) (by omega)
                        · refine z_iload hY eL_areApart_222 5 rfl ?_
                          refine z_const hY eL_areApart_224 ?_
                          refine z_icmpeq hY eL_areApart_225 (by omega) (fun c225 => ?_) (fun c225 => ?_)
                          · refine z_iinc hY eL_areApart_334 4 rfl (ls' := [(7, z_i (e + 1)), (0, .ref (A 40)), (1, z_i r), (2, z_i q), (3, z_i (my ρ)), (8, z_i (yPi ρ q e)), (9, z_i (yPi ρ (-1) e)), (5, z_i c), (6, z_i a), (10, z_i f), (4, z_i p2)]) rfl ?_
                            refine z_goto hY eL_areApart_337 ?_
                            refine z_sub [1, 2, 3, 4, 0, 10, 7, 8] (ls' := [(0, .ref (A 40)), (1, z_i r), (2, z_i q), (3, z_i (my ρ)), (7, z_i (e + 1)), (4, z_i p2), (5, z_i c), (6, z_i a)]) rfl ?_
                            refine z_widen (k' := (2 * (e + 1).toNat)) (n' := (12 * (e + 1).toNat)) (by omega) (by omega) ?_
                            exact ih90 (e + 1) p2 c a (by omega) (by omega) (by rw [z_smS (by omega), ← hp]; unfold aF; first | (rw [show e = f by omega]; rw [show e = f by omega] at hp2; omega) | (rw [aF_0 (Or.inr (by omega))]; rw [aF_0 (Or.inr (by omega))] at hp2; omega)) hcl2 (by omega) (by omega)
                          · have hyf := yPi_r hI7 (r := r) (e := f) (by omega) (Or.inr hkk)
                            refine z_aload hY eL_areApart_228 0 rfl ?_
                            refine z_iload hY eL_areApart_229 2 rfl ?_
                            refine z_iload hY eL_areApart_230 9 rfl ?_
                            refine z_callVr (As := [z_i q, z_i f]) (rest := []) (r := z_i (yPi ρ q f)) hY eL_areApart_232 (la_placeThen hG hI7 hrow7 (r := q) (e := f) (by omega) (by omega)) ((gH_at (gS_X hI7) (by decide)).trans (congrArg some lC_40)) (by decide) (Nat.le_of_ble_eq_true rfl) (by rw [hmc, hms]; omega) ?_
                            have hyb23 := yPi_r hI7 (r := q) (e := f) (by omega) (by first | exact Or.inl rfl | exact hkq | exact Or.inr hkk)
                            refine z_istore hY eL_areApart_235 (ls' := [(11, z_i (yPi ρ q f)), (0, .ref (A 40)), (1, z_i r), (2, z_i q), (3, z_i (my ρ)), (7, z_i e), (8, z_i (yPi ρ q e)), (9, z_i (yPi ρ (-1) e)), (5, z_i c), (6, z_i a), (10, z_i f), (4, z_i p2)]) rfl ?_
                            refine z_iload hY eL_areApart_237 0 rfl ?_
                            refine z_const hY eL_areApart_239 ?_
                            refine z_icmpeq hY eL_areApart_240 (by omega) (fun c240 => ?_) (fun c240 => ?_)
                            · refine z_const hY eL_areApart_263 ?_
                              refine z_istore hY eL_areApart_264 (ls' := [(12, z_i 0), (11, z_i (yPi ρ q f)), (0, .ref (A 40)), (1, z_i r), (2, z_i q), (3, z_i (my ρ)), (7, z_i e), (8, z_i (yPi ρ q e)), (9, z_i (yPi ρ (-1) e)), (5, z_i c), (6, z_i a), (10, z_i f), (4, z_i p2)]) rfl ?_
                              refine z_iload hY eL_areApart_266 12 rfl ?_
                              refine z_iload hY eL_areApart_268 0 rfl ?_
                              refine z_ifeq hY eL_areApart_270 (by omega) (fun _ => ?_) (fun c => absurd c (by omega))
                              refine z_const hY eL_areApart_324 ?_
                              refine z_iadd hY eL_areApart_325 ?_
                              refine z_top (b := p2) (by omega) ?_
                              have hq1 : (if yAq ρ r q e f then (1 : Int) else 0) = 0 := by first | exact if_pos (by unfold yAq; omega) | exact if_neg (by unfold yAq; omega)
                              refine z_istore hY eL_areApart_326 (ls' := [(4, z_i p2), (12, z_i 0), (11, z_i (yPi ρ q f)), (0, .ref (A 40)), (1, z_i r), (2, z_i q), (3, z_i (my ρ)), (7, z_i e), (8, z_i (yPi ρ q e)), (9, z_i (yPi ρ (-1) e)), (5, z_i c), (6, z_i a), (10, z_i f)]) rfl ?_
                              refine z_iinc hY eL_areApart_328 12 rfl (ls' := [(10, z_i (f + 1)), (4, z_i p2), (12, z_i 0), (11, z_i (yPi ρ q f)), (0, .ref (A 40)), (1, z_i r), (2, z_i q), (3, z_i (my ρ)), (7, z_i e), (8, z_i (yPi ρ q e)), (9, z_i (yPi ρ (-1) e)), (5, z_i c), (6, z_i a)]) rfl ?_
                              refine z_goto hY eL_areApart_331 ?_
                              refine z_sub [4, 5, 6, 7, 8, 9, 10, 11, 12, 0, 1] (ls' := [(0, .ref (A 40)), (1, z_i r), (2, z_i q), (3, z_i (my ρ)), (7, z_i e), (8, z_i (yPi ρ q e)), (9, z_i (yPi ρ (-1) e)), (5, z_i c), (6, z_i a), (10, z_i (f + 1)), (4, z_i p2)]) rfl ?_
                              exact ih215 (f + 1) p2 (by omega) (by omega) (by rw [z_smS (by omega), hq1]; omega) (by omega)
                            · refine z_aload hY eL_areApart_243 1 rfl ?_
                              refine g_gf hY (gS_X hI7) eL_areApart_244 (v := .ref (A 13)) rfl ?_
                              refine z_const hY eL_areApart_247 ?_
                              refine z_iload hY eL_areApart_249 2 rfl ?_
                              refine z_imul hY eL_areApart_250 ?_
                              refine z_iload hY eL_areApart_251 10 rfl ?_
                              refine z_iadd hY eL_areApart_253 ?_
                              refine g_ial hY (gS_X hI7) eL_areApart_254 (j := 13) (N := 1200) (x := yPi ρ r f) (by decide) rfl (by omega) (w_pi hI7 hkk (by omega)) ?_
                              refine z_const hY eL_areApart_255 ?_
                              refine z_icmpeq hY eL_areApart_256 (by omega) (fun c256 => ?_) (fun c256 => ?_)
                              · refine z_const hY eL_areApart_263 ?_
                                refine z_istore hY eL_areApart_264 (ls' := [(12, z_i 0), (11, z_i (yPi ρ q f)), (0, .ref (A 40)), (1, z_i r), (2, z_i q), (3, z_i (my ρ)), (7, z_i e), (8, z_i (yPi ρ q e)), (9, z_i (yPi ρ (-1) e)), (5, z_i c), (6, z_i a), (10, z_i f), (4, z_i p2)]) rfl ?_
                                refine z_iload hY eL_areApart_266 12 rfl ?_
                                refine z_iload hY eL_areApart_268 0 rfl ?_
                                refine z_ifeq hY eL_areApart_270 (by omega) (fun _ => ?_) (fun c => absurd c (by omega))
                                refine z_const hY eL_areApart_324 ?_
                                refine z_iadd hY eL_areApart_325 ?_
                                refine z_top (b := p2) (by omega) ?_
                                have hq1 : (if yAq ρ r q e f then (1 : Int) else 0) = 0 := by first | exact if_pos (by unfold yAq; omega) | exact if_neg (by unfold yAq; omega)
                                refine z_istore hY eL_areApart_326 (ls' := [(4, z_i p2), (12, z_i 0), (11, z_i (yPi ρ q f)), (0, .ref (A 40)), (1, z_i r), (2, z_i q), (3, z_i (my ρ)), (7, z_i e), (8, z_i (yPi ρ q e)), (9, z_i (yPi ρ (-1) e)), (5, z_i c), (6, z_i a), (10, z_i f)]) rfl ?_
                                refine z_iinc hY eL_areApart_328 12 rfl (ls' := [(10, z_i (f + 1)), (4, z_i p2), (12, z_i 0), (11, z_i (yPi ρ q f)), (0, .ref (A 40)), (1, z_i r), (2, z_i q), (3, z_i (my ρ)), (7, z_i e), (8, z_i (yPi ρ q e)), (9, z_i (yPi ρ (-1) e)), (5, z_i c), (6, z_i a)]) rfl ?_
                                refine z_goto hY eL_areApart_331 ?_
                                refine z_sub [4, 5, 6, 7, 8, 9, 10, 11, 12, 0, 1] (ls' := [(0, .ref (A 40)), (1, z_i r), (2, z_i q), (3, z_i (my ρ)), (7, z_i e), (8, z_i (yPi ρ q e)), (9, z_i (yPi ρ (-1) e)), (5, z_i c), (6, z_i a), (10, z_i (f + 1)), (4, z_i p2)]) rfl ?_
                                exact ih215 (f + 1) p2 (by omega) (by omega) (by rw [z_smS (by omega), hq1]; omega) (by omega)
                              · refine z_const hY eL_areApart_259 ?_
                                refine z_goto hY eL_areApart_260 ?_
                                refine z_istore hY eL_areApart_264 (ls' := [(12, z_i 1), (11, z_i (yPi ρ q f)), (0, .ref (A 40)), (1, z_i r), (2, z_i q), (3, z_i (my ρ)), (7, z_i e), (8, z_i (yPi ρ q e)), (9, z_i (yPi ρ (-1) e)), (5, z_i c), (6, z_i a), (10, z_i f), (4, z_i p2)]) rfl ?_
                                refine z_iload hY eL_areApart_266 12 rfl ?_
                                refine z_iload hY eL_areApart_268 0 rfl ?_
                                refine z_ifeq hY eL_areApart_270 (by omega) (fun c => absurd c (by omega)) (fun _ => ?_)
                                refine z_aload hY eL_areApart_273 2 rfl ?_
                                refine g_gf hY (gS_X hI7) eL_areApart_274 (v := .ref (A 13)) rfl ?_
                                refine z_const hY eL_areApart_277 ?_
                                refine z_iload hY eL_areApart_279 3 rfl ?_
                                refine z_imul hY eL_areApart_280 ?_
                                refine z_iload hY eL_areApart_281 6 rfl ?_
                                refine z_iadd hY eL_areApart_283 ?_
                                refine g_ial hY (gS_X hI7) eL_areApart_284 (j := 13) (N := 1200) (x := yPi ρ r e) (by decide) rfl (by omega) (w_pi hI7 hkk (by omega)) ?_
                                refine z_aload hY eL_areApart_285 2 rfl ?_
                                refine g_gf hY (gS_X hI7) eL_areApart_286 (v := .ref (A 13)) rfl ?_
                                refine z_const hY eL_areApart_289 ?_
                                refine z_iload hY eL_areApart_291 3 rfl ?_
                                refine z_imul hY eL_areApart_292 ?_
                                refine z_iload hY eL_areApart_293 11 rfl ?_
                                refine z_iadd hY eL_areApart_295 ?_
                                refine g_ial hY (gS_X hI7) eL_areApart_296 (j := 13) (N := 1200) (x := yPi ρ r f) (by decide) rfl (by omega) (w_pi hI7 hkk (by omega)) ?_
                                refine z_icmpge hY eL_areApart_297 (by omega) (fun c297 => ?_) (fun c297 => ?_)
                                · refine z_const hY eL_areApart_304 ?_
                                  refine z_iload hY eL_areApart_305 7 rfl ?_
                                  refine z_iload hY eL_areApart_307 1 rfl ?_
                                  refine z_icmpge hY eL_areApart_309 (by omega) (fun c309 => ?_) (fun c309 => ?_)
                                  · refine z_const hY eL_areApart_316 ?_
                                    refine z_icmpeq hY eL_areApart_317 (by omega) (fun _ => ?_) (fun c => absurd c (by omega))
                                    refine z_const hY eL_areApart_324 ?_
                                    refine z_iadd hY eL_areApart_325 ?_
                                    refine z_top (b := p2) (by omega) ?_
                                    have hq1 : (if yAq ρ r q e f then (1 : Int) else 0) = 0 := by first | exact if_pos (by unfold yAq; omega) | exact if_neg (by unfold yAq; omega)
                                    refine z_istore hY eL_areApart_326 (ls' := [(4, z_i p2), (12, z_i 1), (11, z_i (yPi ρ q f)), (0, .ref (A 40)), (1, z_i r), (2, z_i q), (3, z_i (my ρ)), (7, z_i e), (8, z_i (yPi ρ q e)), (9, z_i (yPi ρ (-1) e)), (5, z_i c), (6, z_i a), (10, z_i f)]) rfl ?_
                                    refine z_iinc hY eL_areApart_328 12 rfl (ls' := [(10, z_i (f + 1)), (4, z_i p2), (12, z_i 1), (11, z_i (yPi ρ q f)), (0, .ref (A 40)), (1, z_i r), (2, z_i q), (3, z_i (my ρ)), (7, z_i e), (8, z_i (yPi ρ q e)), (9, z_i (yPi ρ (-1) e)), (5, z_i c), (6, z_i a)]) rfl ?_
                                    refine z_goto hY eL_areApart_331 ?_
                                    refine z_sub [4, 5, 6, 7, 8, 9, 10, 11, 12, 0, 1] (ls' := [(0, .ref (A 40)), (1, z_i r), (2, z_i q), (3, z_i (my ρ)), (7, z_i e), (8, z_i (yPi ρ q e)), (9, z_i (yPi ρ (-1) e)), (5, z_i c), (6, z_i a), (10, z_i (f + 1)), (4, z_i p2)]) rfl ?_
                                    exact ih215 (f + 1) p2 (by omega) (by omega) (by rw [z_smS (by omega), hq1]; omega) (by omega)
                                  · refine z_const hY eL_areApart_312 ?_
                                    refine z_goto hY eL_areApart_313 ?_
                                    refine z_icmpeq hY eL_areApart_317 (by omega) (fun c => absurd c (by omega)) (fun _ => ?_)
                                    refine z_const hY eL_areApart_320 ?_
                                    refine z_goto hY eL_areApart_321 ?_
                                    refine z_iadd hY eL_areApart_325 ?_
                                    have hq1 : (if yAq ρ r q e f then (1 : Int) else 0) = 1 := by first | exact if_pos (by unfold yAq; omega) | exact if_neg (by unfold yAq; omega)
                                    refine z_istore hY eL_areApart_326 (ls' := [(4, z_i (p2 + 1)), (12, z_i 1), (11, z_i (yPi ρ q f)), (0, .ref (A 40)), (1, z_i r), (2, z_i q), (3, z_i (my ρ)), (7, z_i e), (8, z_i (yPi ρ q e)), (9, z_i (yPi ρ (-1) e)), (5, z_i c), (6, z_i a), (10, z_i f)]) rfl ?_
                                    refine z_iinc hY eL_areApart_328 12 rfl (ls' := [(10, z_i (f + 1)), (4, z_i (p2 + 1)), (12, z_i 1), (11, z_i (yPi ρ q f)), (0, .ref (A 40)), (1, z_i r), (2, z_i q), (3, z_i (my ρ)), (7, z_i e), (8, z_i (yPi ρ q e)), (9, z_i (yPi ρ (-1) e)), (5, z_i c), (6, z_i a)]) rfl ?_
                                    refine z_goto hY eL_areApart_331 ?_
                                    refine z_sub [4, 5, 6, 7, 8, 9, 10, 11, 12, 0, 1] (ls' := [(0, .ref (A 40)), (1, z_i r), (2, z_i q), (3, z_i (my ρ)), (7, z_i e), (8, z_i (yPi ρ q e)), (9, z_i (yPi ρ (-1) e)), (5, z_i c), (6, z_i a), (10, z_i (f + 1)), (4, z_i (p2 + 1))]) rfl ?_
                                    exact ih215 (f + 1) (p2 + 1) (by omega) (by omega) (by rw [z_smS (by omega), hq1]; omega) (by omega)
                                · refine z_const hY eL_areApart_300 ?_
                                  refine z_goto hY eL_areApart_301 ?_
                                  refine z_iload hY eL_areApart_305 7 rfl ?_
                                  refine z_iload hY eL_areApart_307 1 rfl ?_
                                  refine z_icmpge hY eL_areApart_309 (by omega) (fun c309 => ?_) (fun c309 => ?_)
                                  · refine z_const hY eL_areApart_316 ?_
                                    refine z_icmpeq hY eL_areApart_317 (by omega) (fun c => absurd c (by omega)) (fun _ => ?_)
                                    refine z_const hY eL_areApart_320 ?_
                                    refine z_goto hY eL_areApart_321 ?_
                                    refine z_iadd hY eL_areApart_325 ?_
                                    have hq1 : (if yAq ρ r q e f then (1 : Int) else 0) = 1 := by first | exact if_pos (by unfold yAq; omega) | exact if_neg (by unfold yAq; omega)
                                    refine z_istore hY eL_areApart_326 (ls' := [(4, z_i (p2 + 1)), (12, z_i 1), (11, z_i (yPi ρ q f)), (0, .ref (A 40)), (1, z_i r), (2, z_i q), (3, z_i (my ρ)), (7, z_i e), (8, z_i (yPi ρ q e)), (9, z_i (yPi ρ (-1) e)), (5, z_i c), (6, z_i a), (10, z_i f)]) rfl ?_
                                    refine z_iinc hY eL_areApart_328 12 rfl (ls' := [(10, z_i (f + 1)), (4, z_i (p2 + 1)), (12, z_i 1), (11, z_i (yPi ρ q f)), (0, .ref (A 40)), (1, z_i r), (2, z_i q), (3, z_i (my ρ)), (7, z_i e), (8, z_i (yPi ρ q e)), (9, z_i (yPi ρ (-1) e)), (5, z_i c), (6, z_i a)]) rfl ?_
                                    refine z_goto hY eL_areApart_331 ?_
                                    refine z_sub [4, 5, 6, 7, 8, 9, 10, 11, 12, 0, 1] (ls' := [(0, .ref (A 40)), (1, z_i r), (2, z_i q), (3, z_i (my ρ)), (7, z_i e), (8, z_i (yPi ρ q e)), (9, z_i (yPi ρ (-1) e)), (5, z_i c), (6, z_i a), (10, z_i (f + 1)), (4, z_i (p2 + 1))]) rfl ?_
                                    exact ih215 (f + 1) (p2 + 1) (by omega) (by omega) (by rw [z_smS (by omega), hq1]; omega) (by omega)
                                  · refine z_const hY eL_areApart_312 ?_
                                    refine z_goto hY eL_areApart_313 ?_
                                    refine z_icmpeq hY eL_areApart_317 (by omega) (fun _ => ?_) (fun c => absurd c (by omega))
                                    refine z_const hY eL_areApart_324 ?_
                                    refine z_iadd hY eL_areApart_325 ?_
                                    refine z_top (b := p2) (by omega) ?_
                                    have hq1 : (if yAq ρ r q e f then (1 : Int) else 0) = 0 := by first | exact if_pos (by unfold yAq; omega) | exact if_neg (by unfold yAq; omega)
                                    refine z_istore hY eL_areApart_326 (ls' := [(4, z_i p2), (12, z_i 1), (11, z_i (yPi ρ q f)), (0, .ref (A 40)), (1, z_i r), (2, z_i q), (3, z_i (my ρ)), (7, z_i e), (8, z_i (yPi ρ q e)), (9, z_i (yPi ρ (-1) e)), (5, z_i c), (6, z_i a), (10, z_i f)]) rfl ?_
                                    refine z_iinc hY eL_areApart_328 12 rfl (ls' := [(10, z_i (f + 1)), (4, z_i p2), (12, z_i 1), (11, z_i (yPi ρ q f)), (0, .ref (A 40)), (1, z_i r), (2, z_i q), (3, z_i (my ρ)), (7, z_i e), (8, z_i (yPi ρ q e)), (9, z_i (yPi ρ (-1) e)), (5, z_i c), (6, z_i a)]) rfl ?_
                                    refine z_goto hY eL_areApart_331 ?_
                                    refine z_sub [4, 5, 6, 7, 8, 9, 10, 11, 12, 0, 1] (ls' := [(0, .ref (A 40)), (1, z_i r), (2, z_i q), (3, z_i (my ρ)), (7, z_i e), (8, z_i (yPi ρ q e)), (9, z_i (yPi ρ (-1) e)), (5, z_i c), (6, z_i a), (10, z_i (f + 1)), (4, z_i p2)]) rfl ?_
                                    exact ih215 (f + 1) p2 (by omega) (by omega) (by rw [z_smS (by omega), hq1]; omega) (by omega)
                    exact lp215 _ 0 p (Nat.lt_succ_self _) (by omega) (by rw [z_sm0 (by omega)]; omega) (by omega)
                  · refine z_aload hY eL_areApart_192 2 rfl ?_
                    refine g_gf hY (gS_X hI7) eL_areApart_193 (v := .ref (A 13)) rfl ?_
                    refine z_const hY eL_areApart_196 ?_
                    refine z_iload hY eL_areApart_198 3 rfl ?_
                    refine z_imul hY eL_areApart_199 ?_
                    refine z_iload hY eL_areApart_200 6 rfl ?_
                    refine z_iadd hY eL_areApart_202 ?_
                    refine g_ial hY (gS_X hI7) eL_areApart_203 (j := 13) (N := 1200) (x := yPi ρ r e) (by decide) rfl (by omega) (w_pi hI7 hkk (by omega)) ?_
                    refine z_iload hY eL_areApart_204 0 rfl ?_
                    refine z_isub hY eL_areApart_206 ?_
                    refine z_istore hY eL_areApart_207 (ls' := [(5, z_i ((yPi ρ r e) - (yPi ρ (-1) e))), (9, z_i (yPi ρ (-1) e)), (8, z_i (yPi ρ q e)), (0, .ref (A 40)), (1, z_i r), (2, z_i q), (3, z_i (my ρ)), (7, z_i e), (4, z_i p), (6, z_i a)]) rfl ?_
                    refine z_const hY eL_areApart_209 ?_
                    refine z_istore hY eL_areApart_210 (ls' := [(6, z_i 1), (5, z_i ((yPi ρ r e) - (yPi ρ (-1) e))), (9, z_i (yPi ρ (-1) e)), (8, z_i (yPi ρ q e)), (0, .ref (A 40)), (1, z_i r), (2, z_i q), (3, z_i (my ρ)), (7, z_i e), (4, z_i p)]) rfl ?_
                    refine z_const hY eL_areApart_212 ?_
                    refine z_istore hY eL_areApart_213 (ls' := [(10, z_i 0), (6, z_i 1), (5, z_i ((yPi ρ r e) - (yPi ρ (-1) e))), (9, z_i (yPi ρ (-1) e)), (8, z_i (yPi ρ q e)), (0, .ref (A 40)), (1, z_i r), (2, z_i q), (3, z_i (my ρ)), (7, z_i e), (4, z_i p)]) rfl ?_
                    have hcl2 : aC ρ r (e + 1) ((yPi ρ r e) - (yPi ρ (-1) e)) 1 := (by rcases hyq with w9 | w9; (rw [w9.2]; exact aC_n hcl w9.1 (by omega) (by omega)); (have w8 := w9 (by omega); omega))
                    have hcb2 : -40 ≤ ((yPi ρ r e) - (yPi ρ (-1) e)) ∧ ((yPi ρ r e) - (yPi ρ (-1) e)) ≤ 40 := by omega
                    refine z_sub [5, 6, 7, 8, 9, 4, 3, 2, 1, 0, 10] (ls' := [(0, .ref (A 40)), (1, z_i r), (2, z_i q), (3, z_i (my ρ)), (7, z_i e), (8, z_i (yPi ρ q e)), (9, z_i (yPi ρ (-1) e)), (5, z_i ((yPi ρ r e) - (yPi ρ (-1) e))), (6, z_i 1), (10, z_i 0), (4, z_i p)]) rfl ?_
                    have lp215 : ∀ (fu : Nat) (f : Int) (p2 : Int), (e - f).toNat < fu → (0 ≤ f ∧ f ≤ e) → (p2 = p + z_sm (fun f => if yAq ρ r q e f then (1 : Int) else 0) f) → (p ≤ p2 ∧ p2 ≤ p + f) → z_W Y 215 [(0, .ref (A 40)), (1, z_i r), (2, z_i q), (3, z_i (my ρ)), (7, z_i e), (8, z_i (yPi ρ q e)), (9, z_i (yPi ρ (-1) e)), (5, z_i ((yPi ρ r e) - (yPi ρ (-1) e))), (6, z_i 1), (10, z_i f), (4, z_i p2)] [] (gH D B κ A σ7 h) (2 * e.toNat + 2) (12 * e.toNat + 12) := by
                      intro fu
                      induction fu with
                      | zero => intro f p2 hf; exact absurd hf (Nat.not_lt_zero _)
                      | succ fu ih215 =>
                        intro f p2 hf hf hp2 hpb2
                        refine z_iload hY eL_areApart_215 9 rfl ?_
                        refine z_iload hY eL_areApart_217 4 rfl ?_
                        refine z_icmpge hY eL_areApart_219 (by omega) (fun c219 => ?_) (fun c219 => ?_)
                        · refine z_iinc hY eL_areApart_334 4 rfl (ls' := [(7, z_i (e + 1)), (0, .ref (A 40)), (1, z_i r), (2, z_i q), (3, z_i (my ρ)), (8, z_i (yPi ρ q e)), (9, z_i (yPi ρ (-1) e)), (5, z_i ((yPi ρ r e) - (yPi ρ (-1) e))), (6, z_i 1), (10, z_i f), (4, z_i p2)]) rfl ?_
                          refine z_goto hY eL_areApart_337 ?_
                          refine z_sub [1, 2, 3, 4, 0, 10, 7, 8] (ls' := [(0, .ref (A 40)), (1, z_i r), (2, z_i q), (3, z_i (my ρ)), (7, z_i (e + 1)), (4, z_i p2), (5, z_i ((yPi ρ r e) - (yPi ρ (-1) e))), (6, z_i 1)]) rfl ?_
                          refine z_widen (k' := (2 * (e + 1).toNat)) (n' := (12 * (e + 1).toNat)) (by omega) (by omega) ?_
                          exact ih90 (e + 1) p2 ((yPi ρ r e) - (yPi ρ (-1) e)) 1 (by omega) (by omega) (by rw [z_smS (by omega), ← hp]; unfold aF; first | (rw [show e = f by omega]; rw [show e = f by omega] at hp2; omega) | (rw [aF_0 (Or.inr (by omega))]; rw [aF_0 (Or.inr (by omega))] at hp2; omega)) hcl2 (by omega) (by omega)
                        · refine z_iload hY eL_areApart_222 5 rfl ?_
                          refine z_const hY eL_areApart_224 ?_
                          refine z_icmpeq hY eL_areApart_225 (by omega) (fun c225 => ?_) (fun c225 => ?_)
                          · refine z_iinc hY eL_areApart_334 4 rfl (ls' := [(7, z_i (e + 1)), (0, .ref (A 40)), (1, z_i r), (2, z_i q), (3, z_i (my ρ)), (8, z_i (yPi ρ q e)), (9, z_i (yPi ρ (-1) e)), (5, z_i ((yPi ρ r e) - (yPi ρ (-1) e))), (6, z_i 1), (10, z_i f), (4, z_i p2)]) rfl ?_
                            refine z_goto hY eL_areApart_337 ?_
                            refine z_sub [1, 2, 3, 4, 0, 10, 7, 8] (ls' := [(0, .ref (A 40)), (1, z_i r), (2, z_i q), (3, z_i (my ρ)), (7, z_i (e + 1)), (4, z_i p2), (5, z_i ((yPi ρ r e) - (yPi ρ (-1) e))), (6, z_i 1)]) rfl ?_
                            refine z_widen (k' := (2 * (e + 1).toNat)) (n' := (12 * (e + 1).toNat)) (by omega) (by omega) ?_
                            exact ih90 (e + 1) p2 ((yPi ρ r e) - (yPi ρ (-1) e)) 1 (by omega) (by omega) (by rw [z_smS (by omega), ← hp]; unfold aF; first | (rw [show e = f by omega]; rw [show e = f by omega] at hp2; omega) | (rw [aF_0 (Or.inr (by omega))]; rw [aF_0 (Or.inr (by omega))] at hp2; omega)) hcl2 (by omega) (by omega)
                          · have hyf := yPi_r hI7 (r := r) (e := f) (by omega) (Or.inr hkk)
                            refine z_aload hY eL_areApart_228 0 rfl ?_
                            refine z_iload hY eL_areApart_229 2 rfl ?_
                            refine z_iload hY eL_areApart_230 9 rfl ?_
                            refine z_callVr (As := [z_i q, z_i f]) (rest := []) (r := z_i (yPi ρ q f)) hY eL_areApart_232 (la_placeThen hG hI7 hrow7 (r := q) (e := f) (by omega) (by omega)) ((gH_at (gS_X hI7) (by decide)).trans (congrArg some lC_40)) (by decide) (Nat.le_of_ble_eq_true rfl) (by rw [hmc, hms]; omega) ?_
                            have hyb24 := yPi_r hI7 (r := q) (e := f) (by omega) (by first | exact Or.inl rfl | exact hkq | exact Or.inr hkk)
                            refine z_istore hY eL_areApart_235 (ls' := [(11, z_i (yPi ρ q f)), (0, .ref (A 40)), (1, z_i r), (2, z_i q), (3, z_i (my ρ)), (7, z_i e), (8, z_i (yPi ρ q e)), (9, z_i (yPi ρ (-1) e)), (5, z_i ((yPi ρ r e) - (yPi ρ (-1) e))), (6, z_i 1), (10, z_i f), (4, z_i p2)]) rfl ?_
                            refine z_iload hY eL_areApart_237 0 rfl ?_
                            refine z_const hY eL_areApart_239 ?_
                            refine z_icmpeq hY eL_areApart_240 (by omega) (fun c240 => ?_) (fun c240 => ?_)
                            · refine z_const hY eL_areApart_263 ?_
                              refine z_istore hY eL_areApart_264 (ls' := [(12, z_i 0), (11, z_i (yPi ρ q f)), (0, .ref (A 40)), (1, z_i r), (2, z_i q), (3, z_i (my ρ)), (7, z_i e), (8, z_i (yPi ρ q e)), (9, z_i (yPi ρ (-1) e)), (5, z_i ((yPi ρ r e) - (yPi ρ (-1) e))), (6, z_i 1), (10, z_i f), (4, z_i p2)]) rfl ?_
                              refine z_iload hY eL_areApart_266 12 rfl ?_
                              refine z_iload hY eL_areApart_268 0 rfl ?_
                              refine z_ifeq hY eL_areApart_270 (by omega) (fun _ => ?_) (fun c => absurd c (by omega))
                              refine z_const hY eL_areApart_324 ?_
                              refine z_iadd hY eL_areApart_325 ?_
                              refine z_top (b := p2) (by omega) ?_
                              have hq1 : (if yAq ρ r q e f then (1 : Int) else 0) = 0 := by first | exact if_pos (by unfold yAq; omega) | exact if_neg (by unfold yAq; omega)
                              refine z_istore hY eL_areApart_326 (ls' := [(4, z_i p2), (12, z_i 0), (11, z_i (yPi ρ q f)), (0, .ref (A 40)), (1, z_i r), (2, z_i q), (3, z_i (my ρ)), (7, z_i e), (8, z_i (yPi ρ q e)), (9, z_i (yPi ρ (-1) e)), (5, z_i ((yPi ρ r e) - (yPi ρ (-1) e))), (6, z_i 1), (10, z_i f)]) rfl ?_
                              refine z_iinc hY eL_areApart_328 12 rfl (ls' := [(10, z_i (f + 1)), (4, z_i p2), (12, z_i 0), (11, z_i (yPi ρ q f)), (0, .ref (A 40)), (1, z_i r), (2, z_i q), (3, z_i (my ρ)), (7, z_i e), (8, z_i (yPi ρ q e)), (9, z_i (yPi ρ (-1) e)), (5, z_i ((yPi ρ r e) - (yPi ρ (-1) e))), (6, z_i 1)]) rfl ?_
                              refine z_goto hY eL_areApart_331 ?_
                              refine z_sub [4, 5, 6, 7, 8, 9, 10, 11, 12, 0, 1] (ls' := [(0, .ref (A 40)), (1, z_i r), (2, z_i q), (3, z_i (my ρ)), (7, z_i e), (8, z_i (yPi ρ q e)), (9, z_i (yPi ρ (-1) e)), (5, z_i ((yPi ρ r e) - (yPi ρ (-1) e))), (6, z_i 1), (10, z_i (f + 1)), (4, z_i p2)]) rfl ?_
                              exact ih215 (f + 1) p2 (by omega) (by omega) (by rw [z_smS (by omega), hq1]; omega) (by omega)
                            · refine z_aload hY eL_areApart_243 1 rfl ?_
                              refine g_gf hY (gS_X hI7) eL_areApart_244 (v := .ref (A 13)) rfl ?_
                              refine z_const hY eL_areApart_247 ?_
                              refine z_iload hY eL_areApart_249 2 rfl ?_
                              refine z_imul hY eL_areApart_250 ?_
                              refine z_iload hY eL_areApart_251 10 rfl ?_
                              refine z_iadd hY eL_areApart_253 ?_
                              refine g_ial hY (gS_X hI7) eL_areApart_254 (j := 13) (N := 1200) (x := yPi ρ r f) (by decide) rfl (by omega) (w_pi hI7 hkk (by omega)) ?_
                              refine z_const hY eL_areApart_255 ?_
                              refine z_icmpeq hY eL_areApart_256 (by omega) (fun c256 => ?_) (fun c256 => ?_)
                              · refine z_const hY eL_areApart_263 ?_
                                refine z_istore hY eL_areApart_264 (ls' := [(12, z_i 0), (11, z_i (yPi ρ q f)), (0, .ref (A 40)), (1, z_i r), (2, z_i q), (3, z_i (my ρ)), (7, z_i e), (8, z_i (yPi ρ q e)), (9, z_i (yPi ρ (-1) e)), (5, z_i ((yPi ρ r e) - (yPi ρ (-1) e))), (6, z_i 1), (10, z_i f), (4, z_i p2)]) rfl ?_
                                refine z_iload hY eL_areApart_266 12 rfl ?_
                                refine z_iload hY eL_areApart_268 0 rfl ?_
                                refine z_ifeq hY eL_areApart_270 (by omega) (fun _ => ?_) (fun c => absurd c (by omega))
                                refine z_const hY eL_areApart_324 ?_
                                refine z_iadd hY eL_areApart_325 ?_
                                refine z_top (b := p2) (by omega) ?_
                                have hq1 : (if yAq ρ r q e f then (1 : Int) else 0) = 0 := by first | exact if_pos (by unfold yAq; omega) | exact if_neg (by unfold yAq; omega)
                                refine z_istore hY eL_areApart_326 (ls' := [(4, z_i p2), (12, z_i 0), (11, z_i (yPi ρ q f)), (0, .ref (A 40)), (1, z_i r), (2, z_i q), (3, z_i (my ρ)), (7, z_i e), (8, z_i (yPi ρ q e)), (9, z_i (yPi ρ (-1) e)), (5, z_i ((yPi ρ r e) - (yPi ρ (-1) e))), (6, z_i 1), (10, z_i f)]) rfl ?_
                                refine z_iinc hY eL_areApart_328 12 rfl (ls' := [(10, z_i (f + 1)), (4, z_i p2), (12, z_i 0), (11, z_i (yPi ρ q f)), (0, .ref (A 40)), (1, z_i r), (2, z_i q), (3, z_i (my ρ)), (7, z_i e), (8, z_i (yPi ρ q e)), (9, z_i (yPi ρ (-1) e)), (5, z_i ((yPi ρ r e) - (yPi ρ (-1) e))), (6, z_i 1)]) rfl ?_
                                refine z_goto hY eL_areApart_331 ?_
                                refine z_sub [4, 5, 6, 7, 8, 9, 10, 11, 12, 0, 1] (ls' := [(0, .ref (A 40)), (1, z_i r), (2, z_i q), (3, z_i (my ρ)), (7, z_i e), (8, z_i (yPi ρ q e)), (9, z_i (yPi ρ (-1) e)), (5, z_i ((yPi ρ r e) - (yPi ρ (-1) e))), (6, z_i 1), (10, z_i (f + 1)), (4, z_i p2)]) rfl ?_
                                exact ih215 (f + 1) p2 (by omega) (by omega) (by rw [z_smS (by omega), hq1]; omega) (by omega)
                              · refine z_const hY eL_areApart_259 ?_
                                refine z_goto hY eL_areApart_260 ?_
                                refine z_istore hY eL_areApart_264 (ls' := [(12, z_i 1), (11, z_i (yPi ρ q f)), (0, .ref (A 40)), (1, z_i r), (2, z_i q), (3, z_i (my ρ)), (7, z_i e), (8, z_i (yPi ρ q e)), (9, z_i (yPi ρ (-1) e)), (5, z_i ((yPi ρ r e) - (yPi ρ (-1) e))), (6, z_i 1), (10, z_i f), (4, z_i p2)]) rfl ?_
                                refine z_iload hY eL_areApart_266 12 rfl ?_
                                refine z_iload hY eL_areApart_268 0 rfl ?_
                                refine z_ifeq hY eL_areApart_270 (by omega) (fun c => absurd c (by omega)) (fun _ => ?_)
                                refine z_aload hY eL_areApart_273 2 rfl ?_
                                refine g_gf hY (gS_X hI7) eL_areApart_274 (v := .ref (A 13)) rfl ?_
                                refine z_const hY eL_areApart_277 ?_
                                refine z_iload hY eL_areApart_279 3 rfl ?_
                                refine z_imul hY eL_areApart_280 ?_
                                refine z_iload hY eL_areApart_281 6 rfl ?_
                                refine z_iadd hY eL_areApart_283 ?_
                                refine g_ial hY (gS_X hI7) eL_areApart_284 (j := 13) (N := 1200) (x := yPi ρ r e) (by decide) rfl (by omega) (w_pi hI7 hkk (by omega)) ?_
                                refine z_aload hY eL_areApart_285 2 rfl ?_
                                refine g_gf hY (gS_X hI7) eL_areApart_286 (v := .ref (A 13)) rfl ?_
                                refine z_const hY eL_areApart_289 ?_
                                refine z_iload hY eL_areApart_291 3 rfl ?_
                                refine z_imul hY eL_areApart_292 ?_
                                refine z_iload hY eL_areApart_293 11 rfl ?_
                                refine z_iadd hY eL_areApart_295 ?_
                                refine g_ial hY (gS_X hI7) eL_areApart_296 (j := 13) (N := 1200) (x := yPi ρ r f) (by decide) rfl (by omega) (w_pi hI7 hkk (by omega)) ?_
                                refine z_icmpge hY eL_areApart_297 (by omega) (fun c297 => ?_) (fun c297 => ?_)
                                · refine z_const hY eL_areApart_304 ?_
                                  refine z_iload hY eL_areApart_305 7 rfl ?_
                                  refine z_iload hY eL_areApart_307 1 rfl ?_
                                  refine z_icmpge hY eL_areApart_309 (by omega) (fun c309 => ?_) (fun c309 => ?_)
                                  · refine z_const hY eL_areApart_316 ?_
                                    refine z_icmpeq hY eL_areApart_317 (by omega) (fun _ => ?_) (fun c => absurd c (by omega))
                                    refine z_const hY eL_areApart_324 ?_
                                    refine z_iadd hY eL_areApart_325 ?_
                                    refine z_top (b := p2) (by omega) ?_
                                    have hq1 : (if yAq ρ r q e f then (1 : Int) else 0) = 0 := by first | exact if_pos (by unfold yAq; omega) | exact if_neg (by unfold yAq; omega)
                                    refine z_istore hY eL_areApart_326 (ls' := [(4, z_i p2), (12, z_i 1), (11, z_i (yPi ρ q f)), (0, .ref (A 40)), (1, z_i r), (2, z_i q), (3, z_i (my ρ)), (7, z_i e), (8, z_i (yPi ρ q e)), (9, z_i (yPi ρ (-1) e)), (5, z_i ((yPi ρ r e) - (yPi ρ (-1) e))), (6, z_i 1), (10, z_i f)]) rfl ?_
                                    refine z_iinc hY eL_areApart_328 12 rfl (ls' := [(10, z_i (f + 1)), (4, z_i p2), (12, z_i 1), (11, z_i (yPi ρ q f)), (0, .ref (A 40)), (1, z_i r), (2, z_i q), (3, z_i (my ρ)), (7, z_i e), (8, z_i (yPi ρ q e)), (9, z_i (yPi ρ (-1) e)), (5, z_i ((yPi ρ r e) - (yPi ρ (-1) e))), (6, z_i 1)]) rfl ?_
                                    refine z_goto hY eL_areApart_331 ?_
                                    refine z_sub [4, 5, 6, 7, 8, 9, 10, 11, 12, 0, 1] (ls' := [(0, .ref (A 40)), (1, z_i r), (2, z_i q), (3, z_i (my ρ)), (7, z_i e), (8, z_i (yPi ρ q e)), (9, z_i (yPi ρ (-1) e)), (5, z_i ((yPi ρ r e) - (yPi ρ (-1) e))), (6, z_i 1), (10, z_i (f + 1)), (4, z_i p2)]) rfl ?_
                                    exact ih215 (f + 1) p2 (by omega) (by omega) (by rw [z_smS (by omega), hq1]; omega) (by omega)
                                  · refine z_const hY eL_areApart_312 ?_
                                    refine z_goto hY eL_areApart_313 ?_
                                    refine z_icmpeq hY eL_areApart_317 (by omega) (fun c => absurd c (by omega)) (fun _ => ?_)
                                    refine z_const hY eL_areApart_320 ?_
                                    refine z_goto hY eL_areApart_321 ?_
                                    refine z_iadd hY eL_areApart_325 ?_
                                    have hq1 : (if yAq ρ r q e f then (1 : Int) else 0) = 1 := by first | exact if_pos (by unfold yAq; omega) | exact if_neg (by unfold yAq; omega)
                                    refine z_istore hY eL_areApart_326 (ls' := [(4, z_i (p2 + 1)), (12, z_i 1), (11, z_i (yPi ρ q f)), (0, .ref (A 40)), (1, z_i r), (2, z_i q), (3, z_i (my ρ)), (7, z_i e), (8, z_i (yPi ρ q e)), (9, z_i (yPi ρ (-1) e)), (5, z_i ((yPi ρ r e) - (yPi ρ (-1) e))), (6, z_i 1), (10, z_i f)]) rfl ?_
                                    refine z_iinc hY eL_areApart_328 12 rfl (ls' := [(10, z_i (f + 1)), (4, z_i (p2 + 1)), (12, z_i 1), (11, z_i (yPi ρ q f)), (0, .ref (A 40)), (1, z_i r), (2, z_i q), (3, z_i (my ρ)), (7, z_i e), (8, z_i (yPi ρ q e)), (9, z_i (yPi ρ (-1) e)), (5, z_i ((yPi ρ r e) - (yPi ρ (-1) e))), (6, z_i 1)]) rfl ?_
                                    refine z_goto hY eL_areApart_331 ?_
                                    refine z_sub [4, 5, 6, 7, 8, 9, 10, 11, 12, 0, 1] (ls' := [(0, .ref (A 40)), (1, z_i r), (2, z_i q), (3, z_i (my ρ)), (7, z_i e), (8, z_i (yPi ρ q e)), (9, z_i (yPi ρ (-1) e)), (5, z_i ((yPi ρ r e) - (yPi ρ (-1) e))), (6, z_i 1), (10, z_i (f + 1)), (4, z_i (p2 + 1))]) rfl ?_
                                    exact ih215 (f + 1) (p2 + 1) (by omega) (by omega) (by rw [z_smS (by omega), hq1]; omega) (by omega)
                                · refine z_const hY eL_areApart_300 ?_
                                  refine z_goto hY eL_areApart_301 ?_
                                  refine z_iload hY eL_areApart_305 7 rfl ?_
                                  refine z_iload hY eL_areApart_307 1 rfl ?_
                                  refine z_icmpge hY eL_areApart_309 (by omega) (fun c309 => ?_) (fun c309 => ?_)
                                  · refine z_const hY eL_areApart_316 ?_
                                    refine z_icmpeq hY eL_areApart_317 (by omega) (fun c => absurd c (by omega)) (fun _ => ?_)
                                    refine z_const hY eL_areApart_320 ?_
                                    refine z_goto hY eL_areApart_321 ?_
                                    refine z_iadd hY eL_areApart_325 ?_
                                    have hq1 : (if yAq ρ r q e f then (1 : Int) else 0) = 1 := by first | exact if_pos (by unfold yAq; omega) | exact if_neg (by unfold yAq; omega)
                                    refine z_istore hY eL_areApart_326 (ls' := [(4, z_i (p2 + 1)), (12, z_i 1), (11, z_i (yPi ρ q f)), (0, .ref (A 40)), (1, z_i r), (2, z_i q), (3, z_i (my ρ)), (7, z_i e), (8, z_i (yPi ρ q e)), (9, z_i (yPi ρ (-1) e)), (5, z_i ((yPi ρ r e) - (yPi ρ (-1) e))), (6, z_i 1), (10, z_i f)]) rfl ?_
                                    refine z_iinc hY eL_areApart_328 12 rfl (ls' := [(10, z_i (f + 1)), (4, z_i (p2 + 1)), (12, z_i 1), (11, z_i (yPi ρ q f)), (0, .ref (A 40)), (1, z_i r), (2, z_i q), (3, z_i (my ρ)), (7, z_i e), (8, z_i (yPi ρ q e)), (9, z_i (yPi ρ (-1) e)), (5, z_i ((yPi ρ r e) - (yPi ρ (-1) e))), (6, z_i 1)]) rfl ?_
                                    refine z_goto hY eL_areApart_331 ?_
                                    refine z_sub [4, 5, 6, 7, 8, 9, 10, 11, 12, 0, 1] (ls' := [(0, .ref (A 40)), (1, z_i r), (2, z_i q), (3, z_i (my ρ)), (7, z_i e), (8, z_i (yPi ρ q e)), (9, z_i (yPi ρ (-1) e)), (5, z_i ((yPi ρ r e) - (yPi ρ (-1) e))), (6, z_i 1), (10, z_i (f + 1)), (4, z_i (p2 + 1))]) rfl ?_
                                    exact ih215 (f + 1) (p2 + 1) (by omega) (by omega) (by rw [z_smS (by omega), hq1]; omega) (by omega)
                                  · refine z_const hY eL_areApart_312 ?_
                                    refine z_goto hY eL_areApart_313 ?_
                                    refine z_icmpeq hY eL_areApart_317 (by omega) (fun _ => ?_) (fun c => absurd c (by omega))
                                    refine z_const hY eL_areApart_324 ?_
                                    refine z_iadd hY eL_areApart_325 ?_
                                    refine z_top (b := p2) (by omega) ?_
                                    have hq1 : (if yAq ρ r q e f then (1 : Int) else 0) = 0 := by first | exact if_pos (by unfold yAq; omega) | exact if_neg (by unfold yAq; omega)
                                    refine z_istore hY eL_areApart_326 (ls' := [(4, z_i p2), (12, z_i 1), (11, z_i (yPi ρ q f)), (0, .ref (A 40)), (1, z_i r), (2, z_i q), (3, z_i (my ρ)), (7, z_i e), (8, z_i (yPi ρ q e)), (9, z_i (yPi ρ (-1) e)), (5, z_i ((yPi ρ r e) - (yPi ρ (-1) e))), (6, z_i 1), (10, z_i f)]) rfl ?_
                                    refine z_iinc hY eL_areApart_328 12 rfl (ls' := [(10, z_i (f + 1)), (4, z_i p2), (12, z_i 1), (11, z_i (yPi ρ q f)), (0, .ref (A 40)), (1, z_i r), (2, z_i q), (3, z_i (my ρ)), (7, z_i e), (8, z_i (yPi ρ q e)), (9, z_i (yPi ρ (-1) e)), (5, z_i ((yPi ρ r e) - (yPi ρ (-1) e))), (6, z_i 1)]) rfl ?_
                                    refine z_goto hY eL_areApart_331 ?_
                                    refine z_sub [4, 5, 6, 7, 8, 9, 10, 11, 12, 0, 1] (ls' := [(0, .ref (A 40)), (1, z_i r), (2, z_i q), (3, z_i (my ρ)), (7, z_i e), (8, z_i (yPi ρ q e)), (9, z_i (yPi ρ (-1) e)), (5, z_i ((yPi ρ r e) - (yPi ρ (-1) e))), (6, z_i 1), (10, z_i (f + 1)), (4, z_i p2)]) rfl ?_
                                    exact ih215 (f + 1) p2 (by omega) (by omega) (by rw [z_smS (by omega), hq1]; omega) (by omega)
                    exact lp215 _ 0 p (Nat.lt_succ_self _) (by omega) (by rw [z_sm0 (by omega)]; omega) (by omega)
            · refine z_goto hY eL_areApart_149 ?_
              refine z_iinc hY eL_areApart_334 5 rfl (ls' := [(7, z_i (e + 1)), (8, z_i (yPi ρ q e)), (0, .ref (A 40)), (1, z_i r), (2, z_i q), (3, z_i (my ρ)), (4, z_i p), (5, z_i c), (6, z_i a)]) rfl ?_
              refine z_goto hY eL_areApart_337 ?_
              refine z_sub [2, 3, 4, 5, 0, 6, 7, 8] (ls' := [(0, .ref (A 40)), (1, z_i r), (2, z_i q), (3, z_i (my ρ)), (7, z_i (e + 1)), (4, z_i p), (5, z_i c), (6, z_i a)]) rfl ?_
              refine z_widen (k' := (2 * (e + 1).toNat)) (n' := (12 * (e + 1).toNat)) (by omega) (by omega) ?_
              exact ih90 (e + 1) p c a (by omega) (by omega) (by rw [z_smS (by omega), ← hp]; unfold aF; rw [aF_0 (Or.inl (by omega))]; omega) (aC_s hcl (fun _ => Or.inl (by omega))) (by omega) (by omega)
      refine z_widen (k' := (2 * (0 : Int).toNat)) (n' := (12 * (0 : Int).toNat)) (by omega) (by omega) ?_
      exact lp90 _ 0 0 0 0 (Nat.lt_succ_self _) (by omega) (z_sm0 (by omega)).symm aC_0 (by omega) (by omega)
    · refine z_const hY eL_areApart_51 ?_
      refine z_aload hY eL_areApart_52 1 rfl ?_
      refine g_gf hY (gS_X hI) eL_areApart_53 (v := z_i (σ 19 0)) (congrArg (fun q => some (z_i q)) (Eq.trans (congrFun (z_u_ne (by decide)) _) (congrFun (z_u_ne (by decide)) _))) ?_
      refine z_const hY eL_areApart_56 ?_
      refine z_isub hY eL_areApart_57 ?_
      refine z_aload hY eL_areApart_58 1 rfl ?_
      refine z_const hY eL_areApart_59 ?_
      refine z_callV (As := [z_i 20]) (rest := [z_i ((σ 19 0) - 1), z_i 0]) hY eL_areApart_61 (la_next (B := B) (κ := κ) (σ := (z_u (z_u σ 0 0 X2) 0 0 X5)) hG (gS_X hI) (n := 20) (by omega)) ((gH_at (gS_X hI) (by decide)).trans (congrArg some lC_40)) (by decide) (Nat.le_of_ble_eq_true rfl) ⟨Nat.zero_le _, Nat.zero_le _⟩ (fun _ _ q => q.elim) (fun vv26 hh26 q26 => ?_)
      obtain ⟨r25, X25, rfl, hr25, hX25, rfl⟩ := q26
      refine z_isub hY eL_areApart_64 ?_
      refine z_top (b := (σ 19 0) - r25 - 1) (by omega) ?_
      refine z_callSr (As := [z_i 0, z_i ((σ 19 0) - r25 - 1)]) (rest := []) (r := z_i (if 0 < ((σ 19 0) - r25 - 1) then ((σ 19 0) - r25 - 1) else 0)) hY eL_areApart_65 (ma_max hG (by omega)) (by decide) (Nat.le_of_ble_eq_true rfl) ⟨Nat.zero_le _, Nat.zero_le _⟩ ?_
      obtain ⟨M27, hM27⟩ : ∃ M : Int, M = if 0 < ((σ 19 0) - r25 - 1) then ((σ 19 0) - r25 - 1) else 0 := ⟨_, rfl⟩
      refine z_top (b := M27) hM27.symm ?_
      have hMs27 : (0 < ((σ 19 0) - r25 - 1) ∧ M27 = ((σ 19 0) - r25 - 1)) ∨ (((σ 19 0) - r25 - 1) ≤ 0 ∧ M27 = 0) := by rw [hM27]; split <;> omega
      refine z_goto hY eL_areApart_68 ?_
      obtain ⟨q, hnmq⟩ : ∃ q : Int, q = M27 := ⟨_, rfl⟩
      refine z_top (b := q) hnmq.symm ?_
      refine z_istore hY eL_areApart_72 (ls' := [(2, z_i q), (1, z_i r), (0, .ref (A 40))]) rfl ?_
      refine z_aload hY eL_areApart_73 2 rfl ?_
      refine z_callV (As := []) (rest := []) hY eL_areApart_74 (la_sorts hG (gS_E hI (wE_u (wE_u (wE_u wE_r (by decide)) (by decide)) (by decide)) (wB_u (wB_u (wB_u (gS_b hI) (by show (-2147483648 : Int) ≤ _ ∧ _ ≤ (2147483647 : Int); omega)) (by show (-2147483648 : Int) ≤ _ ∧ _ ≤ (2147483647 : Int); omega)) (by show (-2147483648 : Int) ≤ _ ∧ _ ≤ (2147483647 : Int); omega))) ho) ((gH_at (gS_X hI) (by decide)).trans (congrArg some lC_40)) (by decide) (Nat.le_of_ble_eq_true rfl) ⟨Nat.zero_le _, Nat.zero_le _⟩ (fun _ _ q => q.elim) (fun vv29 hh29 q29 => ?_)
      obtain ⟨σ28, rfl, ⟨hE28, hw28, hrow28⟩, rfl⟩ := q29
      have hI28 := gS_E (gS_E hI (wE_u (wE_u (wE_u wE_r (by decide)) (by decide)) (by decide)) (wB_u (wB_u (wB_u (gS_b hI) (by show (-2147483648 : Int) ≤ _ ∧ _ ≤ (2147483647 : Int); omega)) (by show (-2147483648 : Int) ≤ _ ∧ _ ≤ (2147483647 : Int); omega)) (by show (-2147483648 : Int) ≤ _ ∧ _ ≤ (2147483647 : Int); omega))) hE28 hw28
      have hmy := w_my (gS_j hI)
      refine z_istore hY eL_areApart_77 (ls' := [(3, z_i (my ρ)), (2, z_i q), (1, z_i r), (0, .ref (A 40))]) rfl ?_
      have hkk : 0 ≤ r ∧ r < σ28 19 0 ∧ σ28 19 0 - 20 ≤ r := by rw [hE28 19 (by decide) (by decide) (by decide)]; show 0 ≤ r ∧ r < σ 19 0 ∧ σ 19 0 - 20 ≤ r; omega
      have hkq : q = -1 ∨ (0 ≤ q ∧ q < σ28 19 0 ∧ σ28 19 0 - 20 ≤ q) := by rw [hE28 19 (by decide) (by decide) (by decide)]; show q = -1 ∨ (0 ≤ q ∧ q < σ 19 0 ∧ σ 19 0 - 20 ≤ q); omega
      have hkO : r = -1 ∨ kp ρ r := Or.inr (w_kp hI28 hkk)
      have hkP : q = -1 ∨ kp ρ q := hkq.imp id (w_kp hI28)
      have h14 := (gS_b hI28).s14 0
      have h19 := gS_19 hI28
      refine z_const hY eL_areApart_78 ?_
      refine z_istore hY eL_areApart_79 (ls' := [(4, z_i 0), (3, z_i (my ρ)), (2, z_i q), (1, z_i r), (0, .ref (A 40))]) rfl ?_
      refine z_const hY eL_areApart_81 ?_
      refine z_istore hY eL_areApart_82 (ls' := [(5, z_i 0), (4, z_i 0), (3, z_i (my ρ)), (2, z_i q), (1, z_i r), (0, .ref (A 40))]) rfl ?_
      refine z_const hY eL_areApart_84 ?_
      refine z_istore hY eL_areApart_85 (ls' := [(6, z_i 0), (5, z_i 0), (4, z_i 0), (3, z_i (my ρ)), (2, z_i q), (1, z_i r), (0, .ref (A 40))]) rfl ?_
      refine z_const hY eL_areApart_87 ?_
      refine z_istore hY eL_areApart_88 (ls' := [(7, z_i 0), (6, z_i 0), (5, z_i 0), (4, z_i 0), (3, z_i (my ρ)), (2, z_i q), (1, z_i r), (0, .ref (A 40))]) rfl ?_
      refine z_sub [7, 6, 5, 4, 0, 3, 2, 1] (ls' := [(0, .ref (A 40)), (1, z_i r), (2, z_i q), (3, z_i (my ρ)), (7, z_i 0), (4, z_i 0), (5, z_i 0), (6, z_i 0)]) rfl ?_
      have lp90 : ∀ (fu : Nat) (e : Int) (p : Int) (c : Int) (a : Int), (30 - e).toNat < fu → (0 ≤ e ∧ e ≤ 30) → (p = z_sm (aF ρ r q) e) → (aC ρ r e c a) → (0 ≤ p ∧ p ≤ 30 * e) → (-40 ≤ c ∧ c ≤ 40) → z_W Y 90 [(0, .ref (A 40)), (1, z_i r), (2, z_i q), (3, z_i (my ρ)), (7, z_i e), (4, z_i p), (5, z_i c), (6, z_i a)] [] (gH D B κ A σ28 h) (2 * e.toNat) (12 * e.toNat) := by
        intro fu
        induction fu with
        | zero => intro e p c a hf; exact absurd hf (Nat.not_lt_zero _)
        | succ fu ih90 =>
          intro e p c a hf he hp hcl hpb hcb
          refine z_iload hY eL_areApart_90 4 rfl ?_
          refine z_const hY eL_areApart_92 ?_
          refine z_icmpge hY eL_areApart_94 (by omega) (fun c94 => ?_) (fun c94 => ?_)
          · have hpa : p = yAp ρ r q := by rw [hp, show e = 30 by omega]; exact aF_30 hI28 hkk
            have hps := yAp_sw ρ r q
            refine z_iload hY eL_areApart_340 3 rfl ?_
            refine z_iflt hY eL_areApart_341 (by omega) (fun c341 => by exfalso; omega) (fun c341 => ?_)
            refine z_aload hY eL_areApart_344 0 rfl ?_
            refine g_gf hY (gS_X hI28) eL_areApart_345 (v := .ref (B 0 0)) rfl ?_
            refine z_iload hY eL_areApart_348 1 rfl ?_
            refine z_iload hY eL_areApart_349 2 rfl ?_
            have hk1 := (gS_R hI28).a.2.1.trans (gS_30 hI28)
            refine z_callV (As := [z_i r, z_i q]) (rest := []) hY eL_areApart_350 (q_inversions (D := D) (h := lH A (B 0 0) σ28 h) hG (gS_J hI28) (gS_B hI28) (gS_V hI28) (gS_S hI28) (by omega) (by omega)) (cH_at (t := 0) (i := 0) (gS_J hI28) (by omega)) (by decide) (Nat.le_of_ble_eq_true rfl) (by rw [hmc, hms]; omega) (fun E9 h9 q => by obtain ⟨-, q⟩ := q; exfalso; omega) (fun vv31 hh31 q31 => ?_)
            obtain ⟨-, rfl, R30, hR30, rfl⟩ := q31
            have hI30 := gS_r3 hI28 hR30
            refine z_heq (show _ = gH D B (k_r κ 3 0 R30) A σ28 h from rfl) ?_
            refine z_top (b := yAp ρ r q) ((gS_R hI28).aInv (gS_M hI28) (by first | exact Or.inl rfl | exact hkO | exact hkP) (by first | exact Or.inl rfl | exact hkO | exact hkP)).2 ?_
            refine z_iload hY eL_areApart_353 5 rfl ?_
            refine z_icmpne hY eL_areApart_355 (by omega) (fun c355 => by exfalso; omega) (fun c355 => ?_)
            refine z_aload hY eL_areApart_358 0 rfl ?_
            refine g_gf hY (gS_X hI30) eL_areApart_359 (v := .ref (B 0 0)) rfl ?_
            refine z_iload hY eL_areApart_362 2 rfl ?_
            refine z_iload hY eL_areApart_363 1 rfl ?_
            have hk1 := (gS_R hI30).a.2.1.trans (gS_30 hI30)
            refine z_callV (As := [z_i q, z_i r]) (rest := []) hY eL_areApart_364 (q_inversions (D := D) (h := lH A (B 0 0) σ28 h) hG (gS_J hI30) (gS_B hI30) (gS_V hI30) (gS_S hI30) (by omega) (by omega)) (cH_at (t := 0) (i := 0) (gS_J hI30) (by omega)) (by decide) (Nat.le_of_ble_eq_true rfl) (by rw [hmc, hms]; omega) (fun E9 h9 q => by obtain ⟨-, q⟩ := q; exfalso; omega) (fun vv33 hh33 q33 => ?_)
            obtain ⟨-, rfl, R32, hR32, rfl⟩ := q33
            have hI32 := gS_r3 hI30 hR32
            refine z_heq (show _ = gH D B (k_r (k_r κ 3 0 R30) 3 0 R32) A σ28 h from rfl) ?_
            refine z_top (b := yAp ρ q r) ((gS_R hI30).aInv (gS_M hI30) (by first | exact Or.inl rfl | exact hkO | exact hkP) (by first | exact Or.inl rfl | exact hkO | exact hkP)).2 ?_
            refine z_iload hY eL_areApart_367 5 rfl ?_
            refine z_icmpne hY eL_areApart_369 (by omega) (fun c369 => by exfalso; omega) (fun c369 => ?_)
            refine z_aload hY eL_areApart_372 0 rfl ?_
            refine g_gf hY (gS_X hI32) eL_areApart_373 (v := .ref (B 0 0)) rfl ?_
            refine z_iload hY eL_areApart_376 1 rfl ?_
            refine z_iload hY eL_areApart_377 2 rfl ?_
            have hk1 := (gS_R hI32).a.2.1.trans (gS_30 hI32)
            refine z_callV (As := [z_i r, z_i q]) (rest := []) hY eL_areApart_378 (q_swaps (D := D) (h := lH A (B 0 0) σ28 h) hG (gS_J hI32) (gS_B hI32) (gS_V hI32) (gS_S hI32) (by omega) (by omega)) (cH_at (t := 0) (i := 0) (gS_J hI32) (by omega)) (by decide) (Nat.le_of_ble_eq_true rfl) (by rw [hmc, hms]; omega) (fun E9 h9 q => by obtain ⟨-, q⟩ := q; exfalso; omega) (fun vv35 hh35 q35 => ?_)
            obtain ⟨-, rfl, R34, hR34, rfl⟩ := q35
            have hI34 := gS_r3 hI32 hR34
            refine z_heq (show _ = gH D B (k_r (k_r (k_r κ 3 0 R30) 3 0 R32) 3 0 R34) A σ28 h from rfl) ?_
            refine z_top (b := yAp ρ r q) ((gS_R hI32).aSwaps (gS_M hI32) hkO hkP) ?_
            refine z_iload hY eL_areApart_381 5 rfl ?_
            refine z_icmpne hY eL_areApart_383 (by omega) (fun c383 => by exfalso; omega) (fun c383 => ?_)
            refine z_aload hY eL_areApart_386 0 rfl ?_
            refine g_gf hY (gS_X hI34) eL_areApart_387 (v := .ref (B 0 0)) rfl ?_
            refine z_iload hY eL_areApart_390 1 rfl ?_
            have hk1 := (gS_R hI34).a.2.1.trans (gS_30 hI34)
            refine z_callV (As := [z_i r]) (rest := []) hY eL_areApart_391 (q_climb (D := D) (h := lH A (B 0 0) σ28 h) hG (gS_J hI34) (gS_B hI34) (gS_V hI34) (gS_S hI34) (by omega)) (cH_at (t := 0) (i := 0) (gS_J hI34) (by omega)) (by decide) (Nat.le_of_ble_eq_true rfl) (by rw [hmc, hms]; omega) (fun E9 h9 q => by obtain ⟨-, q⟩ := q; exfalso; omega) (fun vv37 hh37 q37 => ?_)
            obtain ⟨-, rfl, rfl⟩ := q37
            refine z_heq (show _ = gH D B (k_r (k_r (k_r κ 3 0 R30) 3 0 R32) 3 0 R34) A σ28 h from rfl) ?_
            refine z_top (b := c) (aC_e hI34 hkk (show aC ρ r 30 c a from (show e = 30 by omega) ▸ hcl)) ?_
            refine z_iload hY eL_areApart_394 6 rfl ?_
            refine z_icmpne hY eL_areApart_396 (by omega) (fun c396 => by exfalso; omega) (fun c396 => ?_)
            refine z_const hY eL_areApart_399 ?_
            refine z_goto hY eL_areApart_400 ?_
            exact z_zreturn hY eL_areApart_404 rfl (by omega) (by rw [hφ]; exact ⟨k_r (k_r (k_r κ 3 0 R30) 3 0 R32) 3 0 R34, B, ρ, σ28, h, rfl, hI34, by rw [hE28 14 (by decide) (by decide) (by decide)]; rfl, rfl⟩) (by rw [hmc, hms]; omega)
          · have hye := yPi_r hI28 (r := r) (e := e) (by omega) (Or.inr hkk)
            have hyq := w_pin hI28 (e := e)
            have hca := aC_a hcl
            refine z_aload hY eL_areApart_97 0 rfl ?_
            refine g_gf hY (gS_X hI28) eL_areApart_98 (v := .ref (B 0 0)) rfl ?_
            refine z_iload hY eL_areApart_101 1 rfl ?_
            refine z_iload hY eL_areApart_102 4 rfl ?_
            have hk1 := (gS_R hI28).a.2.1.trans (gS_30 hI28)
            refine z_callV (As := [z_i r, z_i e]) (rest := []) hY eL_areApart_104 (q_placeThen (D := D) (h := lH A (B 0 0) σ28 h) hG (gS_J hI28) (gS_B hI28) (gS_V hI28) (gS_S hI28) (by omega) (by omega)) (cH_at (t := 0) (i := 0) (gS_J hI28) (by omega)) (by decide) (Nat.le_of_ble_eq_true rfl) (by rw [hmc, hms]; omega) (fun E9 h9 q => by obtain ⟨-, q⟩ := q; exfalso; omega) (fun vv39 hh39 q39 => ?_)
            obtain ⟨-, rfl, rfl⟩ := q39
            refine z_heq (show _ = gH D B κ A σ28 h from rfl) ?_
            refine z_top (b := yPi ρ r e) ((gS_R hI28).aPlaceThen (w_kp hI28 hkk) (by omega)) ?_
            refine z_aload hY eL_areApart_107 0 rfl ?_
            refine g_gf hY (gS_X hI28) eL_areApart_108 (v := .ref (A 13)) rfl ?_
            refine z_const hY eL_areApart_111 ?_
            refine z_iload hY eL_areApart_113 1 rfl ?_
            refine z_imul hY eL_areApart_114 ?_
            refine z_iload hY eL_areApart_115 4 rfl ?_
            refine z_iadd hY eL_areApart_117 ?_
            refine g_ial hY (gS_X hI28) eL_areApart_118 (j := 13) (N := 1200) (x := yPi ρ r e) (by decide) rfl (by omega) (w_pi hI28 hkk (by omega)) ?_
            refine z_icmpeq hY eL_areApart_119 (by omega) (fun c119 => ?_) (fun c119 => by exfalso; omega)
            refine z_aload hY eL_areApart_124 0 rfl ?_
            refine z_iload hY eL_areApart_125 2 rfl ?_
            refine z_iload hY eL_areApart_126 4 rfl ?_
            refine z_callVr (As := [z_i q, z_i e]) (rest := []) (r := z_i (yPi ρ q e)) hY eL_areApart_128 (la_placeThen hG hI28 hrow28 (r := q) (e := e) (by omega) (by omega)) ((gH_at (gS_X hI28) (by decide)).trans (congrArg some lC_40)) (by decide) (Nat.le_of_ble_eq_true rfl) (by rw [hmc, hms]; omega) ?_
            have hyb40 := yPi_r hI28 (r := q) (e := e) (by omega) (by first | exact Or.inl rfl | exact hkq | exact Or.inr hkk)
            refine z_istore hY eL_areApart_131 (ls' := [(8, z_i (yPi ρ q e)), (0, .ref (A 40)), (1, z_i r), (2, z_i q), (3, z_i (my ρ)), (7, z_i e), (4, z_i p), (5, z_i c), (6, z_i a)]) rfl ?_
            refine z_aload hY eL_areApart_133 1 rfl ?_
            refine g_gf hY (gS_X hI28) eL_areApart_134 (v := .ref (A 13)) rfl ?_
            refine z_const hY eL_areApart_137 ?_
            refine z_iload hY eL_areApart_139 2 rfl ?_
            refine z_imul hY eL_areApart_140 ?_
            refine z_iload hY eL_areApart_141 5 rfl ?_
            refine z_iadd hY eL_areApart_143 ?_
            refine g_ial hY (gS_X hI28) eL_areApart_144 (j := 13) (N := 1200) (x := yPi ρ r e) (by decide) rfl (by omega) (w_pi hI28 hkk (by omega)) ?_
            refine z_const hY eL_areApart_145 ?_
            refine z_icmpne hY eL_areApart_146 (by omega) (fun c146 => ?_) (fun c146 => ?_)
            · refine z_aload hY eL_areApart_152 1 rfl ?_
              refine z_const hY eL_areApart_153 ?_
              refine z_iload hY eL_areApart_154 5 rfl ?_
              refine z_callVr (As := [z_i (-1), z_i e]) (rest := []) (r := z_i (yPi ρ (-1) e)) hY eL_areApart_156 (la_placeThen hG hI28 hrow28 (r := (-1)) (e := e) (by omega) (by omega)) ((gH_at (gS_X hI28) (by decide)).trans (congrArg some lC_40)) (by decide) (Nat.le_of_ble_eq_true rfl) (by rw [hmc, hms]; omega) ?_
              have hyb41 := yPi_r hI28 (r := (-1)) (e := e) (by omega) (by first | exact Or.inl rfl | exact hkq | exact Or.inr hkk)
              refine z_istore hY eL_areApart_159 (ls' := [(9, z_i (yPi ρ (-1) e)), (8, z_i (yPi ρ q e)), (0, .ref (A 40)), (1, z_i r), (2, z_i q), (3, z_i (my ρ)), (7, z_i e), (4, z_i p), (5, z_i c), (6, z_i a)]) rfl ?_
              refine z_iload hY eL_areApart_161 0 rfl ?_
              refine z_const hY eL_areApart_163 ?_
              refine z_icmpeq hY eL_areApart_164 (by omega) (fun c164 => ?_) (fun c164 => ?_)
              · refine z_const hY eL_areApart_212 ?_
                refine z_istore hY eL_areApart_213 (ls' := [(10, z_i 0), (9, z_i (yPi ρ (-1) e)), (8, z_i (yPi ρ q e)), (0, .ref (A 40)), (1, z_i r), (2, z_i q), (3, z_i (my ρ)), (7, z_i e), (4, z_i p), (5, z_i c), (6, z_i a)]) rfl ?_
                have hcl2 : aC ρ r (e + 1) c a := aC_s hcl (fun z => by rcases hyq with w9 | w9; (have w8 := (gS_R hI28).xpl (gS_M hI28) w9.1; first | exact Or.inr ⟨by omega, by omega⟩ | (exfalso; omega)); (exact absurd z (w9 (by omega)).1))
                have hcb2 : -40 ≤ c ∧ c ≤ 40 := by omega
                refine z_sub [3, 4, 5, 6, 7, 2, 1, 9, 10, 0, 8] (ls' := [(0, .ref (A 40)), (1, z_i r), (2, z_i q), (3, z_i (my ρ)), (7, z_i e), (8, z_i (yPi ρ q e)), (9, z_i (yPi ρ (-1) e)), (5, z_i c), (6, z_i a), (10, z_i 0), (4, z_i p)]) rfl ?_
                have lp215 : ∀ (fu : Nat) (f : Int) (p2 : Int), (e - f).toNat < fu → (0 ≤ f ∧ f ≤ e) → (p2 = p + z_sm (fun f => if yAq ρ r q e f then (1 : Int) else 0) f) → (p ≤ p2 ∧ p2 ≤ p + f) → z_W Y 215 [(0, .ref (A 40)), (1, z_i r), (2, z_i q), (3, z_i (my ρ)), (7, z_i e), (8, z_i (yPi ρ q e)), (9, z_i (yPi ρ (-1) e)), (5, z_i c), (6, z_i a), (10, z_i f), (4, z_i p2)] [] (gH D B κ A σ28 h) (2 * e.toNat + 2) (12 * e.toNat + 12) := by
                  intro fu
                  induction fu with
                  | zero => intro f p2 hf; exact absurd hf (Nat.not_lt_zero _)
                  | succ fu ih215 =>
                    intro f p2 hf hf hp2 hpb2
                    refine z_iload hY eL_areApart_215 9 rfl ?_
                    refine z_iload hY eL_areApart_217 4 rfl ?_
                    refine z_icmpge hY eL_areApart_219 (by omega) (fun c219 => ?_) (fun c219 => ?_)
                    · refine z_iinc hY eL_areApart_334 4 rfl (ls' := [(7, z_i (e + 1)), (0, .ref (A 40)), (1, z_i r), (2, z_i q), (3, z_i (my ρ)), (8, z_i (yPi ρ q e)), (9, z_i (yPi ρ (-1) e)), (5, z_i c), (6, z_i a), (10, z_i f), (4, z_i p2)]) rfl ?_
                      refine z_goto hY eL_areApart_337 ?_
                      refine z_sub [1, 2, 3, 4, 0, 10, 7, 8] (ls' := [(0, .ref (A 40)), (1, z_i r), (2, z_i q), (3, z_i (my ρ)), (7, z_i (e + 1)), (4, z_i p2), (5, z_i c), (6, z_i a)]) rfl ?_
                      refine z_widen (k' := (2 * (e + 1).toNat)) (n' := (12 * (e + 1).toNat)) (by omega) (by omega) ?_
                      exact ih90 (e + 1) p2 c a (by omega) (by omega) (by rw [z_smS (by omega), ← hp]; unfold aF; first | (rw [show e = f by omega]; rw [show e = f by omega] at hp2; omega) | (rw [aF_0 (Or.inr (by omega))]; rw [aF_0 (Or.inr (by omega))] at hp2; omega)) hcl2 (by omega) (by omega)
                    · refine z_iload hY eL_areApart_222 5 rfl ?_
                      refine z_const hY eL_areApart_224 ?_
                      refine z_icmpeq hY eL_areApart_225 (by omega) (fun c225 => ?_) (fun c225 => ?_)
                      · refine z_iinc hY eL_areApart_334 4 rfl (ls' := [(7, z_i (e + 1)), (0, .ref (A 40)), (1, z_i r), (2, z_i q), (3, z_i (my ρ)), (8, z_i (yPi ρ q e)), (9, z_i (yPi ρ (-1) e)), (5, z_i c), (6, z_i a), (10, z_i f), (4, z_i p2)]) rfl ?_
                        refine z_goto hY eL_areApart_337 ?_
                        refine z_sub [1, 2, 3, 4, 0, 10, 7, 8] (ls' := [(0, .ref (A 40)), (1, z_i r), (2, z_i q), (3, z_i (my ρ)), (7, z_i (e + 1)), (4, z_i p2), (5, z_i c), (6, z_i a)]) rfl ?_
                        refine z_widen (k' := (2 * (e + 1).toNat)) (n' := (12 * (e + 1).toNat)) (by omega) (by omega) ?_
                        exact ih90 (e + 1) p2 c a (by omega) (by omega) (by rw [z_smS (by omega), ← hp]; unfold aF; first | (rw [show e = f by omega]; rw [show e = f by omega] at hp2; omega) | (rw [aF_0 (Or.inr (by omega))]; rw [aF_0 (Or.inr (by omega))] at hp2; omega)) hcl2 (by omega) (by omega)
                      · have hyf := yPi_r hI28 (r := r) (e := f) (by omega) (Or.inr hkk)
                        refine z_aload hY eL_areApart_228 0 rfl ?_
                        refine z_iload hY eL_areApart_229 2 rfl ?_
                        refine z_iload hY eL_areApart_230 9 rfl ?_
                        refine z_callVr (As := [z_i q, z_i f]) (rest := []) (r := z_i (yPi ρ q f)) hY eL_areApart_232 (la_placeThen hG hI28 hrow28 (r := q) (e := f) (by omega) (by omega)) ((gH_at (gS_X hI28) (by decide)).trans (congrArg some lC_40)) (by decide) (Nat.le_of_ble_eq_true rfl) (by rw [hmc, hms]; omega) ?_
                        have hyb42 := yPi_r hI28 (r := q) (e := f) (by omega) (by first | exact Or.inl rfl | exact hkq | exact Or.inr hkk)
                        refine z_istore hY eL_areApart_235 (ls' := [(11, z_i (yPi ρ q f)), (0, .ref (A 40)), (1, z_i r), (2, z_i q), (3, z_i (my ρ)), (7, z_i e), (8, z_i (yPi ρ q e)), (9, z_i (yPi ρ (-1) e)), (5, z_i c), (6, z_i a), (10, z_i f), (4, z_i p2)]) rfl ?_
                        refine z_iload hY eL_areApart_237 0 rfl ?_
                        refine z_const hY eL_areApart_239 ?_
                        refine z_icmpeq hY eL_areApart_240 (by omega) (fun c240 => ?_) (fun c240 => ?_)
                        · refine z_const hY eL_areApart_263 ?_
                          refine z_istore hY eL_areApart_264 (ls' := [(12, z_i 0), (11, z_i (yPi ρ q f)), (0, .ref (A 40)), (1, z_i r), (2, z_i q), (3, z_i (my ρ)), (7, z_i e), (8, z_i (yPi ρ q e)), (9, z_i (yPi ρ (-1) e)), (5, z_i c), (6, z_i a), (10, z_i f), (4, z_i p2)]) rfl ?_
                          refine z_iload hY eL_areApart_266 12 rfl ?_
                          refine z_iload hY eL_areApart_268 0 rfl ?_
                          refine z_ifeq hY eL_areApart_270 (by omega) (fun _ => ?_) (fun c => absurd c (by omega))
                          refine z_const hY eL_areApart_324 ?_
                          refine z_iadd hY eL_areApart_325 ?_
                          refine z_top (b := p2) (by omega) ?_
                          have hq1 : (if yAq ρ r q e f then (1 : Int) else 0) = 0 := by first | exact if_pos (by unfold yAq; omega) | exact if_neg (by unfold yAq; omega)
                          refine z_istore hY eL_areApart_326 (ls' := [(4, z_i p2), (12, z_i 0), (11, z_i (yPi ρ q f)), (0, .ref (A 40)), (1, z_i r), (2, z_i q), (3, z_i (my ρ)), (7, z_i e), (8, z_i (yPi ρ q e)), (9, z_i (yPi ρ (-1) e)), (5, z_i c), (6, z_i a), (10, z_i f)]) rfl ?_
                          refine z_iinc hY eL_areApart_328 12 rfl (ls' := [(10, z_i (f + 1)), (4, z_i p2), (12, z_i 0), (11, z_i (yPi ρ q f)), (0, .ref (A 40)), (1, z_i r), (2, z_i q), (3, z_i (my ρ)), (7, z_i e), (8, z_i (yPi ρ q e)), (9, z_i (yPi ρ (-1) e)), (5, z_i c), (6, z_i a)]) rfl ?_
                          refine z_goto hY eL_areApart_331 ?_
                          refine z_sub [4, 5, 6, 7, 8, 9, 10, 11, 12, 0, 1] (ls' := [(0, .ref (A 40)), (1, z_i r), (2, z_i q), (3, z_i (my ρ)), (7, z_i e), (8, z_i (yPi ρ q e)), (9, z_i (yPi ρ (-1) e)), (5, z_i c), (6, z_i a), (10, z_i (f + 1)), (4, z_i p2)]) rfl ?_
                          exact ih215 (f + 1) p2 (by omega) (by omega) (by rw [z_smS (by omega), hq1]; omega) (by omega)
                        · refine z_aload hY eL_areApart_243 1 rfl ?_
                          refine g_gf hY (gS_X hI28) eL_areApart_244 (v := .ref (A 13)) rfl ?_
                          refine z_const hY eL_areApart_247 ?_
                          refine z_iload hY eL_areApart_249 2 rfl ?_
                          refine z_imul hY eL_areApart_250 ?_
                          refine z_iload hY eL_areApart_251 10 rfl ?_
                          refine z_iadd hY eL_areApart_253 ?_
                          refine g_ial hY (gS_X hI28) eL_areApart_254 (j := 13) (N := 1200) (x := yPi ρ r f) (by decide) rfl (by omega) (w_pi hI28 hkk (by omega)) ?_
                          refine z_const hY eL_areApart_255 ?_
                          refine z_icmpeq hY eL_areApart_256 (by omega) (fun c256 => ?_) (fun c256 => ?_)
                          · refine z_const hY eL_areApart_263 ?_
                            refine z_istore hY eL_areApart_264 (ls' := [(12, z_i 0), (11, z_i (yPi ρ q f)), (0, .ref (A 40)), (1, z_i r), (2, z_i q), (3, z_i (my ρ)), (7, z_i e), (8, z_i (yPi ρ q e)), (9, z_i (yPi ρ (-1) e)), (5, z_i c), (6, z_i a), (10, z_i f), (4, z_i p2)]) rfl ?_
                            refine z_iload hY eL_areApart_266 12 rfl ?_
                            refine z_iload hY eL_areApart_268 0 rfl ?_
                            refine z_ifeq hY eL_areApart_270 (by omega) (fun _ => ?_) (fun c => absurd c (by omega))
                            refine z_const hY eL_areApart_324 ?_
                            refine z_iadd hY eL_areApart_325 ?_
                            refine z_top (b := p2) (by omega) ?_
                            have hq1 : (if yAq ρ r q e f then (1 : Int) else 0) = 0 := by first | exact if_pos (by unfold yAq; omega) | exact if_neg (by unfold yAq; omega)
                            refine z_istore hY eL_areApart_326 (ls' := [(4, z_i p2), (12, z_i 0), (11, z_i (yPi ρ q f)), (0, .ref (A 40)), (1, z_i r), (2, z_i q), (3, z_i (my ρ)), (7, z_i e), (8, z_i (yPi ρ q e)), (9, z_i (yPi ρ (-1) e)), (5, z_i c), (6, z_i a), (10, z_i f)]) rfl ?_
                            refine z_iinc hY eL_areApart_328 12 rfl (ls' := [(10, z_i (f + 1)), (4, z_i p2), (12, z_i 0), (11, z_i (yPi ρ q f)), (0, .ref (A 40)), (1, z_i r), (2, z_i q), (3, z_i (my ρ)), (7, z_i e), (8, z_i (yPi ρ q e)), (9, z_i (yPi ρ (-1) e)), (5, z_i c), (6, z_i a)]) rfl ?_
                            refine z_goto hY eL_areApart_331 ?_
                            refine z_sub [4, 5, 6, 7, 8, 9, 10, 11, 12, 0, 1] (ls' := [(0, .ref (A 40)), (1, z_i r), (2, z_i q), (3, z_i (my ρ)), (7, z_i e), (8, z_i (yPi ρ q e)), (9, z_i (yPi ρ (-1) e)), (5, z_i c), (6, z_i a), (10, z_i (f + 1)), (4, z_i p2)]) rfl ?_
                            exact ih215 (f + 1) p2 (by omega) (by omega) (by rw [z_smS (by omega), hq1]; omega) (by omega)
                          · refine z_const hY eL_areApart_259 ?_
                            refine z_goto hY eL_areApart_260 ?_
                            refine z_istore hY eL_areApart_264 (ls' := [(12, z_i 1), (11, z_i (yPi ρ q f)), (0, .ref (A 40)), (1, z_i r), (2, z_i q), (3, z_i (my ρ)), (7, z_i e), (8, z_i (yPi ρ q e)), (9, z_i (yPi ρ (-1) e)), (5, z_i c), (6, z_i a), (10, z_i f), (4, z_i p2)]) rfl ?_
                            refine z_iload hY eL_areApart_266 12 rfl ?_
                            refine z_iload hY eL_areApart_268 0 rfl ?_
                            refine z_ifeq hY eL_areApart_270 (by omega) (fun c => absurd c (by omega)) (fun _ => ?_)
                            refine z_aload hY eL_areApart_273 2 rfl ?_
                            refine g_gf hY (gS_X hI28) eL_areApart_274 (v := .ref (A 13)) rfl ?_
                            refine z_const hY eL_areApart_277 ?_
                            refine z_iload hY eL_areApart_279 3 rfl ?_
                            refine z_imul hY eL_areApart_280 ?_
                            refine z_iload hY eL_areApart_281 6 rfl ?_
                            refine z_iadd hY eL_areApart_283 ?_
                            refine g_ial hY (gS_X hI28) eL_areApart_284 (j := 13) (N := 1200) (x := yPi ρ r e) (by decide) rfl (by omega) (w_pi hI28 hkk (by omega)) ?_
                            refine z_aload hY eL_areApart_285 2 rfl ?_
                            refine g_gf hY (gS_X hI28) eL_areApart_286 (v := .ref (A 13)) rfl ?_
                            refine z_const hY eL_areApart_289 ?_
                            refine z_iload hY eL_areApart_291 3 rfl ?_
                            refine z_imul hY eL_areApart_292 ?_
                            refine z_iload hY eL_areApart_293 11 rfl ?_
                            refine z_iadd hY eL_areApart_295 ?_
                            refine g_ial hY (gS_X hI28) eL_areApart_296 (j := 13) (N := 1200) (x := yPi ρ r f) (by decide) rfl (by omega) (w_pi hI28 hkk (by omega)) ?_
                            refine z_icmpge hY eL_areApart_297 (by omega) (fun c297 => ?_) (fun c297 => ?_)
                            · refine z_const hY eL_areApart_304 ?_
                              refine z_iload hY eL_areApart_305 7 rfl ?_
                              refine z_iload hY eL_areApart_307 1 rfl ?_
                              refine z_icmpge hY eL_areApart_309 (by omega) (fun c309 => ?_) (fun c309 => ?_)
                              · refine z_const hY eL_areApart_316 ?_
                                refine z_icmpeq hY eL_areApart_317 (by omega) (fun _ => ?_) (fun c => absurd c (by omega))
                                refine z_const hY eL_areApart_324 ?_
                                refine z_iadd hY eL_areApart_325 ?_
                                refine z_top (b := p2) (by omega) ?_
                                have hq1 : (if yAq ρ r q e f then (1 : Int) else 0) = 0 := by first | exact if_pos (by unfold yAq; omega) | exact if_neg (by unfold yAq; omega)
                                refine z_istore hY eL_areApart_326 (ls' := [(4, z_i p2), (12, z_i 1), (11, z_i (yPi ρ q f)), (0, .ref (A 40)), (1, z_i r), (2, z_i q), (3, z_i (my ρ)), (7, z_i e), (8, z_i (yPi ρ q e)), (9, z_i (yPi ρ (-1) e)), (5, z_i c), (6, z_i a), (10, z_i f)]) rfl ?_
                                refine z_iinc hY eL_areApart_328 12 rfl (ls' := [(10, z_i (f + 1)), (4, z_i p2), (12, z_i 1), (11, z_i (yPi ρ q f)), (0, .ref (A 40)), (1, z_i r), (2, z_i q), (3, z_i (my ρ)), (7, z_i e), (8, z_i (yPi ρ q e)), (9, z_i (yPi ρ (-1) e)), (5, z_i c), (6, z_i a)]) rfl ?_
                                refine z_goto hY eL_areApart_331 ?_
                                refine z_sub [4, 5, 6, 7, 8, 9, 10, 11, 12, 0, 1] (ls' := [(0, .ref (A 40)), (1, z_i r), (2, z_i q), (3, z_i (my ρ)), (7, z_i e), (8, z_i (yPi ρ q e)), (9, z_i (yPi ρ (-1) e)), (5, z_i c), (6, z_i a), (10, z_i (f + 1)), (4, z_i p2)]) rfl ?_
                                exact ih215 (f + 1) p2 (by omega) (by omega) (by rw [z_smS (by omega), hq1]; omega) (by omega)
                              · refine z_const hY eL_areApart_312 ?_
                                refine z_goto hY eL_areApart_313 ?_
                                refine z_icmpeq hY eL_areApart_317 (by omega) (fun c => absurd c (by omega)) (fun _ => ?_)
                                refine z_const hY eL_areApart_320 ?_
                                refine z_goto hY eL_areApart_321 ?_
                                refine z_iadd hY eL_areApart_325 ?_
                                have hq1 : (if yAq ρ r q e f then (1 : Int) else 0) = 1 := by first | exact if_pos (by unfold yAq; omega) | exact if_neg (by unfold yAq; omega)
                                refine z_istore hY eL_areApart_326 (ls' := [(4, z_i (p2 + 1)), (12, z_i 1), (11, z_i (yPi ρ q f)), (0, .ref (A 40)), (1, z_i r), (2, z_i q), (3, z_i (my ρ)), (7, z_i e), (8, z_i (yPi ρ q e)), (9, z_i (yPi ρ (-1) e)), (5, z_i c), (6, z_i a), (10, z_i f)]) rfl ?_
                                refine z_iinc hY eL_areApart_328 12 rfl (ls' := [(10, z_i (f + 1)), (4, z_i (p2 + 1)), (12, z_i 1), (11, z_i (yPi ρ q f)), (0, .ref (A 40)), (1, z_i r), (2, z_i q), (3, z_i (my ρ)), (7, z_i e), (8, z_i (yPi ρ q e)), (9, z_i (yPi ρ (-1) e)), (5, z_i c), (6, z_i a)]) rfl ?_
                                refine z_goto hY eL_areApart_331 ?_
                                refine z_sub [4, 5, 6, 7, 8, 9, 10, 11, 12, 0, 1] (ls' := [(0, .ref (A 40)), (1, z_i r), (2, z_i q), (3, z_i (my ρ)), (7, z_i e), (8, z_i (yPi ρ q e)), (9, z_i (yPi ρ (-1) e)), (5, z_i c), (6, z_i a), (10, z_i (f + 1)), (4, z_i (p2 + 1))]) rfl ?_
                                exact ih215 (f + 1) (p2 + 1) (by omega) (by omega) (by rw [z_smS (by omega), hq1]; omega) (by omega)
                            · refine z_const hY eL_areApart_300 ?_
                              refine z_goto hY eL_areApart_301 ?_
                              refine z_iload hY eL_areApart_305 7 rfl ?_
                              refine z_iload hY eL_areApart_307 1 rfl ?_
                              refine z_icmpge hY eL_areApart_309 (by omega) (fun c309 => ?_) (fun c309 => ?_)
                              · refine z_const hY eL_areApart_316 ?_
                                refine z_icmpeq hY eL_areApart_317 (by omega) (fun c => absurd c (by omega)) (fun _ => ?_)
                                refine z_const hY eL_areApart_320 ?_
                                refine z_goto hY eL_areApart_321 ?_
                                refine z_iadd hY eL_areApart_325 ?_
                                have hq1 : (if yAq ρ r q e f then (1 : Int) else 0) = 1 := by first | exact if_pos (by unfold yAq; omega) | exact if_neg (by unfold yAq; omega)
                                refine z_istore hY eL_areApart_326 (ls' := [(4, z_i (p2 + 1)), (12, z_i 1), (11, z_i (yPi ρ q f)), (0, .ref (A 40)), (1, z_i r), (2, z_i q), (3, z_i (my ρ)), (7, z_i e), (8, z_i (yPi ρ q e)), (9, z_i (yPi ρ (-1) e)), (5, z_i c), (6, z_i a), (10, z_i f)]) rfl ?_
                                refine z_iinc hY eL_areApart_328 12 rfl (ls' := [(10, z_i (f + 1)), (4, z_i (p2 + 1)), (12, z_i 1), (11, z_i (yPi ρ q f)), (0, .ref (A 40)), (1, z_i r), (2, z_i q), (3, z_i (my ρ)), (7, z_i e), (8, z_i (yPi ρ q e)), (9, z_i (yPi ρ (-1) e)), (5, z_i c), (6, z_i a)]) rfl ?_
                                refine z_goto hY eL_areApart_331 ?_
                                refine z_sub [4, 5, 6, 7, 8, 9, 10, 11, 12, 0, 1] (ls' := [(0, .ref (A 40)), (1, z_i r), (2, z_i q), (3, z_i (my ρ)), (7, z_i e), (8, z_i (yPi ρ q e)), (9, z_i (yPi ρ (-1) e)), (5, z_i c), (6, z_i a), (10, z_i (f + 1)), (4, z_i (p2 + 1))]) rfl ?_
                                exact ih215 (f + 1) (p2 + 1) (by omega) (by omega) (by rw [z_smS (by omega), hq1]; omega) (by omega)
                              · refine z_const hY eL_areApart_312 ?_
                                refine z_goto hY eL_areApart_313 ?_
                                refine z_icmpeq hY eL_areApart_317 (by omega) (fun _ => ?_) (fun c => absurd c (by omega))
                                refine z_const hY eL_areApart_324 ?_
                                refine z_iadd hY eL_areApart_325 ?_
                                refine z_top (b := p2) (by omega) ?_
                                have hq1 : (if yAq ρ r q e f then (1 : Int) else 0) = 0 := by first | exact if_pos (by unfold yAq; omega) | exact if_neg (by unfold yAq; omega)
                                refine z_istore hY eL_areApart_326 (ls' := [(4, z_i p2), (12, z_i 1), (11, z_i (yPi ρ q f)), (0, .ref (A 40)), (1, z_i r), (2, z_i q), (3, z_i (my ρ)), (7, z_i e), (8, z_i (yPi ρ q e)), (9, z_i (yPi ρ (-1) e)), (5, z_i c), (6, z_i a), (10, z_i f)]) rfl ?_
                                refine z_iinc hY eL_areApart_328 12 rfl (ls' := [(10, z_i (f + 1)), (4, z_i p2), (12, z_i 1), (11, z_i (yPi ρ q f)), (0, .ref (A 40)), (1, z_i r), (2, z_i q), (3, z_i (my ρ)), (7, z_i e), (8, z_i (yPi ρ q e)), (9, z_i (yPi ρ (-1) e)), (5, z_i c), (6, z_i a)]) rfl ?_
                                refine z_goto hY eL_areApart_331 ?_
                                refine z_sub [4, 5, 6, 7, 8, 9, 10, 11, 12, 0, 1] (ls' := [(0, .ref (A 40)), (1, z_i r), (2, z_i q), (3, z_i (my ρ)), (7, z_i e), (8, z_i (yPi ρ q e)), (9, z_i (yPi ρ (-1) e)), (5, z_i c), (6, z_i a), (10, z_i (f + 1)), (4, z_i p2)]) rfl ?_
                                exact ih215 (f + 1) p2 (by omega) (by omega) (by rw [z_smS (by omega), hq1]; omega) (by omega)
                exact lp215 _ 0 p (Nat.lt_succ_self _) (by omega) (by rw [z_sm0 (by omega)]; omega) (by omega)
              · refine z_iload hY eL_areApart_167 9 rfl ?_
                refine z_ifeq hY eL_areApart_169 (by omega) (fun c169 => ?_) (fun c169 => ?_)
                · refine z_aload hY eL_areApart_192 2 rfl ?_
                  refine g_gf hY (gS_X hI28) eL_areApart_193 (v := .ref (A 13)) rfl ?_
                  refine z_const hY eL_areApart_196 ?_
                  refine z_iload hY eL_areApart_198 3 rfl ?_
                  refine z_imul hY eL_areApart_199 ?_
                  refine z_iload hY eL_areApart_200 6 rfl ?_
                  refine z_iadd hY eL_areApart_202 ?_
                  refine g_ial hY (gS_X hI28) eL_areApart_203 (j := 13) (N := 1200) (x := yPi ρ r e) (by decide) rfl (by omega) (w_pi hI28 hkk (by omega)) ?_
                  refine z_iload hY eL_areApart_204 0 rfl ?_
                  refine z_isub hY eL_areApart_206 ?_
                  refine z_istore hY eL_areApart_207 (ls' := [(5, z_i ((yPi ρ r e) - (yPi ρ (-1) e))), (9, z_i (yPi ρ (-1) e)), (8, z_i (yPi ρ q e)), (0, .ref (A 40)), (1, z_i r), (2, z_i q), (3, z_i (my ρ)), (7, z_i e), (4, z_i p), (6, z_i a)]) rfl ?_
                  refine z_const hY eL_areApart_209 ?_
                  refine z_istore hY eL_areApart_210 (ls' := [(6, z_i 1), (5, z_i ((yPi ρ r e) - (yPi ρ (-1) e))), (9, z_i (yPi ρ (-1) e)), (8, z_i (yPi ρ q e)), (0, .ref (A 40)), (1, z_i r), (2, z_i q), (3, z_i (my ρ)), (7, z_i e), (4, z_i p)]) rfl ?_
                  refine z_const hY eL_areApart_212 ?_
                  refine z_istore hY eL_areApart_213 (ls' := [(10, z_i 0), (6, z_i 1), (5, z_i ((yPi ρ r e) - (yPi ρ (-1) e))), (9, z_i (yPi ρ (-1) e)), (8, z_i (yPi ρ q e)), (0, .ref (A 40)), (1, z_i r), (2, z_i q), (3, z_i (my ρ)), (7, z_i e), (4, z_i p)]) rfl ?_
                  have hcl2 : aC ρ r (e + 1) ((yPi ρ r e) - (yPi ρ (-1) e)) 1 := (by rcases hyq with w9 | w9; (rw [w9.2]; exact aC_n hcl w9.1 (by omega) (by omega)); (have w8 := w9 (by omega); omega))
                  have hcb2 : -40 ≤ ((yPi ρ r e) - (yPi ρ (-1) e)) ∧ ((yPi ρ r e) - (yPi ρ (-1) e)) ≤ 40 := by omega
                  refine z_sub [5, 6, 7, 8, 9, 4, 3, 2, 1, 0, 10] (ls' := [(0, .ref (A 40)), (1, z_i r), (2, z_i q), (3, z_i (my ρ)), (7, z_i e), (8, z_i (yPi ρ q e)), (9, z_i (yPi ρ (-1) e)), (5, z_i ((yPi ρ r e) - (yPi ρ (-1) e))), (6, z_i 1), (10, z_i 0), (4, z_i p)]) rfl ?_
                  have lp215 : ∀ (fu : Nat) (f : Int) (p2 : Int), (e - f).toNat < fu → (0 ≤ f ∧ f ≤ e) → (p2 = p + z_sm (fun f => if yAq ρ r q e f then (1 : Int) else 0) f) → (p ≤ p2 ∧ p2 ≤ p + f) → z_W Y 215 [(0, .ref (A 40)), (1, z_i r), (2, z_i q), (3, z_i (my ρ)), (7, z_i e), (8, z_i (yPi ρ q e)), (9, z_i (yPi ρ (-1) e)), (5, z_i ((yPi ρ r e) - (yPi ρ (-1) e))), (6, z_i 1), (10, z_i f), (4, z_i p2)] [] (gH D B κ A σ28 h) (2 * e.toNat + 2) (12 * e.toNat + 12) := by
                    intro fu
                    induction fu with
                    | zero => intro f p2 hf; exact absurd hf (Nat.not_lt_zero _)
                    | succ fu ih215 =>
                      intro f p2 hf hf hp2 hpb2
                      refine z_iload hY eL_areApart_215 9 rfl ?_
                      refine z_iload hY eL_areApart_217 4 rfl ?_
                      refine z_icmpge hY eL_areApart_219 (by omega) (fun c219 => ?_) (fun c219 => ?_)
                      · refine z_iinc hY eL_areApart_334 4 rfl (ls' := [(7, z_i (e + 1)), (0, .ref (A 40)), (1, z_i r), (2, z_i q), (3, z_i (my ρ)), (8, z_i (yPi ρ q e)), (9, z_i (yPi ρ (-1) e)), (5, z_i ((yPi ρ r e) - (yPi ρ (-1) e))), (6, z_i 1), (10, z_i f), (4, z_i p2)]) rfl ?_
                        refine z_goto hY eL_areApart_337 ?_
                        refine z_sub [1, 2, 3, 4, 0, 10, 7, 8] (ls' := [(0, .ref (A 40)), (1, z_i r), (2, z_i q), (3, z_i (my ρ)), (7, z_i (e + 1)), (4, z_i p2), (5, z_i ((yPi ρ r e) - (yPi ρ (-1) e))), (6, z_i 1)]) rfl ?_
                        refine z_widen (k' := (2 * (e + 1).toNat)) (n' := (12 * (e + 1).toNat)) (by omega) (by omega) ?_
                        exact ih90 (e + 1) p2 ((yPi ρ r e) - (yPi ρ (-1) e)) 1 (by omega) (by omega) (by rw [z_smS (by omega), ← hp]; unfold aF; first | (rw [show e = f by omega]; rw [show e = f by omega] at hp2; omega) | (rw [aF_0 (Or.inr (by omega))]; rw [aF_0 (Or.inr (by omega))] at hp2; omega)) hcl2 (by omega) (by omega)
                      · refine z_iload hY eL_areApart_222 5 rfl ?_
                        refine z_const hY eL_areApart_224 ?_
                        refine z_icmpeq hY eL_areApart_225 (by omega) (fun c225 => ?_) (fun c225 => ?_)
                        · refine z_iinc hY eL_areApart_334 4 rfl (ls' := [(7, z_i (e + 1)), (0, .ref (A 40)), (1, z_i r), (2, z_i q), (3, z_i (my ρ)), (8, z_i (yPi ρ q e)), (9, z_i (yPi ρ (-1) e)), (5, z_i ((yPi ρ r e) - (yPi ρ (-1) e))), (6, z_i 1), (10, z_i f), (4, z_i p2)]) rfl ?_
                          refine z_goto hY eL_areApart_337 ?_
                          refine z_sub [1, 2, 3, 4, 0, 10, 7, 8] (ls' := [(0, .ref (A 40)), (1, z_i r), (2, z_i q), (3, z_i (my ρ)), (7, z_i (e + 1)), (4, z_i p2), (5, z_i ((yPi ρ r e) - (yPi ρ (-1) e))), (6, z_i 1)]) rfl ?_
                          refine z_widen (k' := (2 * (e + 1).toNat)) (n' := (12 * (e + 1).toNat)) (by omega) (by omega) ?_
                          exact ih90 (e + 1) p2 ((yPi ρ r e) - (yPi ρ (-1) e)) 1 (by omega) (by omega) (by rw [z_smS (by omega), ← hp]; unfold aF; first | (rw [show e = f by omega]; rw [show e = f by omega] at hp2; omega) | (rw [aF_0 (Or.inr (by omega))]; rw [aF_0 (Or.inr (by omega))] at hp2; omega)) hcl2 (by omega) (by omega)
                        · have hyf := yPi_r hI28 (r := r) (e := f) (by omega) (Or.inr hkk)
                          refine z_aload hY eL_areApart_228 0 rfl ?_
                          refine z_iload hY eL_areApart_229 2 rfl ?_
                          refine z_iload hY eL_areApart_230 9 rfl ?_
                          refine z_callVr (As := [z_i q, z_i f]) (rest := []) (r := z_i (yPi ρ q f)) hY eL_areApart_232 (la_placeThen hG hI28 hrow28 (r := q) (e := f) (by omega) (by omega)) ((gH_at (gS_X hI28) (by decide)).trans (congrArg some lC_40)) (by decide) (Nat.le_of_ble_eq_true rfl) (by rw [hmc, hms]; omega) ?_
                          have hyb43 := yPi_r hI28 (r := q) (e := f) (by omega) (by first | exact Or.inl rfl | exact hkq | exact Or.inr hkk)
                          refine z_istore hY eL_areApart_235 (ls' := [(11, z_i (yPi ρ q f)), (0, .ref (A 40)), (1, z_i r), (2, z_i q), (3, z_i (my ρ)), (7, z_i e), (8, z_i (yPi ρ q e)), (9, z_i (yPi ρ (-1) e)), (5, z_i ((yPi ρ r e) - (yPi ρ (-1) e))), (6, z_i 1), (10, z_i f), (4, z_i p2)]) rfl ?_
                          refine z_iload hY eL_areApart_237 0 rfl ?_
                          refine z_const hY eL_areApart_239 ?_
                          refine z_icmpeq hY eL_areApart_240 (by omega) (fun c240 => ?_) (fun c240 => ?_)
                          · refine z_const hY eL_areApart_263 ?_
                            refine z_istore hY eL_areApart_264 (ls' := [(12, z_i 0), (11, z_i (yPi ρ q f)), (0, .ref (A 40)), (1, z_i r), (2, z_i q), (3, z_i (my ρ)), (7, z_i e), (8, z_i (yPi ρ q e)), (9, z_i (yPi ρ (-1) e)), (5, z_i ((yPi ρ r e) - (yPi ρ (-1) e))), (6, z_i 1), (10, z_i f), (4, z_i p2)]) rfl ?_
                            refine z_iload hY eL_areApart_266 12 rfl ?_
                            refine z_iload hY eL_areApart_268 0 rfl ?_
                            refine z_ifeq hY eL_areApart_270 (by omega) (fun _ => ?_) (fun c => absurd c (by omega))
                            refine z_const hY eL_areApart_324 ?_
                            refine z_iadd hY eL_areApart_325 ?_
                            refine z_top (b := p2) (by omega) ?_
                            have hq1 : (if yAq ρ r q e f then (1 : Int) else 0) = 0 := by first | exact if_pos (by unfold yAq; omega) | exact if_neg (by unfold yAq; omega)
                            refine z_istore hY eL_areApart_326 (ls' := [(4, z_i p2), (12, z_i 0), (11, z_i (yPi ρ q f)), (0, .ref (A 40)), (1, z_i r), (2, z_i q), (3, z_i (my ρ)), (7, z_i e), (8, z_i (yPi ρ q e)), (9, z_i (yPi ρ (-1) e)), (5, z_i ((yPi ρ r e) - (yPi ρ (-1) e))), (6, z_i 1), (10, z_i f)]) rfl ?_
                            refine z_iinc hY eL_areApart_328 12 rfl (ls' := [(10, z_i (f + 1)), (4, z_i p2), (12, z_i 0), (11, z_i (yPi ρ q f)), (0, .ref (A 40)), (1, z_i r), (2, z_i q), (3, z_i (my ρ)), (7, z_i e), (8, z_i (yPi ρ q e)), (9, z_i (yPi ρ (-1) e)), (5, z_i ((yPi ρ r e) - (yPi ρ (-1) e))), (6, z_i 1)]) rfl ?_
                            refine z_goto hY eL_areApart_331 ?_
                            refine z_sub [4, 5, 6, 7, 8, 9, 10, 11, 12, 0, 1] (ls' := [(0, .ref (A 40)), (1, z_i r), (2, z_i q), (3, z_i (my ρ)), (7, z_i e), (8, z_i (yPi ρ q e)), (9, z_i (yPi ρ (-1) e)), (5, z_i ((yPi ρ r e) - (yPi ρ (-1) e))), (6, z_i 1), (10, z_i (f + 1)), (4, z_i p2)]) rfl ?_
                            exact ih215 (f + 1) p2 (by omega) (by omega) (by rw [z_smS (by omega), hq1]; omega) (by omega)
                          · refine z_aload hY eL_areApart_243 1 rfl ?_
                            refine g_gf hY (gS_X hI28) eL_areApart_244 (v := .ref (A 13)) rfl ?_
                            refine z_const hY eL_areApart_247 ?_
                            refine z_iload hY eL_areApart_249 2 rfl ?_
                            refine z_imul hY eL_areApart_250 ?_
                            refine z_iload hY eL_areApart_251 10 rfl ?_
                            refine z_iadd hY eL_areApart_253 ?_
                            refine g_ial hY (gS_X hI28) eL_areApart_254 (j := 13) (N := 1200) (x := yPi ρ r f) (by decide) rfl (by omega) (w_pi hI28 hkk (by omega)) ?_
                            refine z_const hY eL_areApart_255 ?_
                            refine z_icmpeq hY eL_areApart_256 (by omega) (fun c256 => ?_) (fun c256 => ?_)
                            · refine z_const hY eL_areApart_263 ?_
                              refine z_istore hY eL_areApart_264 (ls' := [(12, z_i 0), (11, z_i (yPi ρ q f)), (0, .ref (A 40)), (1, z_i r), (2, z_i q), (3, z_i (my ρ)), (7, z_i e), (8, z_i (yPi ρ q e)), (9, z_i (yPi ρ (-1) e)), (5, z_i ((yPi ρ r e) - (yPi ρ (-1) e))), (6, z_i 1), (10, z_i f), (4, z_i p2)]) rfl ?_
                              refine z_iload hY eL_areApart_266 12 rfl ?_
                              refine z_iload hY eL_areApart_268 0 rfl ?_
                              refine z_ifeq hY eL_areApart_270 (by omega) (fun _ => ?_) (fun c => absurd c (by omega))
                              refine z_const hY eL_areApart_324 ?_
                              refine z_iadd hY eL_areApart_325 ?_
                              refine z_top (b := p2) (by omega) ?_
                              have hq1 : (if yAq ρ r q e f then (1 : Int) else 0) = 0 := by first | exact if_pos (by unfold yAq; omega) | exact if_neg (by unfold yAq; omega)
                              refine z_istore hY eL_areApart_326 (ls' := [(4, z_i p2), (12, z_i 0), (11, z_i (yPi ρ q f)), (0, .ref (A 40)), (1, z_i r), (2, z_i q), (3, z_i (my ρ)), (7, z_i e), (8, z_i (yPi ρ q e)), (9, z_i (yPi ρ (-1) e)), (5, z_i ((yPi ρ r e) - (yPi ρ (-1) e))), (6, z_i 1), (10, z_i f)]) rfl ?_
                              refine z_iinc hY eL_areApart_328 12 rfl (ls' := [(10, z_i (f + 1)), (4, z_i p2), (12, z_i 0), (11, z_i (yPi ρ q f)), (0, .ref (A 40)), (1, z_i r), (2, z_i q), (3, z_i (my ρ)), (7, z_i e), (8, z_i (yPi ρ q e)), (9, z_i (yPi ρ (-1) e)), (5, z_i ((yPi ρ r e) - (yPi ρ (-1) e))), (6, z_i 1)]) rfl ?_
                              refine z_goto hY eL_areApart_331 ?_
                              refine z_sub [4, 5, 6, 7, 8, 9, 10, 11, 12, 0, 1] (ls' := [(0, .ref (A 40)), (1, z_i r), (2, z_i q), (3, z_i (my ρ)), (7, z_i e), (8, z_i (yPi ρ q e)), (9, z_i (yPi ρ (-1) e)), (5, z_i ((yPi ρ r e) - (yPi ρ (-1) e))), (6, z_i 1), (10, z_i (f + 1)), (4, z_i p2)]) rfl ?_
                              exact ih215 (f + 1) p2 (by omega) (by omega) (by rw [z_smS (by omega), hq1]; omega) (by omega)
                            · refine z_const hY eL_areApart_259 ?_
                              refine z_goto hY eL_areApart_260 ?_
                              refine z_istore hY eL_areApart_264 (ls' := [(12, z_i 1), (11, z_i (yPi ρ q f)), (0, .ref (A 40)), (1, z_i r), (2, z_i q), (3, z_i (my ρ)), (7, z_i e), (8, z_i (yPi ρ q e)), (9, z_i (yPi ρ (-1) e)), (5, z_i ((yPi ρ r e) - (yPi ρ (-1) e))), (6, z_i 1), (10, z_i f), (4, z_i p2)]) rfl ?_
                              refine z_iload hY eL_areApart_266 12 rfl ?_
                              refine z_iload hY eL_areApart_268 0 rfl ?_
                              refine z_ifeq hY eL_areApart_270 (by omega) (fun c => absurd c (by omega)) (fun _ => ?_)
                              refine z_aload hY eL_areApart_273 2 rfl ?_
                              refine g_gf hY (gS_X hI28) eL_areApart_274 (v := .ref (A 13)) rfl ?_
                              refine z_const hY eL_areApart_277 ?_
                              refine z_iload hY eL_areApart_279 3 rfl ?_
                              refine z_imul hY eL_areApart_280 ?_
                              refine z_iload hY eL_areApart_281 6 rfl ?_
                              refine z_iadd hY eL_areApart_283 ?_
                              refine g_ial hY (gS_X hI28) eL_areApart_284 (j := 13) (N := 1200) (x := yPi ρ r e) (by decide) rfl (by omega) (w_pi hI28 hkk (by omega)) ?_
                              refine z_aload hY eL_areApart_285 2 rfl ?_
                              refine g_gf hY (gS_X hI28) eL_areApart_286 (v := .ref (A 13)) rfl ?_
                              refine z_const hY eL_areApart_289 ?_
                              refine z_iload hY eL_areApart_291 3 rfl ?_
                              refine z_imul hY eL_areApart_292 ?_
                              refine z_iload hY eL_areApart_293 11 rfl ?_
                              refine z_iadd hY eL_areApart_295 ?_
                              refine g_ial hY (gS_X hI28) eL_areApart_296 (j := 13) (N := 1200) (x := yPi ρ r f) (by decide) rfl (by omega) (w_pi hI28 hkk (by omega)) ?_
                              refine z_icmpge hY eL_areApart_297 (by omega) (fun c297 => ?_) (fun c297 => ?_)
                              · refine z_const hY eL_areApart_304 ?_
                                refine z_iload hY eL_areApart_305 7 rfl ?_
                                refine z_iload hY eL_areApart_307 1 rfl ?_
                                refine z_icmpge hY eL_areApart_309 (by omega) (fun c309 => ?_) (fun c309 => ?_)
                                · refine z_const hY eL_areApart_316 ?_
                                  refine z_icmpeq hY eL_areApart_317 (by omega) (fun _ => ?_) (fun c => absurd c (by omega))
                                  refine z_const hY eL_areApart_324 ?_
                                  refine z_iadd hY eL_areApart_325 ?_
                                  refine z_top (b := p2) (by omega) ?_
                                  have hq1 : (if yAq ρ r q e f then (1 : Int) else 0) = 0 := by first | exact if_pos (by unfold yAq; omega) | exact if_neg (by unfold yAq; omega)
                                  refine z_istore hY eL_areApart_326 (ls' := [(4, z_i p2), (12, z_i 1), (11, z_i (yPi ρ q f)), (0, .ref (A 40)), (1, z_i r), (2, z_i q), (3, z_i (my ρ)), (7, z_i e), (8, z_i (yPi ρ q e)), (9, z_i (yPi ρ (-1) e)), (5, z_i ((yPi ρ r e) - (yPi ρ (-1) e))), (6, z_i 1), (10, z_i f)]) rfl ?_
                                  refine z_iinc hY eL_areApart_328 12 rfl (ls' := [(10, z_i (f + 1)), (4, z_i p2), (12, z_i 1), (11, z_i (yPi ρ q f)), (0, .ref (A 40)), (1, z_i r), (2, z_i q), (3, z_i (my ρ)), (7, z_i e), (8, z_i (yPi ρ q e)), (9, z_i (yPi ρ (-1) e)), (5, z_i ((yPi ρ r e) - (yPi ρ (-1) e))), (6, z_i 1)]) rfl ?_
                                  refine z_goto hY eL_areApart_331 ?_
                                  refine z_sub [4, 5, 6, 7, 8, 9, 10, 11, 12, 0, 1] (ls' := [(0, .ref (A 40)), (1, z_i r), (2, z_i q), (3, z_i (my ρ)), (7, z_i e), (8, z_i (yPi ρ q e)), (9, z_i (yPi ρ (-1) e)), (5, z_i ((yPi ρ r e) - (yPi ρ (-1) e))), (6, z_i 1), (10, z_i (f + 1)), (4, z_i p2)]) rfl ?_
                                  exact ih215 (f + 1) p2 (by omega) (by omega) (by rw [z_smS (by omega), hq1]; omega) (by omega)
                                · refine z_const hY eL_areApart_312 ?_
                                  refine z_goto hY eL_areApart_313 ?_
                                  refine z_icmpeq hY eL_areApart_317 (by omega) (fun c => absurd c (by omega)) (fun _ => ?_)
                                  refine z_const hY eL_areApart_320 ?_
                                  refine z_goto hY eL_areApart_321 ?_
                                  refine z_iadd hY eL_areApart_325 ?_
                                  have hq1 : (if yAq ρ r q e f then (1 : Int) else 0) = 1 := by first | exact if_pos (by unfold yAq; omega) | exact if_neg (by unfold yAq; omega)
                                  refine z_istore hY eL_areApart_326 (ls' := [(4, z_i (p2 + 1)), (12, z_i 1), (11, z_i (yPi ρ q f)), (0, .ref (A 40)), (1, z_i r), (2, z_i q), (3, z_i (my ρ)), (7, z_i e), (8, z_i (yPi ρ q e)), (9, z_i (yPi ρ (-1) e)), (5, z_i ((yPi ρ r e) - (yPi ρ (-1) e))), (6, z_i 1), (10, z_i f)]) rfl ?_
                                  refine z_iinc hY eL_areApart_328 12 rfl (ls' := [(10, z_i (f + 1)), (4, z_i (p2 + 1)), (12, z_i 1), (11, z_i (yPi ρ q f)), (0, .ref (A 40)), (1, z_i r), (2, z_i q), (3, z_i (my ρ)), (7, z_i e), (8, z_i (yPi ρ q e)), (9, z_i (yPi ρ (-1) e)), (5, z_i ((yPi ρ r e) - (yPi ρ (-1) e))), (6, z_i 1)]) rfl ?_
                                  refine z_goto hY eL_areApart_331 ?_
                                  refine z_sub [4, 5, 6, 7, 8, 9, 10, 11, 12, 0, 1] (ls' := [(0, .ref (A 40)), (1, z_i r), (2, z_i q), (3, z_i (my ρ)), (7, z_i e), (8, z_i (yPi ρ q e)), (9, z_i (yPi ρ (-1) e)), (5, z_i ((yPi ρ r e) - (yPi ρ (-1) e))), (6, z_i 1), (10, z_i (f + 1)), (4, z_i (p2 + 1))]) rfl ?_
                                  exact ih215 (f + 1) (p2 + 1) (by omega) (by omega) (by rw [z_smS (by omega), hq1]; omega) (by omega)
                              · refine z_const hY eL_areApart_300 ?_
                                refine z_goto hY eL_areApart_301 ?_
                                refine z_iload hY eL_areApart_305 7 rfl ?_
                                refine z_iload hY eL_areApart_307 1 rfl ?_
                                refine z_icmpge hY eL_areApart_309 (by omega) (fun c309 => ?_) (fun c309 => ?_)
                                · refine z_const hY eL_areApart_316 ?_
                                  refine z_icmpeq hY eL_areApart_317 (by omega) (fun c => absurd c (by omega)) (fun _ => ?_)
                                  refine z_const hY eL_areApart_320 ?_
                                  refine z_goto hY eL_areApart_321 ?_
                                  refine z_iadd hY eL_areApart_325 ?_
                                  have hq1 : (if yAq ρ r q e f then (1 : Int) else 0) = 1 := by first | exact if_pos (by unfold yAq; omega) | exact if_neg (by unfold yAq; omega)
                                  refine z_istore hY eL_areApart_326 (ls' := [(4, z_i (p2 + 1)), (12, z_i 1), (11, z_i (yPi ρ q f)), (0, .ref (A 40)), (1, z_i r), (2, z_i q), (3, z_i (my ρ)), (7, z_i e), (8, z_i (yPi ρ q e)), (9, z_i (yPi ρ (-1) e)), (5, z_i ((yPi ρ r e) - (yPi ρ (-1) e))), (6, z_i 1), (10, z_i f)]) rfl ?_
                                  refine z_iinc hY eL_areApart_328 12 rfl (ls' := [(10, z_i (f + 1)), (4, z_i (p2 + 1)), (12, z_i 1), (11, z_i (yPi ρ q f)), (0, .ref (A 40)), (1, z_i r), (2, z_i q), (3, z_i (my ρ)), (7, z_i e), (8, z_i (yPi ρ q e)), (9, z_i (yPi ρ (-1) e)), (5, z_i ((yPi ρ r e) - (yPi ρ (-1) e))), (6, z_i 1)]) rfl ?_
                                  refine z_goto hY eL_areApart_331 ?_
                                  refine z_sub [4, 5, 6, 7, 8, 9, 10, 11, 12, 0, 1] (ls' := [(0, .ref (A 40)), (1, z_i r), (2, z_i q), (3, z_i (my ρ)), (7, z_i e), (8, z_i (yPi ρ q e)), (9, z_i (yPi ρ (-1) e)), (5, z_i ((yPi ρ r e) - (yPi ρ (-1) e))), (6, z_i 1), (10, z_i (f + 1)), (4, z_i (p2 + 1))]) rfl ?_
                                  exact ih215 (f + 1) (p2 + 1) (by omega) (by omega) (by rw [z_smS (by omega), hq1]; omega) (by omega)
                                · refine z_const hY eL_areApart_312 ?_
                                  refine z_goto hY eL_areApart_313 ?_
                                  refine z_icmpeq hY eL_areApart_317 (by omega) (fun _ => ?_) (fun c => absurd c (by omega))
                                  refine z_const hY eL_areApart_324 ?_
                                  refine z_iadd hY eL_areApart_325 ?_
                                  refine z_top (b := p2) (by omega) ?_
                                  have hq1 : (if yAq ρ r q e f then (1 : Int) else 0) = 0 := by first | exact if_pos (by unfold yAq; omega) | exact if_neg (by unfold yAq; omega)
                                  refine z_istore hY eL_areApart_326 (ls' := [(4, z_i p2), (12, z_i 1), (11, z_i (yPi ρ q f)), (0, .ref (A 40)), (1, z_i r), (2, z_i q), (3, z_i (my ρ)), (7, z_i e), (8, z_i (yPi ρ q e)), (9, z_i (yPi ρ (-1) e)), (5, z_i ((yPi ρ r e) - (yPi ρ (-1) e))), (6, z_i 1), (10, z_i f)]) rfl ?_
                                  refine z_iinc hY eL_areApart_328 12 rfl (ls' := [(10, z_i (f + 1)), (4, z_i p2), (12, z_i 1), (11, z_i (yPi ρ q f)), (0, .ref (A 40)), (1, z_i r), (2, z_i q), (3, z_i (my ρ)), (7, z_i e), (8, z_i (yPi ρ q e)), (9, z_i (yPi ρ (-1) e)), (5, z_i ((yPi ρ r e) - (yPi ρ (-1) e))), (6, z_i 1)]) rfl ?_
                                  refine z_goto hY eL_areApart_331 ?_
                                  refine z_sub [4, 5, 6, 7, 8, 9, 10, 11, 12, 0, 1] (ls' := [(0, .ref (A 40)), (1, z_i r), (2, z_i q), (3, z_i (my ρ)), (7, z_i e), (8, z_i (yPi ρ q e)), (9, z_i (yPi ρ (-1) e)), (5, z_i ((yPi ρ r e) - (yPi ρ (-1) e))), (6, z_i 1), (10, z_i (f + 1)), (4, z_i p2)]) rfl ?_
                                  exact ih215 (f + 1) p2 (by omega) (by omega) (by rw [z_smS (by omega), hq1]; omega) (by omega)
                  exact lp215 _ 0 p (Nat.lt_succ_self _) (by omega) (by rw [z_sm0 (by omega)]; omega) (by omega)
                · refine z_aload hY eL_areApart_172 2 rfl ?_
                  refine g_gf hY (gS_X hI28) eL_areApart_173 (v := .ref (A 13)) rfl ?_
                  refine z_const hY eL_areApart_176 ?_
                  refine z_iload hY eL_areApart_178 3 rfl ?_
                  refine z_imul hY eL_areApart_179 ?_
                  refine z_iload hY eL_areApart_180 6 rfl ?_
                  refine z_iadd hY eL_areApart_182 ?_
                  refine g_ial hY (gS_X hI28) eL_areApart_183 (j := 13) (N := 1200) (x := yPi ρ r e) (by decide) rfl (by omega) (w_pi hI28 hkk (by omega)) ?_
                  refine z_iload hY eL_areApart_184 0 rfl ?_
                  refine z_isub hY eL_areApart_186 ?_
                  refine z_iload hY eL_areApart_187 8 rfl ?_
                  refine z_icmple hY eL_areApart_189 (by omega) (fun c189 => ?_) (fun c189 => ?_)
                  · refine z_const hY eL_areApart_212 ?_
                    refine z_istore hY eL_areApart_213 (ls' := [(10, z_i 0), (9, z_i (yPi ρ (-1) e)), (8, z_i (yPi ρ q e)), (0, .ref (A 40)), (1, z_i r), (2, z_i q), (3, z_i (my ρ)), (7, z_i e), (4, z_i p), (5, z_i c), (6, z_i a)]) rfl ?_
                    have hcl2 : aC ρ r (e + 1) c a := aC_s hcl (fun z => by rcases hyq with w9 | w9; (have w8 := (gS_R hI28).xpl (gS_M hI28) w9.1; first | exact Or.inr ⟨by omega, by omega⟩ | (exfalso; omega)); (exact absurd z (w9 (by omega)).1))
                    have hcb2 : -40 ≤ c ∧ c ≤ 40 := by omega
                    refine z_sub [3, 4, 5, 6, 7, 2, 1, 9, 10, 0, 8] (ls' := [(0, .ref (A 40)), (1, z_i r), (2, z_i q), (3, z_i (my ρ)), (7, z_i e), (8, z_i (yPi ρ q e)), (9, z_i (yPi ρ (-1) e)), (5, z_i c), (6, z_i a), (10, z_i 0), (4, z_i p)]) rfl ?_
                    have lp215 : ∀ (fu : Nat) (f : Int) (p2 : Int), (e - f).toNat < fu → (0 ≤ f ∧ f ≤ e) → (p2 = p + z_sm (fun f => if yAq ρ r q e f then (1 : Int) else 0) f) → (p ≤ p2 ∧ p2 ≤ p + f) → z_W Y 215 [(0, .ref (A 40)), (1, z_i r), (2, z_i q), (3, z_i (my ρ)), (7, z_i e), (8, z_i (yPi ρ q e)), (9, z_i (yPi ρ (-1) e)), (5, z_i c), (6, z_i a), (10, z_i f), (4, z_i p2)] [] (gH D B κ A σ28 h) (2 * e.toNat + 2) (12 * e.toNat + 12) := by
                      intro fu
                      induction fu with
                      | zero => intro f p2 hf; exact absurd hf (Nat.not_lt_zero _)
                      | succ fu ih215 =>
                        intro f p2 hf hf hp2 hpb2
                        refine z_iload hY eL_areApart_215 9 rfl ?_
                        refine z_iload hY eL_areApart_217 4 rfl ?_
                        refine z_icmpge hY eL_areApart_219 (by omega) (fun c219 => ?_) (fun c219 => ?_)
                        · refine z_iinc hY eL_areApart_334 4 rfl (ls' := [(7, z_i (e + 1)), (0, .ref (A 40)), (1, z_i r), (2, z_i q), (3, z_i (my ρ)), (8, z_i (yPi ρ q e)), (9, z_i (yPi ρ (-1) e)), (5, z_i c), (6, z_i a), (10, z_i f), (4, z_i p2)]) rfl ?_
                          refine z_goto hY eL_areApart_337 ?_
                          refine z_sub [1, 2, 3, 4, 0, 10, 7, 8] (ls' := [(0, .ref (A 40)), (1, z_i r), (2, z_i q), (3, z_i (my ρ)), (7, z_i (e + 1)), (4, z_i p2), (5, z_i c), (6, z_i a)]) rfl ?_
                          refine z_widen (k' := (2 * (e + 1).toNat)) (n' := (12 * (e + 1).toNat)) (by omega) (by omega) ?_
                          exact ih90 (e + 1) p2 c a (by omega) (by omega) (by rw [z_smS (by omega), ← hp]; unfold aF; first | (rw [show e = f by omega]; rw [show e = f by omega] at hp2; omega) | (rw [aF_0 (Or.inr (by omega))]; rw [aF_0 (Or.inr (by omega))] at hp2; omega)) hcl2 (by omega) (by omega)
                        · refine z_iload hY eL_areApart_222 5 rfl ?_
                          refine z_const hY eL_areApart_224 ?_
                          refine z_icmpeq hY eL_areApart_225 (by omega) (fun c225 => ?_) (fun c225 => ?_)
                          · refine z_iinc hY eL_areApart_334 4 rfl (ls' := [(7, z_i (e + 1)), (0, .ref (A 40)), (1, z_i r), (2, z_i q), (3, z_i (my ρ)), (8, z_i (yPi ρ q e)), (9, z_i (yPi ρ (-1) e)), (5, z_i c), (6, z_i a), (10, z_i f), (4, z_i p2)]) rfl ?_
                            refine z_goto hY eL_areApart_337 ?_
                            refine z_sub [1, 2, 3, 4, 0, 10, 7, 8] (ls' := [(0, .ref (A 40)), (1, z_i r), (2, z_i q), (3, z_i (my ρ)), (7, z_i (e + 1)), (4, z_i p2), (5, z_i c), (6, z_i a)]) rfl ?_
                            refine z_widen (k' := (2 * (e + 1).toNat)) (n' := (12 * (e + 1).toNat)) (by omega) (by omega) ?_
                            exact ih90 (e + 1) p2 c a (by omega) (by omega) (by rw [z_smS (by omega), ← hp]; unfold aF; first | (rw [show e = f by omega]; rw [show e = f by omega] at hp2; omega) | (rw [aF_0 (Or.inr (by omega))]; rw [aF_0 (Or.inr (by omega))] at hp2; omega)) hcl2 (by omega) (by omega)
                          · have hyf := yPi_r hI28 (r := r) (e := f) (by omega) (Or.inr hkk)
                            refine z_aload hY eL_areApart_228 0 rfl ?_
                            refine z_iload hY eL_areApart_229 2 rfl ?_
                            refine z_iload hY eL_areApart_230 9 rfl ?_
                            refine z_callVr (As := [z_i q, z_i f]) (rest := []) (r := z_i (yPi ρ q f)) hY eL_areApart_232 (la_placeThen hG hI28 hrow28 (r := q) (e := f) (by omega) (by omega)) ((gH_at (gS_X hI28) (by decide)).trans (congrArg some lC_40)) (by decide) (Nat.le_of_ble_eq_true rfl) (by rw [hmc, hms]; omega) ?_
                            have hyb44 := yPi_r hI28 (r := q) (e := f) (by omega) (by first | exact Or.inl rfl | exact hkq | exact Or.inr hkk)
                            refine z_istore hY eL_areApart_235 (ls' := [(11, z_i (yPi ρ q f)), (0, .ref (A 40)), (1, z_i r), (2, z_i q), (3, z_i (my ρ)), (7, z_i e), (8, z_i (yPi ρ q e)), (9, z_i (yPi ρ (-1) e)), (5, z_i c), (6, z_i a), (10, z_i f), (4, z_i p2)]) rfl ?_
                            refine z_iload hY eL_areApart_237 0 rfl ?_
                            refine z_const hY eL_areApart_239 ?_
                            refine z_icmpeq hY eL_areApart_240 (by omega) (fun c240 => ?_) (fun c240 => ?_)
                            · refine z_const hY eL_areApart_263 ?_
                              refine z_istore hY eL_areApart_264 (ls' := [(12, z_i 0), (11, z_i (yPi ρ q f)), (0, .ref (A 40)), (1, z_i r), (2, z_i q), (3, z_i (my ρ)), (7, z_i e), (8, z_i (yPi ρ q e)), (9, z_i (yPi ρ (-1) e)), (5, z_i c), (6, z_i a), (10, z_i f), (4, z_i p2)]) rfl ?_
                              refine z_iload hY eL_areApart_266 12 rfl ?_
                              refine z_iload hY eL_areApart_268 0 rfl ?_
                              refine z_ifeq hY eL_areApart_270 (by omega) (fun _ => ?_) (fun c => absurd c (by omega))
                              refine z_const hY eL_areApart_324 ?_
                              refine z_iadd hY eL_areApart_325 ?_
                              refine z_top (b := p2) (by omega) ?_
                              have hq1 : (if yAq ρ r q e f then (1 : Int) else 0) = 0 := by first | exact if_pos (by unfold yAq; omega) | exact if_neg (by unfold yAq; omega)
                              refine z_istore hY eL_areApart_326 (ls' := [(4, z_i p2), (12, z_i 0), (11, z_i (yPi ρ q f)), (0, .ref (A 40)), (1, z_i r), (2, z_i q), (3, z_i (my ρ)), (7, z_i e), (8, z_i (yPi ρ q e)), (9, z_i (yPi ρ (-1) e)), (5, z_i c), (6, z_i a), (10, z_i f)]) rfl ?_
                              refine z_iinc hY eL_areApart_328 12 rfl (ls' := [(10, z_i (f + 1)), (4, z_i p2), (12, z_i 0), (11, z_i (yPi ρ q f)), (0, .ref (A 40)), (1, z_i r), (2, z_i q), (3, z_i (my ρ)), (7, z_i e), (8, z_i (yPi ρ q e)), (9, z_i (yPi ρ (-1) e)), (5, z_i c), (6, z_i a)]) rfl ?_
                              refine z_goto hY eL_areApart_331 ?_
                              refine z_sub [4, 5, 6, 7, 8, 9, 10, 11, 12, 0, 1] (ls' := [(0, .ref (A 40)), (1, z_i r), (2, z_i q), (3, z_i (my ρ)), (7, z_i e), (8, z_i (yPi ρ q e)), (9, z_i (yPi ρ (-1) e)), (5, z_i c), (6, z_i a), (10, z_i (f + 1)), (4, z_i p2)]) rfl ?_
                              exact ih215 (f + 1) p2 (by omega) (by omega) (by rw [z_smS (by omega), hq1]; omega) (by omega)
                            · refine z_aload hY eL_areApart_243 1 rfl ?_
                              refine g_gf hY (gS_X hI28) eL_areApart_244 (v := .ref (A 13)) rfl ?_
                              refine z_const hY eL_areApart_247 ?_
                              refine z_iload hY eL_areApart_249 2 rfl ?_
                              refine z_imul hY eL_areApart_250 ?_
                              refine z_iload hY eL_areApart_251 10 rfl ?_
                              refine z_iadd hY eL_areApart_253 ?_
                              refine g_ial hY (gS_X hI28) eL_areApart_254 (j := 13) (N := 1200) (x := yPi ρ r f) (by decide) rfl (by omega) (w_pi hI28 hkk (by omega)) ?_
                              refine z_const hY eL_areApart_255 ?_
                              refine z_icmpeq hY eL_areApart_256 (by omega) (fun c256 => ?_) (fun c256 => ?_)
                              · refine z_const hY eL_areApart_263 ?_
                                refine z_istore hY eL_areApart_264 (ls' := [(12, z_i 0), (11, z_i (yPi ρ q f)), (0, .ref (A 40)), (1, z_i r), (2, z_i q), (3, z_i (my ρ)), (7, z_i e), (8, z_i (yPi ρ q e)), (9, z_i (yPi ρ (-1) e)), (5, z_i c), (6, z_i a), (10, z_i f), (4, z_i p2)]) rfl ?_
                                refine z_iload hY eL_areApart_266 12 rfl ?_
                                refine z_iload hY eL_areApart_268 0 rfl ?_
                                refine z_ifeq hY eL_areApart_270 (by omega) (fun _ => ?_) (fun c => absurd c (by omega))
                                refine z_const hY eL_areApart_324 ?_
                                refine z_iadd hY eL_areApart_325 ?_
                                refine z_top (b := p2) (by omega) ?_
                                have hq1 : (if yAq ρ r q e f then (1 : Int) else 0) = 0 := by first | exact if_pos (by unfold yAq; omega) | exact if_neg (by unfold yAq; omega)
                                refine z_istore hY eL_areApart_326 (ls' := [(4, z_i p2), (12, z_i 0), (11, z_i (yPi ρ q f)), (0, .ref (A 40)), (1, z_i r), (2, z_i q), (3, z_i (my ρ)), (7, z_i e), (8, z_i (yPi ρ q e)), (9, z_i (yPi ρ (-1) e)), (5, z_i c), (6, z_i a), (10, z_i f)]) rfl ?_
                                refine z_iinc hY eL_areApart_328 12 rfl (ls' := [(10, z_i (f + 1)), (4, z_i p2), (12, z_i 0), (11, z_i (yPi ρ q f)), (0, .ref (A 40)), (1, z_i r), (2, z_i q), (3, z_i (my ρ)), (7, z_i e), (8, z_i (yPi ρ q e)), (9, z_i (yPi ρ (-1) e)), (5, z_i c), (6, z_i a)]) rfl ?_
                                refine z_goto hY eL_areApart_331 ?_
                                refine z_sub [4, 5, 6, 7, 8, 9, 10, 11, 12, 0, 1] (ls' := [(0, .ref (A 40)), (1, z_i r), (2, z_i q), (3, z_i (my ρ)), (7, z_i e), (8, z_i (yPi ρ q e)), (9, z_i (yPi ρ (-1) e)), (5, z_i c), (6, z_i a), (10, z_i (f + 1)), (4, z_i p2)]) rfl ?_
                                exact ih215 (f + 1) p2 (by omega) (by omega) (by rw [z_smS (by omega), hq1]; omega) (by omega)
                              · refine z_const hY eL_areApart_259 ?_
                                refine z_goto hY eL_areApart_260 ?_
                                refine z_istore hY eL_areApart_264 (ls' := [(12, z_i 1), (11, z_i (yPi ρ q f)), (0, .ref (A 40)), (1, z_i r), (2, z_i q), (3, z_i (my ρ)), (7, z_i e), (8, z_i (yPi ρ q e)), (9, z_i (yPi ρ (-1) e)), (5, z_i c), (6, z_i a), (10, z_i f), (4, z_i p2)]) rfl ?_
                                refine z_iload hY eL_areApart_266 12 rfl ?_
                                refine z_iload hY eL_areApart_268 0 rfl ?_
                                refine z_ifeq hY eL_areApart_270 (by omega) (fun c => absurd c (by omega)) (fun _ => ?_)
                                refine z_aload hY eL_areApart_273 2 rfl ?_
                                refine g_gf hY (gS_X hI28) eL_areApart_274 (v := .ref (A 13)) rfl ?_
                                refine z_const hY eL_areApart_277 ?_
                                refine z_iload hY eL_areApart_279 3 rfl ?_
                                refine z_imul hY eL_areApart_280 ?_
                                refine z_iload hY eL_areApart_281 6 rfl ?_
                                refine z_iadd hY eL_areApart_283 ?_
                                refine g_ial hY (gS_X hI28) eL_areApart_284 (j := 13) (N := 1200) (x := yPi ρ r e) (by decide) rfl (by omega) (w_pi hI28 hkk (by omega)) ?_
                                refine z_aload hY eL_areApart_285 2 rfl ?_
                                refine g_gf hY (gS_X hI28) eL_areApart_286 (v := .ref (A 13)) rfl ?_
                                refine z_const hY eL_areApart_289 ?_
                                refine z_iload hY eL_areApart_291 3 rfl ?_
                                refine z_imul hY eL_areApart_292 ?_
                                refine z_iload hY eL_areApart_293 11 rfl ?_
                                refine z_iadd hY eL_areApart_295 ?_
                                refine g_ial hY (gS_X hI28) eL_areApart_296 (j := 13) (N := 1200) (x := yPi ρ r f) (by decide) rfl (by omega) (w_pi hI28 hkk (by omega)) ?_
                                refine z_icmpge hY eL_areApart_297 (by omega) (fun c297 => ?_) (fun c297 => ?_)
                                · refine z_const hY eL_areApart_304 ?_
                                  refine z_iload hY eL_areApart_305 7 rfl ?_
                                  refine z_iload hY eL_areApart_307 1 rfl ?_
                                  refine z_icmpge hY eL_areApart_309 (by omega) (fun c309 => ?_) (fun c309 => ?_)
                                  · refine z_const hY eL_areApart_316 ?_
                                    refine z_icmpeq hY eL_areApart_317 (by omega) (fun _ => ?_) (fun c => absurd c (by omega))
                                    refine z_const hY eL_areApart_324 ?_
                                    refine z_iadd hY eL_areApart_325 ?_
                                    refine z_top (b := p2) (by omega) ?_
                                    have hq1 : (if yAq ρ r q e f then (1 : Int) else 0) = 0 := by first | exact if_pos (by unfold yAq; omega) | exact if_neg (by unfold yAq; omega)
                                    refine z_istore hY eL_areApart_326 (ls' := [(4, z_i p2), (12, z_i 1), (11, z_i (yPi ρ q f)), (0, .ref (A 40)), (1, z_i r), (2, z_i q), (3, z_i (my ρ)), (7, z_i e), (8, z_i (yPi ρ q e)), (9, z_i (yPi ρ (-1) e)), (5, z_i c), (6, z_i a), (10, z_i f)]) rfl ?_
                                    refine z_iinc hY eL_areApart_328 12 rfl (ls' := [(10, z_i (f + 1)), (4, z_i p2), (12, z_i 1), (11, z_i (yPi ρ q f)), (0, .ref (A 40)), (1, z_i r), (2, z_i q), (3, z_i (my ρ)), (7, z_i e), (8, z_i (yPi ρ q e)), (9, z_i (yPi ρ (-1) e)), (5, z_i c), (6, z_i a)]) rfl ?_
                                    refine z_goto hY eL_areApart_331 ?_
                                    refine z_sub [4, 5, 6, 7, 8, 9, 10, 11, 12, 0, 1] (ls' := [(0, .ref (A 40)), (1, z_i r), (2, z_i q), (3, z_i (my ρ)), (7, z_i e), (8, z_i (yPi ρ q e)), (9, z_i (yPi ρ (-1) e)), (5, z_i c), (6, z_i a), (10, z_i (f + 1)), (4, z_i p2)]) rfl ?_
                                    exact ih215 (f + 1) p2 (by omega) (by omega) (by rw [z_smS (by omega), hq1]; omega) (by omega)
                                  · refine z_const hY eL_areApart_312 ?_
                                    refine z_goto hY eL_areApart_313 ?_
                                    refine z_icmpeq hY eL_areApart_317 (by omega) (fun c => absurd c (by omega)) (fun _ => ?_)
                                    refine z_const hY eL_areApart_320 ?_
                                    refine z_goto hY eL_areApart_321 ?_
                                    refine z_iadd hY eL_areApart_325 ?_
                                    have hq1 : (if yAq ρ r q e f then (1 : Int) else 0) = 1 := by first | exact if_pos (by unfold yAq; omega) | exact if_neg (by unfold yAq; omega)
                                    refine z_istore hY eL_areApart_326 (ls' := [(4, z_i (p2 + 1)), (12, z_i 1), (11, z_i (yPi ρ q f)), (0, .ref (A 40)), (1, z_i r), (2, z_i q), (3, z_i (my ρ)), (7, z_i e), (8, z_i (yPi ρ q e)), (9, z_i (yPi ρ (-1) e)), (5, z_i c), (6, z_i a), (10, z_i f)]) rfl ?_
                                    refine z_iinc hY eL_areApart_328 12 rfl (ls' := [(10, z_i (f + 1)), (4, z_i (p2 + 1)), (12, z_i 1), (11, z_i (yPi ρ q f)), (0, .ref (A 40)), (1, z_i r), (2, z_i q), (3, z_i (my ρ)), (7, z_i e), (8, z_i (yPi ρ q e)), (9, z_i (yPi ρ (-1) e)), (5, z_i c), (6, z_i a)]) rfl ?_
                                    refine z_goto hY eL_areApart_331 ?_
                                    refine z_sub [4, 5, 6, 7, 8, 9, 10, 11, 12, 0, 1] (ls' := [(0, .ref (A 40)), (1, z_i r), (2, z_i q), (3, z_i (my ρ)), (7, z_i e), (8, z_i (yPi ρ q e)), (9, z_i (yPi ρ (-1) e)), (5, z_i c), (6, z_i a), (10, z_i (f + 1)), (4, z_i (p2 + 1))]) rfl ?_
                                    exact ih215 (f + 1) (p2 + 1) (by omega) (by omega) (by rw [z_smS (by omega), hq1]; omega) (by omega)
                                · refine z_const hY eL_areApart_300 ?_
                                  refine z_goto hY eL_areApart_301 ?_
                                  refine z_iload hY eL_areApart_305 7 rfl ?_
                                  refine z_iload hY eL_areApart_307 1 rfl ?_
                                  refine z_icmpge hY eL_areApart_309 (by omega) (fun c309 => ?_) (fun c309 => ?_)
                                  · refine z_const hY eL_areApart_316 ?_
                                    refine z_icmpeq hY eL_areApart_317 (by omega) (fun c => absurd c (by omega)) (fun _ => ?_)
                                    refine z_const hY eL_areApart_320 ?_
                                    refine z_goto hY eL_areApart_321 ?_
                                    refine z_iadd hY eL_areApart_325 ?_
                                    have hq1 : (if yAq ρ r q e f then (1 : Int) else 0) = 1 := by first | exact if_pos (by unfold yAq; omega) | exact if_neg (by unfold yAq; omega)
                                    refine z_istore hY eL_areApart_326 (ls' := [(4, z_i (p2 + 1)), (12, z_i 1), (11, z_i (yPi ρ q f)), (0, .ref (A 40)), (1, z_i r), (2, z_i q), (3, z_i (my ρ)), (7, z_i e), (8, z_i (yPi ρ q e)), (9, z_i (yPi ρ (-1) e)), (5, z_i c), (6, z_i a), (10, z_i f)]) rfl ?_
                                    refine z_iinc hY eL_areApart_328 12 rfl (ls' := [(10, z_i (f + 1)), (4, z_i (p2 + 1)), (12, z_i 1), (11, z_i (yPi ρ q f)), (0, .ref (A 40)), (1, z_i r), (2, z_i q), (3, z_i (my ρ)), (7, z_i e), (8, z_i (yPi ρ q e)), (9, z_i (yPi ρ (-1) e)), (5, z_i c), (6, z_i a)]) rfl ?_
                                    refine z_goto hY eL_areApart_331 ?_
                                    refine z_sub [4, 5, 6, 7, 8, 9, 10, 11, 12, 0, 1] (ls' := [(0, .ref (A 40)), (1, z_i r), (2, z_i q), (3, z_i (my ρ)), (7, z_i e), (8, z_i (yPi ρ q e)), (9, z_i (yPi ρ (-1) e)), (5, z_i c), (6, z_i a), (10, z_i (f + 1)), (4, z_i (p2 + 1))]) rfl ?_
                                    exact ih215 (f + 1) (p2 + 1) (by omega) (by omega) (by rw [z_smS (by omega), hq1]; omega) (by omega)
                                  · refine z_const hY eL_areApart_312 ?_
                                    refine z_goto hY eL_areApart_313 ?_
                                    refine z_icmpeq hY eL_areApart_317 (by omega) (fun _ => ?_) (fun c => absurd c (by omega))
                                    refine z_const hY eL_areApart_324 ?_
                                    refine z_iadd hY eL_areApart_325 ?_
                                    refine z_top (b := p2) (by omega) ?_
                                    have hq1 : (if yAq ρ r q e f then (1 : Int) else 0) = 0 := by first | exact if_pos (by unfold yAq; omega) | exact if_neg (by unfold yAq; omega)
                                    refine z_istore hY eL_areApart_326 (ls' := [(4, z_i p2), (12, z_i 1), (11, z_i (yPi ρ q f)), (0, .ref (A 40)), (1, z_i r), (2, z_i q), (3, z_i (my ρ)), (7, z_i e), (8, z_i (yPi ρ q e)), (9, z_i (yPi ρ (-1) e)), (5, z_i c), (6, z_i a), (10, z_i f)]) rfl ?_
                                    refine z_iinc hY eL_areApart_328 12 rfl (ls' := [(10, z_i (f + 1)), (4, z_i p2), (12, z_i 1), (11, z_i (yPi ρ q f)), (0, .ref (A 40)), (1, z_i r), (2, z_i q), (3, z_i (my ρ)), (7, z_i e), (8, z_i (yPi ρ q e)), (9, z_i (yPi ρ (-1) e)), (5, z_i c), (6, z_i a)]) rfl ?_
                                    refine z_goto hY eL_areApart_331 ?_
                                    refine z_sub [4, 5, 6, 7, 8, 9, 10, 11, 12, 0, 1] (ls' := [(0, .ref (A 40)), (1, z_i r), (2, z_i q), (3, z_i (my ρ)), (7, z_i e), (8, z_i (yPi ρ q e)), (9, z_i (yPi ρ (-1) e)), (5, z_i c), (6, z_i a), (10, z_i (f + 1)), (4, z_i p2)]) rfl ?_
                                    exact ih215 (f + 1) p2 (by omega) (by omega) (by rw [z_smS (by omega), hq1]; omega) (by omega)
                    exact lp215 _ 0 p (Nat.lt_succ_self _) (by omega) (by rw [z_sm0 (by omega)]; omega) (by omega)
                  · refine z_aload hY eL_areApart_192 2 rfl ?_
                    refine g_gf hY (gS_X hI28) eL_areApart_193 (v := .ref (A 13)) rfl ?_
                    refine z_const hY eL_areApart_196 ?_
                    refine z_iload hY eL_areApart_198 3 rfl ?_
                    refine z_imul hY eL_areApart_199 ?_
                    refine z_iload hY eL_areApart_200 6 rfl ?_
                    refine z_iadd hY eL_areApart_202 ?_
                    refine g_ial hY (gS_X hI28) eL_areApart_203 (j := 13) (N := 1200) (x := yPi ρ r e) (by decide) rfl (by omega) (w_pi hI28 hkk (by omega)) ?_
                    refine z_iload hY eL_areApart_204 0 rfl ?_
                    refine z_isub hY eL_areApart_206 ?_
                    refine z_istore hY eL_areApart_207 (ls' := [(5, z_i ((yPi ρ r e) - (yPi ρ (-1) e))), (9, z_i (yPi ρ (-1) e)), (8, z_i (yPi ρ q e)), (0, .ref (A 40)), (1, z_i r), (2, z_i q), (3, z_i (my ρ)), (7, z_i e), (4, z_i p), (6, z_i a)]) rfl ?_
                    refine z_const hY eL_areApart_209 ?_
                    refine z_istore hY eL_areApart_210 (ls' := [(6, z_i 1), (5, z_i ((yPi ρ r e) - (yPi ρ (-1) e))), (9, z_i (yPi ρ (-1) e)), (8, z_i (yPi ρ q e)), (0, .ref (A 40)), (1, z_i r), (2, z_i q), (3, z_i (my ρ)), (7, z_i e), (4, z_i p)]) rfl ?_
                    refine z_const hY eL_areApart_212 ?_
                    refine z_istore hY eL_areApart_213 (ls' := [(10, z_i 0), (6, z_i 1), (5, z_i ((yPi ρ r e) - (yPi ρ (-1) e))), (9, z_i (yPi ρ (-1) e)), (8, z_i (yPi ρ q e)), (0, .ref (A 40)), (1, z_i r), (2, z_i q), (3, z_i (my ρ)), (7, z_i e), (4, z_i p)]) rfl ?_
                    have hcl2 : aC ρ r (e + 1) ((yPi ρ r e) - (yPi ρ (-1) e)) 1 := (by rcases hyq with w9 | w9; (rw [w9.2]; exact aC_n hcl w9.1 (by omega) (by omega)); (have w8 := w9 (by omega); omega))
                    have hcb2 : -40 ≤ ((yPi ρ r e) - (yPi ρ (-1) e)) ∧ ((yPi ρ r e) - (yPi ρ (-1) e)) ≤ 40 := by omega
                    refine z_sub [5, 6, 7, 8, 9, 4, 3, 2, 1, 0, 10] (ls' := [(0, .ref (A 40)), (1, z_i r), (2, z_i q), (3, z_i (my ρ)), (7, z_i e), (8, z_i (yPi ρ q e)), (9, z_i (yPi ρ (-1) e)), (5, z_i ((yPi ρ r e) - (yPi ρ (-1) e))), (6, z_i 1), (10, z_i 0), (4, z_i p)]) rfl ?_
                    have lp215 : ∀ (fu : Nat) (f : Int) (p2 : Int), (e - f).toNat < fu → (0 ≤ f ∧ f ≤ e) → (p2 = p + z_sm (fun f => if yAq ρ r q e f then (1 : Int) else 0) f) → (p ≤ p2 ∧ p2 ≤ p + f) → z_W Y 215 [(0, .ref (A 40)), (1, z_i r), (2, z_i q), (3, z_i (my ρ)), (7, z_i e), (8, z_i (yPi ρ q e)), (9, z_i (yPi ρ (-1) e)), (5, z_i ((yPi ρ r e) - (yPi ρ (-1) e))), (6, z_i 1), (10, z_i f), (4, z_i p2)] [] (gH D B κ A σ28 h) (2 * e.toNat + 2) (12 * e.toNat + 12) := by
                      intro fu
                      induction fu with
                      | zero => intro f p2 hf; exact absurd hf (Nat.not_lt_zero _)
                      | succ fu ih215 =>
                        intro f p2 hf hf hp2 hpb2
                        refine z_iload hY eL_areApart_215 9 rfl ?_
                        refine z_iload hY eL_areApart_217 4 rfl ?_
                        refine z_icmpge hY eL_areApart_219 (by omega) (fun c219 => ?_) (fun c219 => ?_)
                        · refine z_iinc hY eL_areApart_334 4 rfl (ls' := [(7, z_i (e + 1)), (0, .ref (A 40)), (1, z_i r), (2, z_i q), (3, z_i (my ρ)), (8, z_i (yPi ρ q e)), (9, z_i (yPi ρ (-1) e)), (5, z_i ((yPi ρ r e) - (yPi ρ (-1) e))), (6, z_i 1), (10, z_i f), (4, z_i p2)]) rfl ?_
                          refine z_goto hY eL_areApart_337 ?_
                          refine z_sub [1, 2, 3, 4, 0, 10, 7, 8] (ls' := [(0, .ref (A 40)), (1, z_i r), (2, z_i q), (3, z_i (my ρ)), (7, z_i (e + 1)), (4, z_i p2), (5, z_i ((yPi ρ r e) - (yPi ρ (-1) e))), (6, z_i 1)]) rfl ?_
                          refine z_widen (k' := (2 * (e + 1).toNat)) (n' := (12 * (e + 1).toNat)) (by omega) (by omega) ?_
                          exact ih90 (e + 1) p2 ((yPi ρ r e) - (yPi ρ (-1) e)) 1 (by omega) (by omega) (by rw [z_smS (by omega), ← hp]; unfold aF; first | (rw [show e = f by omega]; rw [show e = f by omega] at hp2; omega) | (rw [aF_0 (Or.inr (by omega))]; rw [aF_0 (Or.inr (by omega))] at hp2; omega)) hcl2 (by omega) (by omega)
                        · refine z_iload hY eL_areApart_222 5 rfl ?_
                          refine z_const hY eL_areApart_224 ?_
                          refine z_icmpeq hY eL_areApart_225 (by omega) (fun c225 => ?_) (fun c225 => ?_)
                          · refine z_iinc hY eL_areApart_334 4 rfl (ls' := [(7, z_i (e + 1)), (0, .ref (A 40)), (1, z_i r), (2, z_i q), (3, z_i (my ρ)), (8, z_i (yPi ρ q e)), (9, z_i (yPi ρ (-1) e)), (5, z_i ((yPi ρ r e) - (yPi ρ (-1) e))), (6, z_i 1), (10, z_i f), (4, z_i p2)]) rfl ?_
                            refine z_goto hY eL_areApart_337 ?_
                            refine z_sub [1, 2, 3, 4, 0, 10, 7, 8] (ls' := [(0, .ref (A 40)), (1, z_i r), (2, z_i q), (3, z_i (my ρ)), (7, z_i (e + 1)), (4, z_i p2), (5, z_i ((yPi ρ r e) - (yPi ρ (-1) e))), (6, z_i 1)]) rfl ?_
                            refine z_widen (k' := (2 * (e + 1).toNat)) (n' := (12 * (e + 1).toNat)) (by omega) (by omega) ?_
                            exact ih90 (e + 1) p2 ((yPi ρ r e) - (yPi ρ (-1) e)) 1 (by omega) (by omega) (by rw [z_smS (by omega), ← hp]; unfold aF; first | (rw [show e = f by omega]; rw [show e = f by omega] at hp2; omega) | (rw [aF_0 (Or.inr (by omega))]; rw [aF_0 (Or.inr (by omega))] at hp2; omega)) hcl2 (by omega) (by omega)
                          · have hyf := yPi_r hI28 (r := r) (e := f) (by omega) (Or.inr hkk)
                            refine z_aload hY eL_areApart_228 0 rfl ?_
                            refine z_iload hY eL_areApart_229 2 rfl ?_
                            refine z_iload hY eL_areApart_230 9 rfl ?_
                            refine z_callVr (As := [z_i q, z_i f]) (rest := []) (r := z_i (yPi ρ q f)) hY eL_areApart_232 (la_placeThen hG hI28 hrow28 (r := q) (e := f) (by omega) (by omega)) ((gH_at (gS_X hI28) (by decide)).trans (congrArg some lC_40)) (by decide) (Nat.le_of_ble_eq_true rfl) (by rw [hmc, hms]; omega) ?_
                            have hyb45 := yPi_r hI28 (r := q) (e := f) (by omega) (by first | exact Or.inl rfl | exact hkq | exact Or.inr hkk)
                            refine z_istore hY eL_areApart_235 (ls' := [(11, z_i (yPi ρ q f)), (0, .ref (A 40)), (1, z_i r), (2, z_i q), (3, z_i (my ρ)), (7, z_i e), (8, z_i (yPi ρ q e)), (9, z_i (yPi ρ (-1) e)), (5, z_i ((yPi ρ r e) - (yPi ρ (-1) e))), (6, z_i 1), (10, z_i f), (4, z_i p2)]) rfl ?_
                            refine z_iload hY eL_areApart_237 0 rfl ?_
                            refine z_const hY eL_areApart_239 ?_
                            refine z_icmpeq hY eL_areApart_240 (by omega) (fun c240 => ?_) (fun c240 => ?_)
                            · refine z_const hY eL_areApart_263 ?_
                              refine z_istore hY eL_areApart_264 (ls' := [(12, z_i 0), (11, z_i (yPi ρ q f)), (0, .ref (A 40)), (1, z_i r), (2, z_i q), (3, z_i (my ρ)), (7, z_i e), (8, z_i (yPi ρ q e)), (9, z_i (yPi ρ (-1) e)), (5, z_i ((yPi ρ r e) - (yPi ρ (-1) e))), (6, z_i 1), (10, z_i f), (4, z_i p2)]) rfl ?_
                              refine z_iload hY eL_areApart_266 12 rfl ?_
                              refine z_iload hY eL_areApart_268 0 rfl ?_
                              refine z_ifeq hY eL_areApart_270 (by omega) (fun _ => ?_) (fun c => absurd c (by omega))
                              refine z_const hY eL_areApart_324 ?_
                              refine z_iadd hY eL_areApart_325 ?_
                              refine z_top (b := p2) (by omega) ?_
                              have hq1 : (if yAq ρ r q e f then (1 : Int) else 0) = 0 := by first | exact if_pos (by unfold yAq; omega) | exact if_neg (by unfold yAq; omega)
                              refine z_istore hY eL_areApart_326 (ls' := [(4, z_i p2), (12, z_i 0), (11, z_i (yPi ρ q f)), (0, .ref (A 40)), (1, z_i r), (2, z_i q), (3, z_i (my ρ)), (7, z_i e), (8, z_i (yPi ρ q e)), (9, z_i (yPi ρ (-1) e)), (5, z_i ((yPi ρ r e) - (yPi ρ (-1) e))), (6, z_i 1), (10, z_i f)]) rfl ?_
                              refine z_iinc hY eL_areApart_328 12 rfl (ls' := [(10, z_i (f + 1)), (4, z_i p2), (12, z_i 0), (11, z_i (yPi ρ q f)), (0, .ref (A 40)), (1, z_i r), (2, z_i q), (3, z_i (my ρ)), (7, z_i e), (8, z_i (yPi ρ q e)), (9, z_i (yPi ρ (-1) e)), (5, z_i ((yPi ρ r e) - (yPi ρ (-1) e))), (6, z_i 1)]) rfl ?_
                              refine z_goto hY eL_areApart_331 ?_
                              refine z_sub [4, 5, 6, 7, 8, 9, 10, 11, 12, 0, 1] (ls' := [(0, .ref (A 40)), (1, z_i r), (2, z_i q), (3, z_i (my ρ)), (7, z_i e), (8, z_i (yPi ρ q e)), (9, z_i (yPi ρ (-1) e)), (5, z_i ((yPi ρ r e) - (yPi ρ (-1) e))), (6, z_i 1), (10, z_i (f + 1)), (4, z_i p2)]) rfl ?_
                              exact ih215 (f + 1) p2 (by omega) (by omega) (by rw [z_smS (by omega), hq1]; omega) (by omega)
                            · refine z_aload hY eL_areApart_243 1 rfl ?_
                              refine g_gf hY (gS_X hI28) eL_areApart_244 (v := .ref (A 13)) rfl ?_
                              refine z_const hY eL_areApart_247 ?_
                              refine z_iload hY eL_areApart_249 2 rfl ?_
                              refine z_imul hY eL_areApart_250 ?_
                              refine z_iload hY eL_areApart_251 10 rfl ?_
                              refine z_iadd hY eL_areApart_253 ?_
                              refine g_ial hY (gS_X hI28) eL_areApart_254 (j := 13) (N := 1200) (x := yPi ρ r f) (by decide) rfl (by omega) (w_pi hI28 hkk (by omega)) ?_
                              refine z_const hY eL_areApart_255 ?_
                              refine z_icmpeq hY eL_areApart_256 (by omega) (fun c256 => ?_) (fun c256 => ?_)
                              · refine z_const hY eL_areApart_263 ?_
                                refine z_istore hY eL_areApart_264 (ls' := [(12, z_i 0), (11, z_i (yPi ρ q f)), (0, .ref (A 40)), (1, z_i r), (2, z_i q), (3, z_i (my ρ)), (7, z_i e), (8, z_i (yPi ρ q e)), (9, z_i (yPi ρ (-1) e)), (5, z_i ((yPi ρ r e) - (yPi ρ (-1) e))), (6, z_i 1), (10, z_i f), (4, z_i p2)]) rfl ?_
                                refine z_iload hY eL_areApart_266 12 rfl ?_
                                refine z_iload hY eL_areApart_268 0 rfl ?_
                                refine z_ifeq hY eL_areApart_270 (by omega) (fun _ => ?_) (fun c => absurd c (by omega))
                                refine z_const hY eL_areApart_324 ?_
                                refine z_iadd hY eL_areApart_325 ?_
                                refine z_top (b := p2) (by omega) ?_
                                have hq1 : (if yAq ρ r q e f then (1 : Int) else 0) = 0 := by first | exact if_pos (by unfold yAq; omega) | exact if_neg (by unfold yAq; omega)
                                refine z_istore hY eL_areApart_326 (ls' := [(4, z_i p2), (12, z_i 0), (11, z_i (yPi ρ q f)), (0, .ref (A 40)), (1, z_i r), (2, z_i q), (3, z_i (my ρ)), (7, z_i e), (8, z_i (yPi ρ q e)), (9, z_i (yPi ρ (-1) e)), (5, z_i ((yPi ρ r e) - (yPi ρ (-1) e))), (6, z_i 1), (10, z_i f)]) rfl ?_
                                refine z_iinc hY eL_areApart_328 12 rfl (ls' := [(10, z_i (f + 1)), (4, z_i p2), (12, z_i 0), (11, z_i (yPi ρ q f)), (0, .ref (A 40)), (1, z_i r), (2, z_i q), (3, z_i (my ρ)), (7, z_i e), (8, z_i (yPi ρ q e)), (9, z_i (yPi ρ (-1) e)), (5, z_i ((yPi ρ r e) - (yPi ρ (-1) e))), (6, z_i 1)]) rfl ?_
                                refine z_goto hY eL_areApart_331 ?_
                                refine z_sub [4, 5, 6, 7, 8, 9, 10, 11, 12, 0, 1] (ls' := [(0, .ref (A 40)), (1, z_i r), (2, z_i q), (3, z_i (my ρ)), (7, z_i e), (8, z_i (yPi ρ q e)), (9, z_i (yPi ρ (-1) e)), (5, z_i ((yPi ρ r e) - (yPi ρ (-1) e))), (6, z_i 1), (10, z_i (f + 1)), (4, z_i p2)]) rfl ?_
                                exact ih215 (f + 1) p2 (by omega) (by omega) (by rw [z_smS (by omega), hq1]; omega) (by omega)
                              · refine z_const hY eL_areApart_259 ?_
                                refine z_goto hY eL_areApart_260 ?_
                                refine z_istore hY eL_areApart_264 (ls' := [(12, z_i 1), (11, z_i (yPi ρ q f)), (0, .ref (A 40)), (1, z_i r), (2, z_i q), (3, z_i (my ρ)), (7, z_i e), (8, z_i (yPi ρ q e)), (9, z_i (yPi ρ (-1) e)), (5, z_i ((yPi ρ r e) - (yPi ρ (-1) e))), (6, z_i 1), (10, z_i f), (4, z_i p2)]) rfl ?_
                                refine z_iload hY eL_areApart_266 12 rfl ?_
                                refine z_iload hY eL_areApart_268 0 rfl ?_
                                refine z_ifeq hY eL_areApart_270 (by omega) (fun c => absurd c (by omega)) (fun _ => ?_)
                                refine z_aload hY eL_areApart_273 2 rfl ?_
                                refine g_gf hY (gS_X hI28) eL_areApart_274 (v := .ref (A 13)) rfl ?_
                                refine z_const hY eL_areApart_277 ?_
                                refine z_iload hY eL_areApart_279 3 rfl ?_
                                refine z_imul hY eL_areApart_280 ?_
                                refine z_iload hY eL_areApart_281 6 rfl ?_
                                refine z_iadd hY eL_areApart_283 ?_
                                refine g_ial hY (gS_X hI28) eL_areApart_284 (j := 13) (N := 1200) (x := yPi ρ r e) (by decide) rfl (by omega) (w_pi hI28 hkk (by omega)) ?_
                                refine z_aload hY eL_areApart_285 2 rfl ?_
                                refine g_gf hY (gS_X hI28) eL_areApart_286 (v := .ref (A 13)) rfl ?_
                                refine z_const hY eL_areApart_289 ?_
                                refine z_iload hY eL_areApart_291 3 rfl ?_
                                refine z_imul hY eL_areApart_292 ?_
                                refine z_iload hY eL_areApart_293 11 rfl ?_
                                refine z_iadd hY eL_areApart_295 ?_
                                refine g_ial hY (gS_X hI28) eL_areApart_296 (j := 13) (N := 1200) (x := yPi ρ r f) (by decide) rfl (by omega) (w_pi hI28 hkk (by omega)) ?_
                                refine z_icmpge hY eL_areApart_297 (by omega) (fun c297 => ?_) (fun c297 => ?_)
                                · refine z_const hY eL_areApart_304 ?_
                                  refine z_iload hY eL_areApart_305 7 rfl ?_
                                  refine z_iload hY eL_areApart_307 1 rfl ?_
                                  refine z_icmpge hY eL_areApart_309 (by omega) (fun c309 => ?_) (fun c309 => ?_)
                                  · refine z_const hY eL_areApart_316 ?_
                                    refine z_icmpeq hY eL_areApart_317 (by omega) (fun _ => ?_) (fun c => absurd c (by omega))
                                    refine z_const hY eL_areApart_324 ?_
                                    refine z_iadd hY eL_areApart_325 ?_
                                    refine z_top (b := p2) (by omega) ?_
                                    have hq1 : (if yAq ρ r q e f then (1 : Int) else 0) = 0 := by first | exact if_pos (by unfold yAq; omega) | exact if_neg (by unfold yAq; omega)
                                    refine z_istore hY eL_areApart_326 (ls' := [(4, z_i p2), (12, z_i 1), (11, z_i (yPi ρ q f)), (0, .ref (A 40)), (1, z_i r), (2, z_i q), (3, z_i (my ρ)), (7, z_i e), (8, z_i (yPi ρ q e)), (9, z_i (yPi ρ (-1) e)), (5, z_i ((yPi ρ r e) - (yPi ρ (-1) e))), (6, z_i 1), (10, z_i f)]) rfl ?_
                                    refine z_iinc hY eL_areApart_328 12 rfl (ls' := [(10, z_i (f + 1)), (4, z_i p2), (12, z_i 1), (11, z_i (yPi ρ q f)), (0, .ref (A 40)), (1, z_i r), (2, z_i q), (3, z_i (my ρ)), (7, z_i e), (8, z_i (yPi ρ q e)), (9, z_i (yPi ρ (-1) e)), (5, z_i ((yPi ρ r e) - (yPi ρ (-1) e))), (6, z_i 1)]) rfl ?_
                                    refine z_goto hY eL_areApart_331 ?_
                                    refine z_sub [4, 5, 6, 7, 8, 9, 10, 11, 12, 0, 1] (ls' := [(0, .ref (A 40)), (1, z_i r), (2, z_i q), (3, z_i (my ρ)), (7, z_i e), (8, z_i (yPi ρ q e)), (9, z_i (yPi ρ (-1) e)), (5, z_i ((yPi ρ r e) - (yPi ρ (-1) e))), (6, z_i 1), (10, z_i (f + 1)), (4, z_i p2)]) rfl ?_
                                    exact ih215 (f + 1) p2 (by omega) (by omega) (by rw [z_smS (by omega), hq1]; omega) (by omega)
                                  · refine z_const hY eL_areApart_312 ?_
                                    refine z_goto hY eL_areApart_313 ?_
                                    refine z_icmpeq hY eL_areApart_317 (by omega) (fun c => absurd c (by omega)) (fun _ => ?_)
                                    refine z_const hY eL_areApart_320 ?_
                                    refine z_goto hY eL_areApart_321 ?_
                                    refine z_iadd hY eL_areApart_325 ?_
                                    have hq1 : (if yAq ρ r q e f then (1 : Int) else 0) = 1 := by first | exact if_pos (by unfold yAq; omega) | exact if_neg (by unfold yAq; omega)
                                    refine z_istore hY eL_areApart_326 (ls' := [(4, z_i (p2 + 1)), (12, z_i 1), (11, z_i (yPi ρ q f)), (0, .ref (A 40)), (1, z_i r), (2, z_i q), (3, z_i (my ρ)), (7, z_i e), (8, z_i (yPi ρ q e)), (9, z_i (yPi ρ (-1) e)), (5, z_i ((yPi ρ r e) - (yPi ρ (-1) e))), (6, z_i 1), (10, z_i f)]) rfl ?_
                                    refine z_iinc hY eL_areApart_328 12 rfl (ls' := [(10, z_i (f + 1)), (4, z_i (p2 + 1)), (12, z_i 1), (11, z_i (yPi ρ q f)), (0, .ref (A 40)), (1, z_i r), (2, z_i q), (3, z_i (my ρ)), (7, z_i e), (8, z_i (yPi ρ q e)), (9, z_i (yPi ρ (-1) e)), (5, z_i ((yPi ρ r e) - (yPi ρ (-1) e))), (6, z_i 1)]) rfl ?_
                                    refine z_goto hY eL_areApart_331 ?_
                                    refine z_sub [4, 5, 6, 7, 8, 9, 10, 11, 12, 0, 1] (ls' := [(0, .ref (A 40)), (1, z_i r), (2, z_i q), (3, z_i (my ρ)), (7, z_i e), (8, z_i (yPi ρ q e)), (9, z_i (yPi ρ (-1) e)), (5, z_i ((yPi ρ r e) - (yPi ρ (-1) e))), (6, z_i 1), (10, z_i (f + 1)), (4, z_i (p2 + 1))]) rfl ?_
                                    exact ih215 (f + 1) (p2 + 1) (by omega) (by omega) (by rw [z_smS (by omega), hq1]; omega) (by omega)
                                · refine z_const hY eL_areApart_300 ?_
                                  refine z_goto hY eL_areApart_301 ?_
                                  refine z_iload hY eL_areApart_305 7 rfl ?_
                                  refine z_iload hY eL_areApart_307 1 rfl ?_
                                  refine z_icmpge hY eL_areApart_309 (by omega) (fun c309 => ?_) (fun c309 => ?_)
                                  · refine z_const hY eL_areApart_316 ?_
                                    refine z_icmpeq hY eL_areApart_317 (by omega) (fun c => absurd c (by omega)) (fun _ => ?_)
                                    refine z_const hY eL_areApart_320 ?_
                                    refine z_goto hY eL_areApart_321 ?_
                                    refine z_iadd hY eL_areApart_325 ?_
                                    have hq1 : (if yAq ρ r q e f then (1 : Int) else 0) = 1 := by first | exact if_pos (by unfold yAq; omega) | exact if_neg (by unfold yAq; omega)
                                    refine z_istore hY eL_areApart_326 (ls' := [(4, z_i (p2 + 1)), (12, z_i 1), (11, z_i (yPi ρ q f)), (0, .ref (A 40)), (1, z_i r), (2, z_i q), (3, z_i (my ρ)), (7, z_i e), (8, z_i (yPi ρ q e)), (9, z_i (yPi ρ (-1) e)), (5, z_i ((yPi ρ r e) - (yPi ρ (-1) e))), (6, z_i 1), (10, z_i f)]) rfl ?_
                                    refine z_iinc hY eL_areApart_328 12 rfl (ls' := [(10, z_i (f + 1)), (4, z_i (p2 + 1)), (12, z_i 1), (11, z_i (yPi ρ q f)), (0, .ref (A 40)), (1, z_i r), (2, z_i q), (3, z_i (my ρ)), (7, z_i e), (8, z_i (yPi ρ q e)), (9, z_i (yPi ρ (-1) e)), (5, z_i ((yPi ρ r e) - (yPi ρ (-1) e))), (6, z_i 1)]) rfl ?_
                                    refine z_goto hY eL_areApart_331 ?_
                                    refine z_sub [4, 5, 6, 7, 8, 9, 10, 11, 12, 0, 1] (ls' := [(0, .ref (A 40)), (1, z_i r), (2, z_i q), (3, z_i (my ρ)), (7, z_i e), (8, z_i (yPi ρ q e)), (9, z_i (yPi ρ (-1) e)), (5, z_i ((yPi ρ r e) - (yPi ρ (-1) e))), (6, z_i 1), (10, z_i (f + 1)), (4, z_i (p2 + 1))]) rfl ?_
                                    exact ih215 (f + 1) (p2 + 1) (by omega) (by omega) (by rw [z_smS (by omega), hq1]; omega) (by omega)
                                  · refine z_const hY eL_areApart_312 ?_
                                    refine z_goto hY eL_areApart_313 ?_
                                    refine z_icmpeq hY eL_areApart_317 (by omega) (fun _ => ?_) (fun c => absurd c (by omega))
                                    refine z_const hY eL_areApart_324 ?_
                                    refine z_iadd hY eL_areApart_325 ?_
                                    refine z_top (b := p2) (by omega) ?_
                                    have hq1 : (if yAq ρ r q e f then (1 : Int) else 0) = 0 := by first | exact if_pos (by unfold yAq; omega) | exact if_neg (by unfold yAq; omega)
                                    refine z_istore hY eL_areApart_326 (ls' := [(4, z_i p2), (12, z_i 1), (11, z_i (yPi ρ q f)), (0, .ref (A 40)), (1, z_i r), (2, z_i q), (3, z_i (my ρ)), (7, z_i e), (8, z_i (yPi ρ q e)), (9, z_i (yPi ρ (-1) e)), (5, z_i ((yPi ρ r e) - (yPi ρ (-1) e))), (6, z_i 1), (10, z_i f)]) rfl ?_
                                    refine z_iinc hY eL_areApart_328 12 rfl (ls' := [(10, z_i (f + 1)), (4, z_i p2), (12, z_i 1), (11, z_i (yPi ρ q f)), (0, .ref (A 40)), (1, z_i r), (2, z_i q), (3, z_i (my ρ)), (7, z_i e), (8, z_i (yPi ρ q e)), (9, z_i (yPi ρ (-1) e)), (5, z_i ((yPi ρ r e) - (yPi ρ (-1) e))), (6, z_i 1)]) rfl ?_
                                    refine z_goto hY eL_areApart_331 ?_
                                    refine z_sub [4, 5, 6, 7, 8, 9, 10, 11, 12, 0, 1] (ls' := [(0, .ref (A 40)), (1, z_i r), (2, z_i q), (3, z_i (my ρ)), (7, z_i e), (8, z_i (yPi ρ q e)), (9, z_i (yPi ρ (-1) e)), (5, z_i ((yPi ρ r e) - (yPi ρ (-1) e))), (6, z_i 1), (10, z_i (f + 1)), (4, z_i p2)]) rfl ?_
                                    exact ih215 (f + 1) p2 (by omega) (by omega) (by rw [z_smS (by omega), hq1]; omega) (by omega)
                    exact lp215 _ 0 p (Nat.lt_succ_self _) (by omega) (by rw [z_sm0 (by omega)]; omega) (by omega)
            · refine z_goto hY eL_areApart_149 ?_
              refine z_iinc hY eL_areApart_334 5 rfl (ls' := [(7, z_i (e + 1)), (8, z_i (yPi ρ q e)), (0, .ref (A 40)), (1, z_i r), (2, z_i q), (3, z_i (my ρ)), (4, z_i p), (5, z_i c), (6, z_i a)]) rfl ?_
              refine z_goto hY eL_areApart_337 ?_
              refine z_sub [2, 3, 4, 5, 0, 6, 7, 8] (ls' := [(0, .ref (A 40)), (1, z_i r), (2, z_i q), (3, z_i (my ρ)), (7, z_i (e + 1)), (4, z_i p), (5, z_i c), (6, z_i a)]) rfl ?_
              refine z_widen (k' := (2 * (e + 1).toNat)) (n' := (12 * (e + 1).toNat)) (by omega) (by omega) ?_
              exact ih90 (e + 1) p c a (by omega) (by omega) (by rw [z_smS (by omega), ← hp]; unfold aF; rw [aF_0 (Or.inl (by omega))]; omega) (aC_s hcl (fun _ => Or.inl (by omega))) (by omega) (by omega)
      refine z_widen (k' := (2 * (0 : Int).toNat)) (n' := (12 * (0 : Int).toNat)) (by omega) (by omega) ?_
      exact lp90 _ 0 0 0 0 (Nat.lt_succ_self _) (by omega) (z_sm0 (by omega)).symm aC_0 (by omega) (by omega)
  · refine z_aload hY eL_areApart_7 0 rfl ?_
    refine g_gf hY (gS_X hI) eL_areApart_8 (v := .ref (B 0 0)) rfl ?_
    refine z_const hY eL_areApart_11 ?_
    refine z_const hY eL_areApart_12 ?_
    have hk1 := (gS_R hI).a.2.1.trans (gS_30 hI)
    refine z_callV (As := [z_i (-1), z_i (-1)]) (rest := []) hY eL_areApart_13 (q_inversions (D := D) (h := lH A (B 0 0) σ h) hG (gS_J hI) (gS_B hI) (gS_V hI) (gS_S hI) (by omega) (by omega)) (cH_at (t := 0) (i := 0) (gS_J hI) (by omega)) (by decide) (Nat.le_of_ble_eq_true rfl) (by rw [hmc, hms]; omega) (fun E9 h9 q => by obtain ⟨-, q⟩ := q; exfalso; omega) (fun vv47 hh47 q47 => ?_)
    obtain ⟨-, rfl, R46, hR46, rfl⟩ := q47
    have hI46 := gS_r3 hI hR46
    refine z_heq (show _ = gH D B (k_r κ 3 0 R46) A σ h from rfl) ?_
    refine z_top (b := yAp ρ (-1) (-1)) ((gS_R hI).aInv (gS_M hI) (by first | exact Or.inl rfl | exact hkO | exact hkP) (by first | exact Or.inl rfl | exact hkO | exact hkP)).2 ?_
    refine z_top (b := 0) (yAp_00 ρ) ?_
    refine z_ifne hY eL_areApart_16 (by omega) (fun c16 => by exfalso; omega) (fun c16 => ?_)
    refine z_const hY eL_areApart_19 ?_
    refine z_goto hY eL_areApart_20 ?_
    exact z_zreturn hY eL_areApart_24 rfl (by omega) (by rw [hφ]; exact ⟨k_r κ 3 0 R46, B, ρ, σ, h, rfl, hI46, rfl, rfl⟩) (by rw [hmc, hms]; omega)
end LV8
