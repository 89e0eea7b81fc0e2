/-! THE LAW lets them come and score (laid by wip/p53/gen/gl77.py). -/
section LV4
section
variable {t t2 : Nat} {m m2 : Int} {o : Prop} {B B2 : Nat → Int → Nat} {κ κ2 : c_K} {A : Nat → Nat} {ρ ρ' σ σ2 : z_S}
theorem gS_grp (h : gS t m o B κ A ρ σ) {e : Int} (he : pr ρ e) : κ 35 e 0 = σ 3 e := by
  have hb := gS_pb h he
  have h19 := gS_19 h
  exact ((gS_R h).e ⟨he.1, he.2.1⟩).2.1.trans ((gS_L h).2.1.2.1 e he.1 hb.1.2)
theorem gS_30k (h : gS t m o B κ A ρ σ) {e k : Int} (he : pr ρ e) (hk : 0 ≤ k ∧ k ≤ 3) : κ 30 e k = σ 2 (4 * e + k) := by
  have hb := gS_pb h he
  exact (((gS_R h).e ⟨he.1, he.2.1⟩).1 k hk.1 (by omega)).trans (gS_14 h (by omega))
/-- but for one score the same -/
def jE (ρ' ρ : z_S) (e k v : Int) : Prop := ρ' 8 = ρ 8 ∧ ρ' 10 = ρ 10 ∧ ρ' 12 = ρ 12 ∧ ρ' 18 = ρ 18 ∧ ρ' 19 = ρ 19 ∧ ρ' 14 = z_up (ρ 14) (4 * e + k) v
theorem jE_1 {e k v : Int} : jE (yBe ρ e k v) ρ e k v := ⟨yBe_k (by decide), yBe_k (by decide), yBe_k (by decide), yBe_k (by decide), yBe_k (by decide), yBe_14.trans z_u_eq⟩
theorem jE_2 {e k v w : Int} (h : jE ρ' ρ e k w) : jE (yBe ρ' e k v) ρ e k v := by
  obtain ⟨a, b, c, d, f, g⟩ := h
  refine ⟨(yBe_k (by decide)).trans a, (yBe_k (by decide)).trans b, (yBe_k (by decide)).trans c, (yBe_k (by decide)).trans d, (yBe_k (by decide)).trans f, yBe_14.trans (z_u_eq.trans ?_)⟩
  rw [g]
  funext j
  unfold z_up
  by_cases q : j = 4 * e + k
  · rw [if_pos q, if_pos q]
  · rw [if_neg q, if_neg q, if_neg q]
theorem jE_q {e k v : Int} (h : jE ρ' ρ e k v) : mEqv ρ' (z_u ρ 14 (4 * e + k) v) := by
  obtain ⟨a, b, c, d, f, g⟩ := h
  exact ⟨a, b, c, g.trans z_u_eq.symm, d, f⟩
theorem jE_pr {e k v x : Int} (h : jE ρ' ρ e k v) : pr ρ' x ↔ pr ρ x := by
  obtain ⟨a, b, c, d, f, g⟩ := h
  unfold pr
  rw [d, f]
theorem w_pw (h : gS t m o B κ A ρ σ) (h2 : gS t2 m2 o B2 κ2 A ρ' σ2) {e k v : Int} (hE : jE ρ' ρ e k v) (he : pr ρ e) (hk : 0 ≤ k ∧ k ≤ 3) : κ2 37 e 0 = cPw κ e k v := by
  rw [(gS_R h).aPw (gS_M h) (gS_S h) he hk, ← pl_congr (jE_q hE) e]
  exact ((gS_R h2).xpl (gS_M h2) ((jE_pr hE).mpr he)).1.symm
/-- the rank with some points more -/
theorem w_rk (h2 : gS t2 m2 o B2 κ2 A ρ' σ2) {e v : Int} (hE : jE ρ' ρ e 0 v) (he : pr ρ e) : sRk κ2 e = jf ρ e (v - ρ 14 (4 * e)) + 1 := by
  rw [(gS_R h2).xsRk (gS_M h2) (gS_S h2) ((jE_pr hE).mpr he), bt_congr (jE_q hE) e]
  show bt (z_u ρ 14 (4 * e + 0) v) e + 1 = bt (z_u ρ 14 (4 * e) (ρ 14 (4 * e) + (v - ρ 14 (4 * e)))) e + 1
  rw [show 4 * e + 0 = 4 * e by omega, show ρ 14 (4 * e) + (v - ρ 14 (4 * e)) = v by omega]
theorem w_nd (h : gS t m o B κ A ρ σ) {e q : Int} (he : pr ρ e) (hs : σ 2 (4 * e) + 1000 ≤ 100000) : (cNd κ e q = -1 ∧ ¬ jf ρ e 1000 < q) ∨ (0 ≤ cNd κ e q ∧ cNd κ e q ≤ 1000 ∧ jf ρ e (cNd κ e q) < q ∧ (0 < cNd κ e q → ¬ jf ρ e (cNd κ e q - 1) < q)) := by
  have hV := gS_M h
  have hf : ∀ m, cRw κ e m = jf ρ e m + 1 := fun m => (gS_R h).aRw hV (gS_S h) he
  have h30 : κ 30 e 0 = σ 2 (4 * e) := by
    have := gS_30k h he (k := 0) (by omega)
    rwa [show 4 * e + 0 = 4 * e by omega] at this
  have hH : cHi κ e = 1000 := by
    unfold cHi
    rw [if_neg (by omega)]
  unfold cNd
  rw [hH, hf 0, hf 1000]
  by_cases c : jf ρ e 0 + 1 ≤ q
  · rw [if_pos c]
    exact Or.inr ⟨by omega, by omega, by omega, fun q => absurd q (by omega)⟩
  · rw [if_neg c]
    by_cases c2 : q < jf ρ e 1000 + 1
    · rw [if_pos c2]
      exact Or.inl ⟨rfl, by omega⟩
    · rw [if_neg c2]
      obtain ⟨⟨a1, a2⟩, a3, a4⟩ := hv_s (κ := κ) (e := e) (q := q) (f := jf ρ e) hf ((10 : Int) - 0).toNat 0 1000 (by omega) (by decide) (by omega) (by omega)
      exact Or.inr ⟨by omega, a2, a3, fun _ => a4⟩
theorem z_u_back {k : Nat} {i v : Int} : z_u (z_u σ k i v) k i (σ k i) = σ := by
  funext q j
  unfold z_u
  by_cases c : q = k
  · by_cases c2 : j = i
    · rw [if_pos c, if_pos c2, c, c2]
    · rw [if_pos c, if_neg c2, if_pos c, if_neg c2]
  · rw [if_neg c, if_neg c]
end
theorem la_hasCome {G : z_G} {D : Nat} {B : Nat → Int → Nat} {κ : c_K} {A : Nat → Nat} {ρ σ : z_S} {h : z_H} {t : Nat} {m : Int} {o : Prop} (hG : z_OK G) (hD : D = z_dc G) (hM : z_MI G) (hI : gS t m o B κ A ρ σ) (ht : t ≤ 511) : z_T G mL_hasCome [.ref (A 40)] (gH D B κ A σ h) 10 61 606 (fun v h' => ∃ (κ' : c_K) (B' : Nat → Int → Nat) (ρ' σ' : z_S) (h2 : z_H), v = some (z_i 1) ∧ gS (t + 1) (m) o B' κ' A ρ' σ' ∧ σ' 14 0 = (if σ 14 0 = 30 then 30 else σ 14 0 + 1) ∧ h' = gH D B' κ' A σ' h2) (z_no) := by
  refine z_T_of hG pL_hasCome (Nat.le_of_ble_eq_true rfl) (ls0 := [(0, .ref (A 40))]) rfl fun Y hY hg hmc hms hφ hψ => ?_
  subst hg
  refine z_aload hY eL_hasCome_0 0 rfl ?_
  have hb1 := (gS_b hI).s14 0
  refine g_gf hY (gS_X hI) eL_hasCome_1 (v := z_i (σ 14 0)) rfl ?_
  refine z_const hY eL_hasCome_4 ?_
  refine z_icmpne hY eL_hasCome_6 (by omega) (fun c6 => ?_) (fun c6 => ?_)
  · refine z_aload hY eL_hasCome_11 0 rfl ?_
    refine g_gf hY (gS_X hI) eL_hasCome_12 (v := z_i (σ 14 0)) rfl ?_
    refine z_istore hY eL_hasCome_15 (ls' := [(1, z_i (σ 14 0)), (0, .ref (A 40))]) rfl ?_
    refine z_aload hY eL_hasCome_16 1 rfl ?_
    refine z_dup hY eL_hasCome_17 rfl ?_
    refine g_gf hY (gS_X hI) eL_hasCome_18 (v := z_i (σ 14 0)) rfl ?_
    refine z_const hY eL_hasCome_21 ?_
    refine z_iadd hY eL_hasCome_22 ?_
    refine g_pf hY (gS_X hI) eL_hasCome_23 (by decide) ?_
    refine z_aload hY eL_hasCome_26 1 rfl ?_
    refine g_gf hY (gS_X hI) eL_hasCome_27 (v := .ref (A 7)) rfl ?_
    refine z_iload hY eL_hasCome_30 0 rfl ?_
    refine z_const hY eL_hasCome_31 ?_
    refine g_bas hY (gS_X hI) eL_hasCome_32 (j := 7) (N := 30) (by decide) (fun _ => rfl) (by omega) (by first | omega | exact z_bl01 _) ?_
    refine z_aload hY eL_hasCome_33 1 rfl ?_
    refine g_gf hY (gS_X hI) eL_hasCome_34 (v := .ref (A 3)) rfl ?_
    refine z_iload hY eL_hasCome_37 0 rfl ?_
    refine z_aload hY eL_hasCome_38 1 rfl ?_
    refine z_const hY eL_hasCome_39 ?_
    refine z_callV (As := [z_i 4]) (rest := [z_i (σ 14 0), .ref (A 3)]) hY eL_hasCome_40 (la_next (B := B) (κ := κ) (σ := (z_u (z_u σ 14 0 ((σ 14 0) + 1)) 7 (σ 14 0) 1)) hG (gS_X hI) (n := 4) (by omega)) ((gH_at (gS_X hI) (by decide)).trans (congrArg some lC_40)) (by decide) (Nat.le_of_ble_eq_true rfl) ⟨Nat.zero_le _, Nat.zero_le _⟩ (fun _ _ q => q.elim) (fun vv3 hh3 q3 => ?_)
    obtain ⟨r2, X2, rfl, hr2, hX2, rfl⟩ := q3
    refine g_ias hY (gS_X hI) eL_hasCome_43 (j := 3) (N := 30) (by decide) (fun _ => rfl) (by omega) ?_
    refine z_aload hY eL_hasCome_44 1 rfl ?_
    refine g_gf hY (gS_X hI) eL_hasCome_45 (v := .ref (B 0 0)) rfl ?_
    refine z_aload hY eL_hasCome_48 1 rfl ?_
    refine g_gf hY (gS_X hI) eL_hasCome_49 (v := .ref (A 3)) rfl ?_
    refine z_iload hY eL_hasCome_52 0 rfl ?_
    refine g_ial hY (gS_X hI) eL_hasCome_53 (j := 3) (N := 30) (x := r2) (by decide) rfl (by omega) z_u_at ?_
    have hnn := gS_n hI
    refine z_callV (As := [z_i r2]) (rest := []) hY eL_hasCome_54 (q_come (D := D) (h := lH A (B 0 0) (z_u (z_u (z_u (z_u σ 14 0 ((σ 14 0) + 1)) 7 (σ 14 0) 1) 0 0 X2) 3 (σ 14 0) r2) h) hG hD hM (gS_J hI) (gS_B hI) (gS_V hI) (gS_S hI) (by omega)) (cH_at (t := 0) (i := 0) (gS_J hI) (by omega)) (by decide) (Nat.le_of_ble_eq_true rfl) (by rw [hmc, hms]; omega) (fun E9 h9 q => by obtain ⟨-, q⟩ := q; exfalso; omega) (fun vv5 hh5 q5 => ?_)
    obtain ⟨-, rfl, κ4, B4, g4, rfl, hc4, N4, N14, N24, hrel4⟩ := q5
    obtain ⟨hgb4, hgX4, hgP4⟩ := gH_back (D := D) (gS_X hI) hc4
    refine z_heq hgb4 ?_
    obtain ⟨σ6, hs6⟩ : ∃ qq, qq = z_u (z_u (z_u (z_u σ 14 0 ((σ 14 0) + 1)) 7 (σ 14 0) 1) 0 0 X2) 3 (σ 14 0) r2 := ⟨_, rfl⟩
    refine z_heq (congrArg (fun q => gH D B4 κ4 A q g4) hs6.symm) ?_
    have hI4 : gS (t + 1) m o B4 κ4 A (yCo ρ r2) σ6 := by rw [hs6]; exact w_come hI ht (by omega) (by omega) (by omega) hrel4 hgX4 hc4.1 hc4.2.1
    have hn14 : σ6 14 0 = σ 14 0 + 1 := by rw [hs6]; rfl
    have hn7 : σ6 7 (σ 14 0) = 1 := by rw [hs6]; show z_u (z_u σ 14 0 (σ 14 0 + 1)) 7 (σ 14 0) 1 7 (σ 14 0) = 1; exact z_u_at
    have hn3 : σ6 3 (σ 14 0) = r2 := by rw [hs6]; exact z_u_at
    have hpn := (gS_pr hI4).mpr (⟨by omega, by omega, by omega⟩ : 0 ≤ σ 14 0 ∧ σ 14 0 < σ6 14 0 ∧ σ6 7 (σ 14 0) ≠ 0)
    have hpc := gS_cpr hI4 hpn
    have hgr := gS_grp hI4 hpn
    refine z_iload hY eL_hasCome_57 0 rfl ?_
    refine z_icmpne hY eL_hasCome_58 (by omega) (fun c58 => by exfalso; exact c58 hnn) (fun c58 => ?_)
    refine z_aload hY eL_hasCome_61 1 rfl ?_
    refine g_gf hY (gS_X hI4) eL_hasCome_62 (v := .ref (B4 0 0)) rfl ?_
    refine z_iload hY eL_hasCome_65 0 rfl ?_
    refine z_callV (As := [z_i (σ 14 0)]) (rest := []) hY eL_hasCome_66 (q_groupOf (D := D) (h := lH A (B4 0 0) σ6 g4) hG (gS_J hI4) (gS_B hI4) (gS_V hI4) (gS_S hI4) (by omega)) (cH_at (t := 0) (i := 0) (gS_J hI4) (by omega)) (by decide) (Nat.le_of_ble_eq_true rfl) (by rw [hmc, hms]; omega) (fun E9 h9 q => by obtain ⟨-, q⟩ := q; exfalso; omega) (fun vv8 hh8 q8 => ?_)
    obtain ⟨-, rfl, rfl⟩ := q8
    refine z_heq (show _ = gH D B4 κ4 A σ6 g4 from rfl) ?_
    refine z_aload hY eL_hasCome_69 1 rfl ?_
    refine g_gf hY (gS_X hI4) eL_hasCome_70 (v := .ref (A 3)) rfl ?_
    refine z_iload hY eL_hasCome_73 0 rfl ?_
    have hb9 := (gS_b hI4).s3 (σ 14 0)
    refine g_ial hY (gS_X hI4) eL_hasCome_74 (j := 3) (N := 30) (x := σ6 3 (σ 14 0)) (by decide) rfl (by omega) rfl ?_
    refine z_icmpne hY eL_hasCome_75 (by omega) (fun c75 => by exfalso; omega) (fun c75 => ?_)
    refine z_const hY eL_hasCome_78 ?_
    refine z_goto hY eL_hasCome_79 ?_
    exact z_zreturn hY eL_hasCome_83 rfl (by omega) (by rw [hφ]; exact ⟨κ4, B4, (yCo ρ r2), σ6, g4, rfl, hI4, by rw [if_neg (by omega)]; omega, rfl⟩) (by rw [hmc, hms]; omega)
  · refine z_const hY eL_hasCome_9 ?_
    exact z_zreturn hY eL_hasCome_10 rfl (by omega) (by rw [hφ]; exact ⟨κ, B, ρ, σ, h, rfl, gS_t hI (by omega), by rw [if_pos (by omega)]; omega, rfl⟩) ⟨Nat.zero_le _, Nat.zero_le _⟩
theorem la_isScored {G : z_G} {D : Nat} {B : Nat → Int → Nat} {κ : c_K} {A : Nat → Nat} {ρ σ : z_S} {h : z_H} {t : Nat} {m : Int} {o : Prop} (hG : z_OK G) (hD : D = z_dc G) (hM : z_MI G) (hI : gS t m o B κ A ρ σ) {e : Int} (ho : o) (hp : pr ρ e) (ht : t ≤ 511) (hm : 0 ≤ m ∧ m + 1000 ≤ 100000) : z_T G mL_isScored [.ref (A 40), z_i e] (gH D B κ A σ h) 10 10 138 (fun v h' => ∃ (κ' : c_K) (B' : Nat → Int → Nat) (ρ' σ' : z_S) (h2 : z_H), v = some (z_i 1) ∧ gS (t + 1) (m + 1000) o B' κ' A ρ' σ' ∧ σ' 14 0 = σ 14 0 ∧ h' = gH D B' κ' A σ' h2) (z_no) := by
  refine z_T_of hG pL_isScored (Nat.le_of_ble_eq_true rfl) (ls0 := [(0, .ref (A 40)), (1, z_i e)]) rfl fun Y hY hg hmc hms hφ hψ => ?_
  subst hg
  have hpb := gS_pb hI hp
  have hcp := gS_cpr hI hp
  refine z_aload hY eL_isScored_0 0 rfl ?_
  refine z_const hY eL_isScored_1 ?_
  refine z_callV (As := [z_i 3]) (rest := []) hY eL_isScored_2 (la_next (B := B) (κ := κ) (σ := σ) hG (gS_X hI) (n := 3) (by omega)) ((gH_at (gS_X hI) (by decide)).trans (congrArg some lC_40)) (by decide) (Nat.le_of_ble_eq_true rfl) ⟨Nat.zero_le _, Nat.zero_le _⟩ (fun _ _ q => q.elim) (fun vv2 hh2 q2 => ?_)
  obtain ⟨r1, X1, rfl, hr1, hX1, rfl⟩ := q2
  refine z_ifne hY eL_isScored_5 (by omega) (fun c5 => ?_) (fun c5 => ?_)
  · refine z_const hY eL_isScored_16 ?_
    obtain ⟨k, hk0⟩ : ∃ k : Int, k = 0 := ⟨_, rfl⟩
    refine z_top (b := k) hk0.symm ?_
    have hk : 0 ≤ k ∧ k ≤ 3 := by omega
    refine z_istore hY eL_isScored_17 (ls' := [(2, z_i k), (0, .ref (A 40)), (1, z_i e)]) rfl ?_
    refine z_aload hY eL_isScored_18 1 rfl ?_
    refine z_callV (As := []) (rest := []) hY eL_isScored_19 (la_amount hG (gS_E hI (wE_u wE_r (by decide)) (wB_u (gS_b hI) (by show (-2147483648 : Int) ≤ _ ∧ _ ≤ (2147483647 : Int); omega)))) ((gH_at (gS_X hI) (by decide)).trans (congrArg some lC_40)) (by decide) (Nat.le_of_ble_eq_true rfl) ⟨Nat.zero_le _, Nat.zero_le _⟩ (fun _ _ q => q.elim) (fun vv4 hh4 q4 => ?_)
    obtain ⟨r3, σ3, rfl, hr3, ⟨hE3, hw3⟩, rfl⟩ := q4
    have hI3 := gS_E (gS_E hI (wE_u wE_r (by decide)) (wB_u (gS_b hI) (by show (-2147483648 : Int) ≤ _ ∧ _ ≤ (2147483647 : Int); omega))) hE3 hw3
    have h14a : σ3 14 0 = σ 14 0 := (congrFun (hE3 14 (by decide) (by decide) (by decide)) 0).trans rfl
    refine z_istore hY eL_isScored_22 (ls' := [(3, z_i r3), (2, z_i k), (0, .ref (A 40)), (1, z_i e)]) rfl ?_
    refine z_aload hY eL_isScored_23 2 rfl ?_
    refine z_const hY eL_isScored_24 ?_
    refine z_callV (As := [z_i 4]) (rest := []) hY eL_isScored_25 (la_next (B := B) (κ := κ) (σ := σ3) hG (gS_X hI3) (n := 4) (by omega)) ((gH_at (gS_X hI3) (by decide)).trans (congrArg some lC_40)) (by decide) (Nat.le_of_ble_eq_true rfl) ⟨Nat.zero_le _, Nat.zero_le _⟩ (fun _ _ q => q.elim) (fun vv6 hh6 q6 => ?_)
    obtain ⟨r5, X5, rfl, hr5, hX5, rfl⟩ := q6
    refine z_ifle hY eL_isScored_28 (by omega) (fun c28 => ?_) (fun c28 => ?_)
    · have hq1 := gS_30k hI3 hp hk
      have hpm := gS_p hI3 (4 * e + k)
      refine z_aload hY eL_isScored_112 2 rfl ?_
      refine g_gf hY (gS_X hI3) eL_isScored_113 (v := .ref (A 2)) rfl ?_
      refine z_const hY eL_isScored_116 ?_
      refine z_iload hY eL_isScored_117 3 rfl ?_
      refine z_imul hY eL_isScored_118 ?_
      refine z_iload hY eL_isScored_119 1 rfl ?_
      refine z_iadd hY eL_isScored_120 ?_
      have hb7 := (gS_b hI3).s2 (4 * e + k)
      refine g_ial hY (gS_X hI3) eL_isScored_121 (j := 2) (N := 120) (x := σ3 2 (4 * e + k)) (by decide) rfl (by omega) (congrFun (z_u_ne (by decide)) _) ?_
      refine z_istore hY eL_isScored_122 (ls' := [(4, z_i (σ3 2 (4 * e + k))), (3, z_i r3), (2, z_i k), (0, .ref (A 40)), (1, z_i e)]) rfl ?_
      refine z_aload hY eL_isScored_124 3 rfl ?_
      refine g_gf hY (gS_X hI3) eL_isScored_125 (v := .ref (A 2)) rfl ?_
      refine z_const hY eL_isScored_128 ?_
      refine z_iload hY eL_isScored_129 4 rfl ?_
      refine z_imul hY eL_isScored_130 ?_
      refine z_iload hY eL_isScored_131 2 rfl ?_
      refine z_iadd hY eL_isScored_132 ?_
      refine z_iload hY eL_isScored_133 1 rfl ?_
      refine g_ias hY (gS_X hI3) eL_isScored_134 (j := 2) (N := 120) (by decide) (fun _ => rfl) (by omega) ?_
      refine z_aload hY eL_isScored_135 3 rfl ?_
      refine g_gf hY (gS_X hI3) eL_isScored_136 (v := .ref (B 0 0)) rfl ?_
      refine z_iload hY eL_isScored_139 4 rfl ?_
      refine z_iload hY eL_isScored_140 2 rfl ?_
      refine z_iload hY eL_isScored_141 1 rfl ?_
      have hP8 : gS t m o B κ A ρ (z_u σ3 0 0 X5) := (gS_E hI3 (wE_u wE_r (by decide)) (wB_u (gS_b hI3) (by show (-2147483648 : Int) ≤ _ ∧ _ ≤ (2147483647 : Int); omega)))
      refine z_callV (As := [z_i e, z_i k, z_i r3]) (rest := []) hY eL_isScored_142 (q_setScore (D := D) (h := lH A (B 0 0) (z_u (z_u σ3 0 0 X5) 2 (4 * e + k) r3) h) hG hD hM (gS_J hI3) (gS_B hI3) (gS_V hI3) (gS_S hI3) (by omega) (by omega) (by omega) (fun _ => cX_of (gS_j hI3) hp)) (cH_at (t := 0) (i := 0) (gS_J hI3) (by omega)) (by decide) (Nat.le_of_ble_eq_true rfl) (by rw [hmc, hms]; omega) (fun E9 h9 q => by obtain ⟨-, q⟩ := q; exfalso; omega) (fun vv10 hh10 q10 => ?_)
      obtain ⟨-, rfl, κ9, B9, g9, rfl, hc9, N19, N29, hrel9⟩ := q10
      obtain ⟨hgb9, hgX9, hgP9⟩ := gH_back (D := D) (gS_X hI3) hc9
      refine z_heq hgb9 ?_
      obtain ⟨σ11, hs11⟩ : ∃ qq, qq = z_u (z_u σ3 0 0 X5) 2 (4 * e + k) r3 := ⟨_, rfl⟩
      refine z_heq (congrArg (fun q => gH D B9 κ9 A q g9) hs11.symm) ?_
      have hI9 : gS (t + 1) (m + 1000) o B9 κ9 A (yBe ρ e k r3) σ11 := by rw [hs11]; exact w_score (m' := m + 1000) hP8 ht hp hk (by omega) (by omega) hrel9 hgX9 hc9.1 hc9.2.1
      have hn14 : σ11 14 0 = σ3 14 0 := by rw [hs11]; rfl
      have hn2 : σ11 2 (4 * e + k) = r3 := by rw [hs11]; exact z_u_at
      have hp2 := (jE_pr (x := e) (jE_1 (ρ := ρ) (e := e) (k := k) (v := r3))).mpr hp
      have hcp2 := gS_cpr hI9 hp2
      have hq3 := gS_30k hI9 hp2 hk
      refine z_iload hY eL_isScored_145 0 rfl ?_
      refine z_icmpne hY eL_isScored_147 (by omega) (fun c147 => by exfalso; omega) (fun c147 => ?_)
      refine z_aload hY eL_isScored_150 3 rfl ?_
      refine g_gf hY (gS_X hI9) eL_isScored_151 (v := .ref (B9 0 0)) rfl ?_
      refine z_iload hY eL_isScored_154 4 rfl ?_
      refine z_iload hY eL_isScored_155 2 rfl ?_
      refine z_callV (As := [z_i e, z_i k]) (rest := []) hY eL_isScored_156 (q_scoreOf (D := D) (h := lH A (B9 0 0) σ11 g9) hG (gS_J hI9) (gS_B hI9) (gS_V hI9) (gS_S hI9) (by omega) (by omega)) (cH_at (t := 0) (i := 0) (gS_J hI9) (by omega)) (by decide) (Nat.le_of_ble_eq_true rfl) (by rw [hmc, hms]; omega) (fun E9 h9 q => by obtain ⟨-, q⟩ := q; exfalso; omega) (fun vv13 hh13 q13 => ?_)
      obtain ⟨-, rfl, rfl⟩ := q13
      refine z_heq (show _ = gH D B9 κ9 A σ11 g9 from rfl) ?_
      refine z_iload hY eL_isScored_159 1 rfl ?_
      refine z_icmpne hY eL_isScored_160 (by omega) (fun c160 => by exfalso; omega) (fun c160 => ?_)
      refine z_const hY eL_isScored_163 ?_
      refine z_goto hY eL_isScored_164 ?_
      exact z_zreturn hY eL_isScored_168 rfl (by omega) (by rw [hφ]; exact ⟨κ9, B9, (yBe ρ e k r3), σ11, g9, rfl, hI9, by omega, rfl⟩) (by rw [hmc, hms]; omega)
    · have hq1 := gS_30k hI3 hp hk
      have hpm := gS_p hI3 (4 * e + k)
      refine z_aload hY eL_isScored_31 2 rfl ?_
      refine g_gf hY (gS_X hI3) eL_isScored_32 (v := .ref (B 0 0)) rfl ?_
      refine z_iload hY eL_isScored_35 3 rfl ?_
      refine z_callV (As := [z_i e]) (rest := []) hY eL_isScored_36 (q_place (D := D) (h := lH A (B 0 0) (z_u σ3 0 0 X5) h) hG (gS_J hI3) (gS_B hI3) (gS_V hI3) (gS_S hI3) (by omega)) (cH_at (t := 0) (i := 0) (gS_J hI3) (by omega)) (by decide) (Nat.le_of_ble_eq_true rfl) (by rw [hmc, hms]; omega) (fun E9 h9 q => by obtain ⟨-, q⟩ := q; exfalso; omega) (fun vv15 hh15 q15 => ?_)
      obtain ⟨-, rfl, rfl⟩ := q15
      refine z_heq (show _ = gH D B κ A (z_u σ3 0 0 X5) h from rfl) ?_
      refine z_istore hY eL_isScored_39 (ls' := [(4, z_i (κ 37 e 0)), (3, z_i r3), (2, z_i k), (0, .ref (A 40)), (1, z_i e)]) rfl ?_
      refine z_aload hY eL_isScored_41 3 rfl ?_
      refine g_gf hY (gS_X hI3) eL_isScored_42 (v := .ref (B 0 0)) rfl ?_
      refine z_iload hY eL_isScored_45 4 rfl ?_
      refine z_iload hY eL_isScored_46 2 rfl ?_
      refine z_iload hY eL_isScored_47 1 rfl ?_
      refine z_callV (As := [z_i e, z_i k, z_i r3]) (rest := []) hY eL_isScored_48 (q_wouldGain (D := D) (h := lH A (B 0 0) (z_u σ3 0 0 X5) h) hG (gS_J hI3) (gS_B hI3) (gS_V hI3) (gS_S hI3) (by omega) (by omega) (by omega)) (cH_at (t := 0) (i := 0) (gS_J hI3) (by omega)) (by decide) (Nat.le_of_ble_eq_true rfl) (by rw [hmc, hms]; omega) (fun E9 h9 q => by obtain ⟨-, q⟩ := q; exfalso; omega) (fun vv17 hh17 q17 => ?_)
      obtain ⟨-, rfl, κ16, hEt16, rfl⟩ := q17
      have hI16 := gS_Et hI3 hEt16
      refine z_heq (show _ = gH D B κ16 A (z_u σ3 0 0 X5) h from rfl) ?_
      refine z_top (b := κ 37 e 0 - cPw κ e k (σ3 2 (4 * e + k) + r3)) (by rw [hq1]) ?_
      have hr37 := (gS_S hI).s37 e 0
      have hcq := gS_cpr hI16 hp
      have hq2 := gS_30k hI16 hp hk
      refine z_istore hY eL_isScored_51 (ls' := [(5, z_i (κ 37 e 0 - cPw κ e k (σ3 2 (4 * e + k) + r3))), (4, z_i (κ 37 e 0)), (3, z_i r3), (2, z_i k), (0, .ref (A 40)), (1, z_i e)]) rfl ?_
      refine z_aload hY eL_isScored_53 4 rfl ?_
      refine g_gf hY (gS_X hI16) eL_isScored_54 (v := .ref (A 2)) rfl ?_
      refine z_const hY eL_isScored_57 ?_
      refine z_iload hY eL_isScored_58 5 rfl ?_
      refine z_imul hY eL_isScored_59 ?_
      refine z_iload hY eL_isScored_60 3 rfl ?_
      refine z_iadd hY eL_isScored_61 ?_
      refine z_dup2 hY eL_isScored_62 rfl rfl ?_
      have hb18 := (gS_b hI16).s2 (4 * e + k)
      refine g_ial hY (gS_X hI16) eL_isScored_63 (j := 2) (N := 120) (x := σ3 2 (4 * e + k)) (by decide) rfl (by omega) (congrFun (z_u_ne (by decide)) _) ?_
      refine z_iload hY eL_isScored_64 2 rfl ?_
      refine z_iadd hY eL_isScored_65 ?_
      refine g_ias hY (gS_X hI16) eL_isScored_66 (j := 2) (N := 120) (by decide) (fun _ => rfl) (by omega) ?_
      refine z_aload hY eL_isScored_67 4 rfl ?_
      refine g_gf hY (gS_X hI16) eL_isScored_68 (v := .ref (B 0 0)) rfl ?_
      refine z_iload hY eL_isScored_71 5 rfl ?_
      refine z_iload hY eL_isScored_72 3 rfl ?_
      refine z_iload hY eL_isScored_73 2 rfl ?_
      have hP19 : gS t m o B κ16 A ρ (z_u σ3 0 0 X5) := (gS_E hI16 (wE_u wE_r (by decide)) (wB_u (gS_b hI16) (by show (-2147483648 : Int) ≤ _ ∧ _ ≤ (2147483647 : Int); omega)))
      refine z_callV (As := [z_i e, z_i k, z_i r3]) (rest := []) hY eL_isScored_74 (q_score (D := D) (h := lH A (B 0 0) (z_u (z_u σ3 0 0 X5) 2 (4 * e + k) ((σ3 2 (4 * e + k)) + r3)) h) hG hD hM (gS_J hI16) (gS_B hI16) (gS_V hI16) (gS_S hI16) (by omega) (by omega) (by omega) (fun _ => cX_of (gS_j hP19) hp)) (cH_at (t := 0) (i := 0) (gS_J hI16) (by omega)) (by decide) (Nat.le_of_ble_eq_true rfl) (by rw [hmc, hms]; omega) (fun E9 h9 q => by obtain ⟨-, q⟩ := q; exfalso; omega) (fun vv21 hh21 q21 => ?_)
      obtain ⟨-, rfl, κ20, B20, g20, rfl, hc20, N120, N220, hrel20⟩ := q21
      obtain ⟨hgb20, hgX20, hgP20⟩ := gH_back (D := D) (gS_X hI16) hc20
      refine z_heq hgb20 ?_
      rw [hq2] at hrel20
      obtain ⟨σ22, hs22⟩ : ∃ qq, qq = z_u (z_u σ3 0 0 X5) 2 (4 * e + k) ((σ3 2 (4 * e + k)) + r3) := ⟨_, rfl⟩
      refine z_heq (congrArg (fun q => gH D B20 κ20 A q g20) hs22.symm) ?_
      have hI20 : gS (t + 1) (m + 1000) o B20 κ20 A (yBe ρ e k (σ3 2 (4 * e + k) + r3)) σ22 := by rw [hs22]; exact w_score (m' := m + 1000) hP19 ht hp hk (by have := gS_p hP19 (4 * e + k); omega) (by omega) hrel20 hgX20 hc20.1 hc20.2.1
      have hn14 : σ22 14 0 = σ3 14 0 := by rw [hs22]; rfl
      have hn2 : σ22 2 (4 * e + k) = σ3 2 (4 * e + k) + r3 := by rw [hs22]; exact z_u_at
      have hp2 := (jE_pr (x := e) (jE_1 (ρ := ρ) (e := e) (k := k) (v := σ3 2 (4 * e + k) + r3))).mpr hp
      have hcp2 := gS_cpr hI20 hp2
      have hpw := w_pw hI hI20 jE_1 hp hk (v := σ3 2 (4 * e + k) + r3)
      have hr38 := (gS_S hI20).s37 e 0
      refine z_aload hY eL_isScored_77 4 rfl ?_
      refine g_gf hY (gS_X hI20) eL_isScored_78 (v := .ref (A 2)) rfl ?_
      refine z_const hY eL_isScored_81 ?_
      refine z_iload hY eL_isScored_82 5 rfl ?_
      refine z_imul hY eL_isScored_83 ?_
      refine z_iload hY eL_isScored_84 3 rfl ?_
      refine z_iadd hY eL_isScored_85 ?_
      have hb23 := (gS_b hI20).s2 (4 * e + k)
      refine g_ial hY (gS_X hI20) eL_isScored_86 (j := 2) (N := 120) (x := σ22 2 (4 * e + k)) (by decide) rfl (by omega) rfl ?_
      refine z_icmpne hY eL_isScored_87 (by omega) (fun c87 => by exfalso; omega) (fun c87 => ?_)
      refine z_aload hY eL_isScored_90 4 rfl ?_
      refine g_gf hY (gS_X hI20) eL_isScored_91 (v := .ref (B20 0 0)) rfl ?_
      refine z_iload hY eL_isScored_94 5 rfl ?_
      refine z_callV (As := [z_i e]) (rest := []) hY eL_isScored_95 (q_place (D := D) (h := lH A (B20 0 0) σ22 g20) hG (gS_J hI20) (gS_B hI20) (gS_V hI20) (gS_S hI20) (by omega)) (cH_at (t := 0) (i := 0) (gS_J hI20) (by omega)) (by decide) (Nat.le_of_ble_eq_true rfl) (by rw [hmc, hms]; omega) (fun E9 h9 q => by obtain ⟨-, q⟩ := q; exfalso; omega) (fun vv25 hh25 q25 => ?_)
      obtain ⟨-, rfl, rfl⟩ := q25
      refine z_heq (show _ = gH D B20 κ20 A σ22 g20 from rfl) ?_
      refine z_iload hY eL_isScored_98 1 rfl ?_
      refine z_iload hY eL_isScored_100 0 rfl ?_
      refine z_isub hY eL_isScored_102 ?_
      refine z_icmpne hY eL_isScored_103 (by omega) (fun c103 => by exfalso; omega) (fun c103 => ?_)
      refine z_const hY eL_isScored_106 ?_
      refine z_goto hY eL_isScored_107 ?_
      exact z_zreturn hY eL_isScored_111 rfl (by omega) (by rw [hφ]; exact ⟨κ20, B20, (yBe ρ e k (σ3 2 (4 * e + k) + r3)), σ22, g20, rfl, hI20, by omega, rfl⟩) (by rw [hmc, hms]; omega)
  · refine z_aload hY eL_isScored_8 0 rfl ?_
    refine z_const hY eL_isScored_9 ?_
    refine z_callV (As := [z_i 4]) (rest := []) hY eL_isScored_10 (la_next (B := B) (κ := κ) (σ := (z_u σ 0 0 X1)) hG (gS_X hI) (n := 4) (by omega)) ((gH_at (gS_X hI) (by decide)).trans (congrArg some lC_40)) (by decide) (Nat.le_of_ble_eq_true rfl) ⟨Nat.zero_le _, Nat.zero_le _⟩ (fun _ _ q => q.elim) (fun vv27 hh27 q27 => ?_)
    obtain ⟨r26, X26, rfl, hr26, hX26, rfl⟩ := q27
    refine z_goto hY eL_isScored_13 ?_
    obtain ⟨k, hk0⟩ : ∃ k : Int, k = r26 := ⟨_, rfl⟩
    refine z_top (b := k) hk0.symm ?_
    have hk : 0 ≤ k ∧ k ≤ 3 := by omega
    refine z_istore hY eL_isScored_17 (ls' := [(2, z_i k), (0, .ref (A 40)), (1, z_i e)]) rfl ?_
    refine z_aload hY eL_isScored_18 1 rfl ?_
    refine z_callV (As := []) (rest := []) hY eL_isScored_19 (la_amount hG (gS_E hI (wE_u (wE_u wE_r (by decide)) (by decide)) (wB_u (wB_u (gS_b hI) (by show (-2147483648 : Int) ≤ _ ∧ _ ≤ (2147483647 : Int); omega)) (by show (-2147483648 : Int) ≤ _ ∧ _ ≤ (2147483647 : Int); omega)))) ((gH_at (gS_X hI) (by decide)).trans (congrArg some lC_40)) (by decide) (Nat.le_of_ble_eq_true rfl) ⟨Nat.zero_le _, Nat.zero_le _⟩ (fun _ _ q => q.elim) (fun vv29 hh29 q29 => ?_)
    obtain ⟨r28, σ28, rfl, hr28, ⟨hE28, hw28⟩, rfl⟩ := q29
    have hI28 := gS_E (gS_E hI (wE_u (wE_u wE_r (by decide)) (by decide)) (wB_u (wB_u (gS_b hI) (by show (-2147483648 : Int) ≤ _ ∧ _ ≤ (2147483647 : Int); omega)) (by show (-2147483648 : Int) ≤ _ ∧ _ ≤ (2147483647 : Int); omega))) hE28 hw28
    have h14a : σ28 14 0 = σ 14 0 := (congrFun (hE28 14 (by decide) (by decide) (by decide)) 0).trans rfl
    refine z_istore hY eL_isScored_22 (ls' := [(3, z_i r28), (2, z_i k), (0, .ref (A 40)), (1, z_i e)]) rfl ?_
    refine z_aload hY eL_isScored_23 2 rfl ?_
    refine z_const hY eL_isScored_24 ?_
    refine z_callV (As := [z_i 4]) (rest := []) hY eL_isScored_25 (la_next (B := B) (κ := κ) (σ := σ28) hG (gS_X hI28) (n := 4) (by omega)) ((gH_at (gS_X hI28) (by decide)).trans (congrArg some lC_40)) (by decide) (Nat.le_of_ble_eq_true rfl) ⟨Nat.zero_le _, Nat.zero_le _⟩ (fun _ _ q => q.elim) (fun vv31 hh31 q31 => ?_)
    obtain ⟨r30, X30, rfl, hr30, hX30, rfl⟩ := q31
    refine z_ifle hY eL_isScored_28 (by omega) (fun c28 => ?_) (fun c28 => ?_)
    · have hq1 := gS_30k hI28 hp hk
      have hpm := gS_p hI28 (4 * e + k)
      refine z_aload hY eL_isScored_112 2 rfl ?_
      refine g_gf hY (gS_X hI28) eL_isScored_113 (v := .ref (A 2)) rfl ?_
      refine z_const hY eL_isScored_116 ?_
      refine z_iload hY eL_isScored_117 3 rfl ?_
      refine z_imul hY eL_isScored_118 ?_
      refine z_iload hY eL_isScored_119 1 rfl ?_
      refine z_iadd hY eL_isScored_120 ?_
      have hb32 := (gS_b hI28).s2 (4 * e + k)
      refine g_ial hY (gS_X hI28) eL_isScored_121 (j := 2) (N := 120) (x := σ28 2 (4 * e + k)) (by decide) rfl (by omega) (congrFun (z_u_ne (by decide)) _) ?_
      refine z_istore hY eL_isScored_122 (ls' := [(4, z_i (σ28 2 (4 * e + k))), (3, z_i r28), (2, z_i k), (0, .ref (A 40)), (1, z_i e)]) rfl ?_
      refine z_aload hY eL_isScored_124 3 rfl ?_
      refine g_gf hY (gS_X hI28) eL_isScored_125 (v := .ref (A 2)) rfl ?_
      refine z_const hY eL_isScored_128 ?_
      refine z_iload hY eL_isScored_129 4 rfl ?_
      refine z_imul hY eL_isScored_130 ?_
      refine z_iload hY eL_isScored_131 2 rfl ?_
      refine z_iadd hY eL_isScored_132 ?_
      refine z_iload hY eL_isScored_133 1 rfl ?_
      refine g_ias hY (gS_X hI28) eL_isScored_134 (j := 2) (N := 120) (by decide) (fun _ => rfl) (by omega) ?_
      refine z_aload hY eL_isScored_135 3 rfl ?_
      refine g_gf hY (gS_X hI28) eL_isScored_136 (v := .ref (B 0 0)) rfl ?_
      refine z_iload hY eL_isScored_139 4 rfl ?_
      refine z_iload hY eL_isScored_140 2 rfl ?_
      refine z_iload hY eL_isScored_141 1 rfl ?_
      have hP33 : gS t m o B κ A ρ (z_u σ28 0 0 X30) := (gS_E hI28 (wE_u wE_r (by decide)) (wB_u (gS_b hI28) (by show (-2147483648 : Int) ≤ _ ∧ _ ≤ (2147483647 : Int); omega)))
      refine z_callV (As := [z_i e, z_i k, z_i r28]) (rest := []) hY eL_isScored_142 (q_setScore (D := D) (h := lH A (B 0 0) (z_u (z_u σ28 0 0 X30) 2 (4 * e + k) r28) h) hG hD hM (gS_J hI28) (gS_B hI28) (gS_V hI28) (gS_S hI28) (by omega) (by omega) (by omega) (fun _ => cX_of (gS_j hI28) hp)) (cH_at (t := 0) (i := 0) (gS_J hI28) (by omega)) (by decide) (Nat.le_of_ble_eq_true rfl) (by rw [hmc, hms]; omega) (fun E9 h9 q => by obtain ⟨-, q⟩ := q; exfalso; omega) (fun vv35 hh35 q35 => ?_)
      obtain ⟨-, rfl, κ34, B34, g34, rfl, hc34, N134, N234, hrel34⟩ := q35
      obtain ⟨hgb34, hgX34, hgP34⟩ := gH_back (D := D) (gS_X hI28) hc34
      refine z_heq hgb34 ?_
      obtain ⟨σ36, hs36⟩ : ∃ qq, qq = z_u (z_u σ28 0 0 X30) 2 (4 * e + k) r28 := ⟨_, rfl⟩
      refine z_heq (congrArg (fun q => gH D B34 κ34 A q g34) hs36.symm) ?_
      have hI34 : gS (t + 1) (m + 1000) o B34 κ34 A (yBe ρ e k r28) σ36 := by rw [hs36]; exact w_score (m' := m + 1000) hP33 ht hp hk (by omega) (by omega) hrel34 hgX34 hc34.1 hc34.2.1
      have hn14 : σ36 14 0 = σ28 14 0 := by rw [hs36]; rfl
      have hn2 : σ36 2 (4 * e + k) = r28 := by rw [hs36]; exact z_u_at
      have hp2 := (jE_pr (x := e) (jE_1 (ρ := ρ) (e := e) (k := k) (v := r28))).mpr hp
      have hcp2 := gS_cpr hI34 hp2
      have hq3 := gS_30k hI34 hp2 hk
      refine z_iload hY eL_isScored_145 0 rfl ?_
      refine z_icmpne hY eL_isScored_147 (by omega) (fun c147 => by exfalso; omega) (fun c147 => ?_)
      refine z_aload hY eL_isScored_150 3 rfl ?_
      refine g_gf hY (gS_X hI34) eL_isScored_151 (v := .ref (B34 0 0)) rfl ?_
      refine z_iload hY eL_isScored_154 4 rfl ?_
      refine z_iload hY eL_isScored_155 2 rfl ?_
      refine z_callV (As := [z_i e, z_i k]) (rest := []) hY eL_isScored_156 (q_scoreOf (D := D) (h := lH A (B34 0 0) σ36 g34) hG (gS_J hI34) (gS_B hI34) (gS_V hI34) (gS_S hI34) (by omega) (by omega)) (cH_at (t := 0) (i := 0) (gS_J hI34) (by omega)) (by decide) (Nat.le_of_ble_eq_true rfl) (by rw [hmc, hms]; omega) (fun E9 h9 q => by obtain ⟨-, q⟩ := q; exfalso; omega) (fun vv38 hh38 q38 => ?_)
      obtain ⟨-, rfl, rfl⟩ := q38
      refine z_heq (show _ = gH D B34 κ34 A σ36 g34 from rfl) ?_
      refine z_iload hY eL_isScored_159 1 rfl ?_
      refine z_icmpne hY eL_isScored_160 (by omega) (fun c160 => by exfalso; omega) (fun c160 => ?_)
      refine z_const hY eL_isScored_163 ?_
      refine z_goto hY eL_isScored_164 ?_
      exact z_zreturn hY eL_isScored_168 rfl (by omega) (by rw [hφ]; exact ⟨κ34, B34, (yBe ρ e k r28), σ36, g34, rfl, hI34, by omega, rfl⟩) (by rw [hmc, hms]; omega)
    · have hq1 := gS_30k hI28 hp hk
      have hpm := gS_p hI28 (4 * e + k)
      refine z_aload hY eL_isScored_31 2 rfl ?_
      refine g_gf hY (gS_X hI28) eL_isScored_32 (v := .ref (B 0 0)) rfl ?_
      refine z_iload hY eL_isScored_35 3 rfl ?_
      refine z_callV (As := [z_i e]) (rest := []) hY eL_isScored_36 (q_place (D := D) (h := lH A (B 0 0) (z_u σ28 0 0 X30) h) hG (gS_J hI28) (gS_B hI28) (gS_V hI28) (gS_S hI28) (by omega)) (cH_at (t := 0) (i := 0) (gS_J hI28) (by omega)) (by decide) (Nat.le_of_ble_eq_true rfl) (by rw [hmc, hms]; omega) (fun E9 h9 q => by obtain ⟨-, q⟩ := q; exfalso; omega) (fun vv40 hh40 q40 => ?_)
      obtain ⟨-, rfl, rfl⟩ := q40
      refine z_heq (show _ = gH D B κ A (z_u σ28 0 0 X30) h from rfl) ?_
      refine z_istore hY eL_isScored_39 (ls' := [(4, z_i (κ 37 e 0)), (3, z_i r28), (2, z_i k), (0, .ref (A 40)), (1, z_i e)]) rfl ?_
      refine z_aload hY eL_isScored_41 3 rfl ?_
      refine g_gf hY (gS_X hI28) eL_isScored_42 (v := .ref (B 0 0)) rfl ?_
      refine z_iload hY eL_isScored_45 4 rfl ?_
      refine z_iload hY eL_isScored_46 2 rfl ?_
      refine z_iload hY eL_isScored_47 1 rfl ?_
      refine z_callV (As := [z_i e, z_i k, z_i r28]) (rest := []) hY eL_isScored_48 (q_wouldGain (D := D) (h := lH A (B 0 0) (z_u σ28 0 0 X30) h) hG (gS_J hI28) (gS_B hI28) (gS_V hI28) (gS_S hI28) (by omega) (by omega) (by omega)) (cH_at (t := 0) (i := 0) (gS_J hI28) (by omega)) (by decide) (Nat.le_of_ble_eq_true rfl) (by rw [hmc, hms]; omega) (fun E9 h9 q => by obtain ⟨-, q⟩ := q; exfalso; omega) (fun vv42 hh42 q42 => ?_)
      obtain ⟨-, rfl, κ41, hEt41, rfl⟩ := q42
      have hI41 := gS_Et hI28 hEt41
      refine z_heq (show _ = gH D B κ41 A (z_u σ28 0 0 X30) h from rfl) ?_
      refine z_top (b := κ 37 e 0 - cPw κ e k (σ28 2 (4 * e + k) + r28)) (by rw [hq1]) ?_
      have hr37 := (gS_S hI).s37 e 0
      have hcq := gS_cpr hI41 hp
      have hq2 := gS_30k hI41 hp hk
      refine z_istore hY eL_isScored_51 (ls' := [(5, z_i (κ 37 e 0 - cPw κ e k (σ28 2 (4 * e + k) + r28))), (4, z_i (κ 37 e 0)), (3, z_i r28), (2, z_i k), (0, .ref (A 40)), (1, z_i e)]) rfl ?_
      refine z_aload hY eL_isScored_53 4 rfl ?_
      refine g_gf hY (gS_X hI41) eL_isScored_54 (v := .ref (A 2)) rfl ?_
      refine z_const hY eL_isScored_57 ?_
      refine z_iload hY eL_isScored_58 5 rfl ?_
      refine z_imul hY eL_isScored_59 ?_
      refine z_iload hY eL_isScored_60 3 rfl ?_
      refine z_iadd hY eL_isScored_61 ?_
      refine z_dup2 hY eL_isScored_62 rfl rfl ?_
      have hb43 := (gS_b hI41).s2 (4 * e + k)
      refine g_ial hY (gS_X hI41) eL_isScored_63 (j := 2) (N := 120) (x := σ28 2 (4 * e + k)) (by decide) rfl (by omega) (congrFun (z_u_ne (by decide)) _) ?_
      refine z_iload hY eL_isScored_64 2 rfl ?_
      refine z_iadd hY eL_isScored_65 ?_
      refine g_ias hY (gS_X hI41) eL_isScored_66 (j := 2) (N := 120) (by decide) (fun _ => rfl) (by omega) ?_
      refine z_aload hY eL_isScored_67 4 rfl ?_
      refine g_gf hY (gS_X hI41) eL_isScored_68 (v := .ref (B 0 0)) rfl ?_
      refine z_iload hY eL_isScored_71 5 rfl ?_
      refine z_iload hY eL_isScored_72 3 rfl ?_
      refine z_iload hY eL_isScored_73 2 rfl ?_
      have hP44 : gS t m o B κ41 A ρ (z_u σ28 0 0 X30) := (gS_E hI41 (wE_u wE_r (by decide)) (wB_u (gS_b hI41) (by show (-2147483648 : Int) ≤ _ ∧ _ ≤ (2147483647 : Int); omega)))
      refine z_callV (As := [z_i e, z_i k, z_i r28]) (rest := []) hY eL_isScored_74 (q_score (D := D) (h := lH A (B 0 0) (z_u (z_u σ28 0 0 X30) 2 (4 * e + k) ((σ28 2 (4 * e + k)) + r28)) h) hG hD hM (gS_J hI41) (gS_B hI41) (gS_V hI41) (gS_S hI41) (by omega) (by omega) (by omega) (fun _ => cX_of (gS_j hP44) hp)) (cH_at (t := 0) (i := 0) (gS_J hI41) (by omega)) (by decide) (Nat.le_of_ble_eq_true rfl) (by rw [hmc, hms]; omega) (fun E9 h9 q => by obtain ⟨-, q⟩ := q; exfalso; omega) (fun vv46 hh46 q46 => ?_)
      obtain ⟨-, rfl, κ45, B45, g45, rfl, hc45, N145, N245, hrel45⟩ := q46
      obtain ⟨hgb45, hgX45, hgP45⟩ := gH_back (D := D) (gS_X hI41) hc45
      refine z_heq hgb45 ?_
      rw [hq2] at hrel45
      obtain ⟨σ47, hs47⟩ : ∃ qq, qq = z_u (z_u σ28 0 0 X30) 2 (4 * e + k) ((σ28 2 (4 * e + k)) + r28) := ⟨_, rfl⟩
      refine z_heq (congrArg (fun q => gH D B45 κ45 A q g45) hs47.symm) ?_
      have hI45 : gS (t + 1) (m + 1000) o B45 κ45 A (yBe ρ e k (σ28 2 (4 * e + k) + r28)) σ47 := by rw [hs47]; exact w_score (m' := m + 1000) hP44 ht hp hk (by have := gS_p hP44 (4 * e + k); omega) (by omega) hrel45 hgX45 hc45.1 hc45.2.1
      have hn14 : σ47 14 0 = σ28 14 0 := by rw [hs47]; rfl
      have hn2 : σ47 2 (4 * e + k) = σ28 2 (4 * e + k) + r28 := by rw [hs47]; exact z_u_at
      have hp2 := (jE_pr (x := e) (jE_1 (ρ := ρ) (e := e) (k := k) (v := σ28 2 (4 * e + k) + r28))).mpr hp
      have hcp2 := gS_cpr hI45 hp2
      have hpw := w_pw hI hI45 jE_1 hp hk (v := σ28 2 (4 * e + k) + r28)
      have hr38 := (gS_S hI45).s37 e 0
      refine z_aload hY eL_isScored_77 4 rfl ?_
      refine g_gf hY (gS_X hI45) eL_isScored_78 (v := .ref (A 2)) rfl ?_
      refine z_const hY eL_isScored_81 ?_
      refine z_iload hY eL_isScored_82 5 rfl ?_
      refine z_imul hY eL_isScored_83 ?_
      refine z_iload hY eL_isScored_84 3 rfl ?_
      refine z_iadd hY eL_isScored_85 ?_
      have hb48 := (gS_b hI45).s2 (4 * e + k)
      refine g_ial hY (gS_X hI45) eL_isScored_86 (j := 2) (N := 120) (x := σ47 2 (4 * e + k)) (by decide) rfl (by omega) rfl ?_
      refine z_icmpne hY eL_isScored_87 (by omega) (fun c87 => by exfalso; omega) (fun c87 => ?_)
      refine z_aload hY eL_isScored_90 4 rfl ?_
      refine g_gf hY (gS_X hI45) eL_isScored_91 (v := .ref (B45 0 0)) rfl ?_
      refine z_iload hY eL_isScored_94 5 rfl ?_
      refine z_callV (As := [z_i e]) (rest := []) hY eL_isScored_95 (q_place (D := D) (h := lH A (B45 0 0) σ47 g45) hG (gS_J hI45) (gS_B hI45) (gS_V hI45) (gS_S hI45) (by omega)) (cH_at (t := 0) (i := 0) (gS_J hI45) (by omega)) (by decide) (Nat.le_of_ble_eq_true rfl) (by rw [hmc, hms]; omega) (fun E9 h9 q => by obtain ⟨-, q⟩ := q; exfalso; omega) (fun vv50 hh50 q50 => ?_)
      obtain ⟨-, rfl, rfl⟩ := q50
      refine z_heq (show _ = gH D B45 κ45 A σ47 g45 from rfl) ?_
      refine z_iload hY eL_isScored_98 1 rfl ?_
      refine z_iload hY eL_isScored_100 0 rfl ?_
      refine z_isub hY eL_isScored_102 ?_
      refine z_icmpne hY eL_isScored_103 (by omega) (fun c103 => by exfalso; omega) (fun c103 => ?_)
      refine z_const hY eL_isScored_106 ?_
      refine z_goto hY eL_isScored_107 ?_
      exact z_zreturn hY eL_isScored_111 rfl (by omega) (by rw [hφ]; exact ⟨κ45, B45, (yBe ρ e k (σ28 2 (4 * e + k) + r28)), σ47, g45, rfl, hI45, by omega, rfl⟩) (by rw [hmc, hms]; omega)
theorem la_isNeeded {G : z_G} {D : Nat} {B : Nat → Int → Nat} {κ : c_K} {A : Nat → Nat} {ρ σ : z_S} {h : z_H} {t : Nat} {m : Int} {o : Prop} (hG : z_OK G) (hD : D = z_dc G) (hM : z_MI G) (hI : gS t m o B κ A ρ σ) {e : Int} (hp : pr ρ e) (ht : t ≤ 508) (hm : 0 ≤ m ∧ m + 1000 ≤ 100000) : z_T G mL_isNeeded [.ref (A 40), z_i e] (gH D B κ A σ h) 10 30 600 (fun v h' => ∃ (κ' : c_K) (B' : Nat → Int → Nat) (ρ' σ' : z_S) (h2 : z_H), v = some (z_i 1) ∧ gS (t + 4) (m + 1000) o B' κ' A ρ' σ' ∧ σ' 14 0 = σ 14 0 ∧ h' = gH D B' κ' A σ' h2) (z_no) := by
  refine z_T_of hG pL_isNeeded (Nat.le_of_ble_eq_true rfl) (ls0 := [(0, .ref (A 40)), (1, z_i e)]) rfl fun Y hY hg hmc hms hφ hψ => ?_
  subst hg
  have hpb := gS_pb hI hp
  have hcp := gS_cpr hI hp
  refine z_const hY eL_isNeeded_0 ?_
  refine z_aload hY eL_isNeeded_1 0 rfl ?_
  refine z_aload hY eL_isNeeded_2 0 rfl ?_
  have hb1 := (gS_b hI).s14 0
  refine g_gf hY (gS_X hI) eL_isNeeded_3 (v := z_i (σ 14 0)) rfl ?_
  refine z_callV (As := [z_i (σ 14 0)]) (rest := [z_i 1]) hY eL_isNeeded_6 (la_next (B := B) (κ := κ) (σ := σ) hG (gS_X hI) (n := (σ 14 0)) (by omega)) ((gH_at (gS_X hI) (by decide)).trans (congrArg some lC_40)) (by decide) (Nat.le_of_ble_eq_true rfl) ⟨Nat.zero_le _, Nat.zero_le _⟩ (fun _ _ q => q.elim) (fun vv3 hh3 q3 => ?_)
  obtain ⟨r2, X2, rfl, hr2, hX2, rfl⟩ := q3
  refine z_iadd hY eL_isNeeded_9 ?_
  refine z_top (b := r2 + 1) (by omega) ?_
  refine z_istore hY eL_isNeeded_10 (ls' := [(2, z_i (r2 + 1)), (0, .ref (A 40)), (1, z_i e)]) rfl ?_
  refine z_aload hY eL_isNeeded_11 1 rfl ?_
  refine g_gf hY (gS_X hI) eL_isNeeded_12 (v := .ref (B 0 0)) rfl ?_
  refine z_iload hY eL_isNeeded_15 2 rfl ?_
  refine z_iload hY eL_isNeeded_16 0 rfl ?_
  have hI0 : gS t m o B κ A ρ (z_u σ 0 0 X2) := (gS_E hI (wE_u wE_r (by decide)) (wB_u (gS_b hI) (by show (-2147483648 : Int) ≤ _ ∧ _ ≤ (2147483647 : Int); omega)))
  have hnd := w_nd hI0 hp (q := (r2 + 1)) (by have := gS_p hI (4 * e); show σ 2 (4 * e) + 1000 ≤ 100000; omega)
  refine z_callV (As := [z_i e, z_i (r2 + 1)]) (rest := []) hY eL_isNeeded_17 (q_needed (D := D) (h := lH A (B 0 0) (z_u σ 0 0 X2) h) hG (gS_J hI0) (gS_B hI0) (gS_V hI0) (gS_S hI0) (by omega) (by omega)) (cH_at (t := 0) (i := 0) (gS_J hI0) (by omega)) (by decide) (Nat.le_of_ble_eq_true rfl) (by rw [hmc, hms]; omega) (fun E9 h9 q => by obtain ⟨-, q⟩ := q; exfalso; omega) (fun vv5 hh5 q5 => ?_)
  obtain ⟨-, rfl, κ4, hEt4, rfl⟩ := q5
  have hI4 := gS_Et hI0 hEt4
  refine z_heq (show _ = gH D B κ4 A (z_u σ 0 0 X2) h from rfl) ?_
  obtain ⟨N, hN⟩ : ∃ N, N = cNd κ e (r2 + 1) := ⟨_, rfl⟩
  rw [← hN] at hnd
  refine z_top (b := N) hN.symm ?_
  have hcq := gS_cpr hI4 hp
  have hq0 : κ4 30 e 0 = σ 2 (4 * e) := by have h9 := gS_30k hI4 hp (k := 0) (by omega); rw [show 4 * e + 0 = 4 * e by omega] at h9; exact h9
  have h14e : ρ 14 (4 * e) = σ 2 (4 * e) := gS_14 hI (j := 4 * e) (by omega)
  have hpm := gS_p hI (4 * e)
  refine z_istore hY eL_isNeeded_20 (ls' := [(3, z_i N), (2, z_i (r2 + 1)), (0, .ref (A 40)), (1, z_i e)]) rfl ?_
  refine z_aload hY eL_isNeeded_21 2 rfl ?_
  refine g_gf hY (gS_X hI4) eL_isNeeded_22 (v := .ref (A 2)) rfl ?_
  refine z_const hY eL_isNeeded_25 ?_
  refine z_iload hY eL_isNeeded_26 3 rfl ?_
  refine z_imul hY eL_isNeeded_27 ?_
  have hb6 := (gS_b hI).s2 (4 * e)
  refine g_ial hY (gS_X hI4) eL_isNeeded_28 (j := 2) (N := 120) (x := σ 2 (4 * e)) (by decide) rfl (by omega) (congrFun (z_u_ne (by decide)) _) ?_
  refine z_istore hY eL_isNeeded_29 (ls' := [(4, z_i (σ 2 (4 * e))), (3, z_i N), (2, z_i (r2 + 1)), (0, .ref (A 40)), (1, z_i e)]) rfl ?_
  refine z_iload hY eL_isNeeded_31 1 rfl ?_
  refine z_const hY eL_isNeeded_32 ?_
  refine z_icmpne hY eL_isNeeded_33 (by omega) (fun c33 => ?_) (fun c33 => ?_)
  · refine z_aload hY eL_isNeeded_95 3 rfl ?_
    refine g_gf hY (gS_X hI4) eL_isNeeded_96 (v := .ref (B 0 0)) rfl ?_
    refine z_iload hY eL_isNeeded_99 4 rfl ?_
    refine z_const hY eL_isNeeded_100 ?_
    refine z_iload hY eL_isNeeded_101 0 rfl ?_
    refine z_iload hY eL_isNeeded_103 1 rfl ?_
    refine z_iadd hY eL_isNeeded_104 ?_
    refine z_callV (As := [z_i e, z_i 0, z_i ((σ 2 (4 * e)) + N)]) (rest := []) hY eL_isNeeded_105 (q_setScore (D := D) (h := lH A (B 0 0) (z_u σ 0 0 X2) h) hG hD hM (gS_J hI4) (gS_B hI4) (gS_V hI4) (gS_S hI4) (by omega) (by omega) (by omega) (fun _ => cX_of (gS_j hI4) hp)) (cH_at (t := 0) (i := 0) (gS_J hI4) (by omega)) (by decide) (Nat.le_of_ble_eq_true rfl) (by rw [hmc, hms]; omega) (fun E9 h9 q => by obtain ⟨-, q⟩ := q; exfalso; omega) (fun vv8 hh8 q8 => ?_)
    obtain ⟨-, rfl, κ7, B7, g7, rfl, hc7, N17, N27, hrel7⟩ := q8
    obtain ⟨hgb7, hgX7, hgP7⟩ := gH_back (D := D) (gS_X hI4) hc7
    refine z_heq hgb7 ?_
    have hI7 := w_score (m' := m + 1000) hI4 (by omega) hp (k := 0) (by omega) (by omega) (by omega) hrel7 hgX7 hc7.1 hc7.2.1
    have hJE7 := jE_1 (ρ := ρ) (e := e) (k := 0) (v := ((σ 2 (4 * e)) + N))
    have hp7 := (jE_pr (x := e) hJE7).mpr hp
    have hcp7 := gS_cpr hI7 hp7
    have hrb7 := sRk_b (gS_V hI7) e
    have hq7 : κ7 30 e 0 = ((σ 2 (4 * e)) + N) := (gS_30k hI7 hp7 (k := 0) (by omega)).trans z_u_at
    have hrk7 := w_rk hI7 hJE7 hp
    rw [h14e, show ((σ 2 (4 * e)) + N) - σ 2 (4 * e) = N by omega] at hrk7
    refine z_iload hY eL_isNeeded_108 0 rfl ?_
    refine z_icmpne hY eL_isNeeded_110 (by omega) (fun c110 => by exfalso; omega) (fun c110 => ?_)
    refine z_aload hY eL_isNeeded_113 3 rfl ?_
    refine g_gf hY hgX7 eL_isNeeded_114 (v := .ref (B7 0 0)) rfl ?_
    refine z_iload hY eL_isNeeded_117 4 rfl ?_
    refine z_const hY eL_isNeeded_118 ?_
    refine z_callV (As := [z_i e, z_i 0]) (rest := []) hY eL_isNeeded_119 (q_rank (D := D) (h := lH A (B7 0 0) (z_u σ 0 0 X2) g7) hG (gS_J hI7) (gS_B hI7) (gS_V hI7) (gS_S hI7) (by omega) (by omega)) (cH_at (t := 0) (i := 0) (gS_J hI7) (by omega)) (by decide) (Nat.le_of_ble_eq_true rfl) (by rw [hmc, hms]; omega) (fun E9 h9 q => by obtain ⟨-, q⟩ := q; exfalso; omega) (fun vv10 hh10 q10 => ?_)
    obtain ⟨-, rfl, rfl⟩ := q10
    refine z_heq (show _ = gH D B7 κ7 A (z_u σ 0 0 X2) g7 from rfl) ?_
    refine z_top (b := sRk κ7 e) (if_pos rfl) ?_
    refine z_iload hY eL_isNeeded_122 2 rfl ?_
    refine z_icmple hY eL_isNeeded_123 (by omega) (fun c123 => ?_) (fun c123 => by exfalso; omega)
    refine z_iload hY eL_isNeeded_128 1 rfl ?_
    refine z_ifle hY eL_isNeeded_129 (by omega) (fun c129 => ?_) (fun c129 => ?_)
    · refine z_aload hY eL_isNeeded_169 3 rfl ?_
      refine g_gf hY hgX7 eL_isNeeded_170 (v := .ref (B7 0 0)) rfl ?_
      refine z_iload hY eL_isNeeded_173 4 rfl ?_
      refine z_const hY eL_isNeeded_174 ?_
      refine z_iload hY eL_isNeeded_175 0 rfl ?_
      refine z_callV (As := [z_i e, z_i 0, z_i (σ 2 (4 * e))]) (rest := []) hY eL_isNeeded_177 (q_setScore (D := D) (h := lH A (B7 0 0) (z_u σ 0 0 X2) g7) hG hD hM (gS_J hI7) (gS_B hI7) (gS_V hI7) (gS_S hI7) (by omega) (by omega) (by omega) (fun _ => cX_of (gS_j hI7) hp7)) (cH_at (t := 0) (i := 0) (gS_J hI7) (by omega)) (by decide) (Nat.le_of_ble_eq_true rfl) (by rw [hmc, hms]; omega) (fun E9 h9 q => by obtain ⟨-, q⟩ := q; exfalso; omega) (fun vv12 hh12 q12 => ?_)
      obtain ⟨-, rfl, κ11, B11, g11, rfl, hc11, N111, N211, hrel11⟩ := q12
      obtain ⟨hgb11, hgX11, hgP11⟩ := gH_back (D := D) hgX7 hc11
      refine z_heq hgb11 ?_
      have hI11 := w_score (m' := m + 1000) hI7 (by omega) hp7 (k := 0) (by omega) (by omega) (by omega) hrel11 hgX11 hc11.1 hc11.2.1
      have hJE11 := jE_2 (v := (σ 2 (4 * e))) hJE7
      have hp11 := (jE_pr (x := e) hJE11).mpr hp
      have hcp11 := gS_cpr hI11 hp11
      have hrb11 := sRk_b (gS_V hI11) e
      have hq11 : κ11 30 e 0 = (σ 2 (4 * e)) := (gS_30k hI11 hp11 (k := 0) (by omega)).trans z_u_at
      have hrk11 := w_rk hI11 hJE11 hp
      rw [h14e, show (σ 2 (4 * e)) - σ 2 (4 * e) = 0 by omega] at hrk11
      refine z_iload hY eL_isNeeded_180 0 rfl ?_
      refine z_const hY eL_isNeeded_182 ?_
      refine z_iload hY eL_isNeeded_183 1 rfl ?_
      refine z_const hY eL_isNeeded_184 ?_
      refine z_isub hY eL_isNeeded_185 ?_
      refine z_callSr (As := [z_i 0, z_i (N - 1)]) (rest := [z_i (σ 2 (4 * e)), z_i (κ7 30 e 0)]) (r := z_i (if 0 < (N - 1) then (N - 1) else 0)) hY eL_isNeeded_186 (ma_max hG (by omega)) (by decide) (Nat.le_of_ble_eq_true rfl) (by rw [hmc, hms]; omega) ?_
      obtain ⟨M13, hM13⟩ : ∃ M : Int, M = if 0 < (N - 1) then (N - 1) else 0 := ⟨_, rfl⟩
      refine z_top (b := M13) hM13.symm ?_
      have hMs13 : (0 < (N - 1) ∧ M13 = (N - 1)) ∨ ((N - 1) ≤ 0 ∧ M13 = 0) := by rw [hM13]; split <;> omega
      refine z_iadd hY eL_isNeeded_189 ?_
      refine z_icmpne hY eL_isNeeded_190 (by omega) (fun c190 => by exfalso; omega) (fun c190 => ?_)
      refine z_aload hY eL_isNeeded_193 3 rfl ?_
      refine g_gf hY hgX11 eL_isNeeded_194 (v := .ref (B11 0 0)) rfl ?_
      refine z_iload hY eL_isNeeded_197 4 rfl ?_
      refine z_const hY eL_isNeeded_198 ?_
      refine z_callV (As := [z_i e, z_i 0]) (rest := []) hY eL_isNeeded_199 (q_scoreOf (D := D) (h := lH A (B11 0 0) (z_u σ 0 0 X2) g11) hG (gS_J hI11) (gS_B hI11) (gS_V hI11) (gS_S hI11) (by omega) (by omega)) (cH_at (t := 0) (i := 0) (gS_J hI11) (by omega)) (by decide) (Nat.le_of_ble_eq_true rfl) (by rw [hmc, hms]; omega) (fun E9 h9 q => by obtain ⟨-, q⟩ := q; exfalso; omega) (fun vv15 hh15 q15 => ?_)
      obtain ⟨-, rfl, rfl⟩ := q15
      refine z_heq (show _ = gH D B11 κ11 A (z_u σ 0 0 X2) g11 from rfl) ?_
      refine z_iload hY eL_isNeeded_202 0 rfl ?_
      refine z_icmpne hY eL_isNeeded_204 (by omega) (fun c204 => by exfalso; omega) (fun c204 => ?_)
      refine z_const hY eL_isNeeded_207 ?_
      refine z_goto hY eL_isNeeded_208 ?_
      exact z_zreturn hY eL_isNeeded_212 rfl (by omega) (by rw [hφ]; exact ⟨κ11, B11, (yBe (yBe ρ e 0 ((σ 2 (4 * e)) + N)) e 0 (σ 2 (4 * e))), (z_u σ 0 0 X2), g11, rfl, gS_t ((show z_u (z_u (z_u σ 0 0 X2) 2 (4 * e + 0) ((σ 2 (4 * e)) + N)) 2 (4 * e + 0) (σ 2 (4 * e)) = z_u σ 0 0 X2 from by rw [z_u_u, z_u_same (show (z_u σ 0 0 X2) 2 (4 * e + 0) = σ 2 (4 * e) from by show σ 2 (4 * e + 0) = σ 2 (4 * e); rw [show 4 * e + 0 = 4 * e by omega])]) ▸ hI11) (by omega), rfl, rfl⟩) (by rw [hmc, hms]; omega)
    · refine z_aload hY eL_isNeeded_132 3 rfl ?_
      refine g_gf hY hgX7 eL_isNeeded_133 (v := .ref (B7 0 0)) rfl ?_
      refine z_iload hY eL_isNeeded_136 4 rfl ?_
      refine z_const hY eL_isNeeded_137 ?_
      refine z_iload hY eL_isNeeded_138 0 rfl ?_
      refine z_iload hY eL_isNeeded_140 1 rfl ?_
      refine z_iadd hY eL_isNeeded_141 ?_
      refine z_const hY eL_isNeeded_142 ?_
      refine z_isub hY eL_isNeeded_143 ?_
      refine z_callV (As := [z_i e, z_i 0, z_i ((σ 2 (4 * e)) + N - 1)]) (rest := []) hY eL_isNeeded_144 (q_setScore (D := D) (h := lH A (B7 0 0) (z_u σ 0 0 X2) g7) hG hD hM (gS_J hI7) (gS_B hI7) (gS_V hI7) (gS_S hI7) (by omega) (by omega) (by omega) (fun _ => cX_of (gS_j hI7) hp7)) (cH_at (t := 0) (i := 0) (gS_J hI7) (by omega)) (by decide) (Nat.le_of_ble_eq_true rfl) (by rw [hmc, hms]; omega) (fun E9 h9 q => by obtain ⟨-, q⟩ := q; exfalso; omega) (fun vv17 hh17 q17 => ?_)
      obtain ⟨-, rfl, κ16, B16, g16, rfl, hc16, N116, N216, hrel16⟩ := q17
      obtain ⟨hgb16, hgX16, hgP16⟩ := gH_back (D := D) hgX7 hc16
      refine z_heq hgb16 ?_
      have hI16 := w_score (m' := m + 1000) hI7 (by omega) hp7 (k := 0) (by omega) (by omega) (by omega) hrel16 hgX16 hc16.1 hc16.2.1
      have hJE16 := jE_2 (v := ((σ 2 (4 * e)) + N - 1)) hJE7
      have hp16 := (jE_pr (x := e) hJE16).mpr hp
      have hcp16 := gS_cpr hI16 hp16
      have hrb16 := sRk_b (gS_V hI16) e
      have hq16 : κ16 30 e 0 = ((σ 2 (4 * e)) + N - 1) := (gS_30k hI16 hp16 (k := 0) (by omega)).trans z_u_at
      have hrk16 := w_rk hI16 hJE16 hp
      rw [h14e, show ((σ 2 (4 * e)) + N - 1) - σ 2 (4 * e) = N - 1 by omega] at hrk16
      refine z_iload hY eL_isNeeded_147 0 rfl ?_
      refine z_iload hY eL_isNeeded_149 1 rfl ?_
      refine z_iadd hY eL_isNeeded_150 ?_
      refine z_icmpne hY eL_isNeeded_151 (by omega) (fun c151 => by exfalso; omega) (fun c151 => ?_)
      refine z_aload hY eL_isNeeded_154 3 rfl ?_
      refine g_gf hY hgX16 eL_isNeeded_155 (v := .ref (B16 0 0)) rfl ?_
      refine z_iload hY eL_isNeeded_158 4 rfl ?_
      refine z_const hY eL_isNeeded_159 ?_
      refine z_callV (As := [z_i e, z_i 0]) (rest := []) hY eL_isNeeded_160 (q_rank (D := D) (h := lH A (B16 0 0) (z_u σ 0 0 X2) g16) hG (gS_J hI16) (gS_B hI16) (gS_V hI16) (gS_S hI16) (by omega) (by omega)) (cH_at (t := 0) (i := 0) (gS_J hI16) (by omega)) (by decide) (Nat.le_of_ble_eq_true rfl) (by rw [hmc, hms]; omega) (fun E9 h9 q => by obtain ⟨-, q⟩ := q; exfalso; omega) (fun vv19 hh19 q19 => ?_)
      obtain ⟨-, rfl, rfl⟩ := q19
      refine z_heq (show _ = gH D B16 κ16 A (z_u σ 0 0 X2) g16 from rfl) ?_
      refine z_top (b := sRk κ16 e) (if_pos rfl) ?_
      refine z_iload hY eL_isNeeded_163 2 rfl ?_
      refine z_icmpgt hY eL_isNeeded_164 (by omega) (fun c164 => ?_) (fun c164 => by exfalso; omega)
      refine z_aload hY eL_isNeeded_169 3 rfl ?_
      refine g_gf hY hgX16 eL_isNeeded_170 (v := .ref (B16 0 0)) rfl ?_
      refine z_iload hY eL_isNeeded_173 4 rfl ?_
      refine z_const hY eL_isNeeded_174 ?_
      refine z_iload hY eL_isNeeded_175 0 rfl ?_
      refine z_callV (As := [z_i e, z_i 0, z_i (σ 2 (4 * e))]) (rest := []) hY eL_isNeeded_177 (q_setScore (D := D) (h := lH A (B16 0 0) (z_u σ 0 0 X2) g16) hG hD hM (gS_J hI16) (gS_B hI16) (gS_V hI16) (gS_S hI16) (by omega) (by omega) (by omega) (fun _ => cX_of (gS_j hI16) hp16)) (cH_at (t := 0) (i := 0) (gS_J hI16) (by omega)) (by decide) (Nat.le_of_ble_eq_true rfl) (by rw [hmc, hms]; omega) (fun E9 h9 q => by obtain ⟨-, q⟩ := q; exfalso; omega) (fun vv21 hh21 q21 => ?_)
      obtain ⟨-, rfl, κ20, B20, g20, rfl, hc20, N120, N220, hrel20⟩ := q21
      obtain ⟨hgb20, hgX20, hgP20⟩ := gH_back (D := D) hgX16 hc20
      refine z_heq hgb20 ?_
      have hI20 := w_score (m' := m + 1000) hI16 (by omega) hp16 (k := 0) (by omega) (by omega) (by omega) hrel20 hgX20 hc20.1 hc20.2.1
      have hJE20 := jE_2 (v := (σ 2 (4 * e))) hJE16
      have hp20 := (jE_pr (x := e) hJE20).mpr hp
      have hcp20 := gS_cpr hI20 hp20
      have hrb20 := sRk_b (gS_V hI20) e
      have hq20 : κ20 30 e 0 = (σ 2 (4 * e)) := (gS_30k hI20 hp20 (k := 0) (by omega)).trans z_u_at
      have hrk20 := w_rk hI20 hJE20 hp
      rw [h14e, show (σ 2 (4 * e)) - σ 2 (4 * e) = 0 by omega] at hrk20
      refine z_iload hY eL_isNeeded_180 0 rfl ?_
      refine z_const hY eL_isNeeded_182 ?_
      refine z_iload hY eL_isNeeded_183 1 rfl ?_
      refine z_const hY eL_isNeeded_184 ?_
      refine z_isub hY eL_isNeeded_185 ?_
      refine z_callSr (As := [z_i 0, z_i (N - 1)]) (rest := [z_i (σ 2 (4 * e)), z_i (κ16 30 e 0)]) (r := z_i (if 0 < (N - 1) then (N - 1) else 0)) hY eL_isNeeded_186 (ma_max hG (by omega)) (by decide) (Nat.le_of_ble_eq_true rfl) (by rw [hmc, hms]; omega) ?_
      obtain ⟨M22, hM22⟩ : ∃ M : Int, M = if 0 < (N - 1) then (N - 1) else 0 := ⟨_, rfl⟩
      refine z_top (b := M22) hM22.symm ?_
      have hMs22 : (0 < (N - 1) ∧ M22 = (N - 1)) ∨ ((N - 1) ≤ 0 ∧ M22 = 0) := by rw [hM22]; split <;> omega
      refine z_iadd hY eL_isNeeded_189 ?_
      refine z_icmpne hY eL_isNeeded_190 (by omega) (fun c190 => by exfalso; omega) (fun c190 => ?_)
      refine z_aload hY eL_isNeeded_193 3 rfl ?_
      refine g_gf hY hgX20 eL_isNeeded_194 (v := .ref (B20 0 0)) rfl ?_
      refine z_iload hY eL_isNeeded_197 4 rfl ?_
      refine z_const hY eL_isNeeded_198 ?_
      refine z_callV (As := [z_i e, z_i 0]) (rest := []) hY eL_isNeeded_199 (q_scoreOf (D := D) (h := lH A (B20 0 0) (z_u σ 0 0 X2) g20) hG (gS_J hI20) (gS_B hI20) (gS_V hI20) (gS_S hI20) (by omega) (by omega)) (cH_at (t := 0) (i := 0) (gS_J hI20) (by omega)) (by decide) (Nat.le_of_ble_eq_true rfl) (by rw [hmc, hms]; omega) (fun E9 h9 q => by obtain ⟨-, q⟩ := q; exfalso; omega) (fun vv24 hh24 q24 => ?_)
      obtain ⟨-, rfl, rfl⟩ := q24
      refine z_heq (show _ = gH D B20 κ20 A (z_u σ 0 0 X2) g20 from rfl) ?_
      refine z_iload hY eL_isNeeded_202 0 rfl ?_
      refine z_icmpne hY eL_isNeeded_204 (by omega) (fun c204 => by exfalso; omega) (fun c204 => ?_)
      refine z_const hY eL_isNeeded_207 ?_
      refine z_goto hY eL_isNeeded_208 ?_
      exact z_zreturn hY eL_isNeeded_212 rfl (by omega) (by rw [hφ]; exact ⟨κ20, B20, (yBe (yBe (yBe ρ e 0 ((σ 2 (4 * e)) + N)) e 0 ((σ 2 (4 * e)) + N - 1)) e 0 (σ 2 (4 * e))), (z_u σ 0 0 X2), g20, rfl, gS_t ((show z_u (z_u (z_u (z_u σ 0 0 X2) 2 (4 * e + 0) ((σ 2 (4 * e)) + N)) 2 (4 * e + 0) ((σ 2 (4 * e)) + N - 1)) 2 (4 * e + 0) (σ 2 (4 * e)) = z_u σ 0 0 X2 from by rw [z_u_u, z_u_u, z_u_same (show (z_u σ 0 0 X2) 2 (4 * e + 0) = σ 2 (4 * e) from by show σ 2 (4 * e + 0) = σ 2 (4 * e); rw [show 4 * e + 0 = 4 * e by omega])]) ▸ hI20) (by omega), rfl, rfl⟩) (by rw [hmc, hms]; omega)
  · refine z_aload hY eL_isNeeded_36 3 rfl ?_
    refine g_gf hY (gS_X hI4) eL_isNeeded_37 (v := .ref (B 0 0)) rfl ?_
    refine z_iload hY eL_isNeeded_40 4 rfl ?_
    refine z_const hY eL_isNeeded_41 ?_
    refine z_iload hY eL_isNeeded_42 0 rfl ?_
    refine z_const hY eL_isNeeded_44 ?_
    refine z_iadd hY eL_isNeeded_47 ?_
    refine z_callV (As := [z_i e, z_i 0, z_i ((σ 2 (4 * e)) + 1000)]) (rest := []) hY eL_isNeeded_48 (q_setScore (D := D) (h := lH A (B 0 0) (z_u σ 0 0 X2) h) hG hD hM (gS_J hI4) (gS_B hI4) (gS_V hI4) (gS_S hI4) (by omega) (by omega) (by omega) (fun _ => cX_of (gS_j hI4) hp)) (cH_at (t := 0) (i := 0) (gS_J hI4) (by omega)) (by decide) (Nat.le_of_ble_eq_true rfl) (by rw [hmc, hms]; omega) (fun E9 h9 q => by obtain ⟨-, q⟩ := q; exfalso; omega) (fun vv26 hh26 q26 => ?_)
    obtain ⟨-, rfl, κ25, B25, g25, rfl, hc25, N125, N225, hrel25⟩ := q26
    obtain ⟨hgb25, hgX25, hgP25⟩ := gH_back (D := D) (gS_X hI4) hc25
    refine z_heq hgb25 ?_
    have hI25 := w_score (m' := m + 1000) hI4 (by omega) hp (k := 0) (by omega) (by omega) (by omega) hrel25 hgX25 hc25.1 hc25.2.1
    have hJE25 := jE_1 (ρ := ρ) (e := e) (k := 0) (v := ((σ 2 (4 * e)) + 1000))
    have hp25 := (jE_pr (x := e) hJE25).mpr hp
    have hcp25 := gS_cpr hI25 hp25
    have hrb25 := sRk_b (gS_V hI25) e
    have hq25 : κ25 30 e 0 = ((σ 2 (4 * e)) + 1000) := (gS_30k hI25 hp25 (k := 0) (by omega)).trans z_u_at
    have hrk25 := w_rk hI25 hJE25 hp
    rw [h14e, show ((σ 2 (4 * e)) + 1000) - σ 2 (4 * e) = 1000 by omega] at hrk25
    refine z_iload hY eL_isNeeded_51 0 rfl ?_
    refine z_icmpne hY eL_isNeeded_53 (by omega) (fun c53 => by exfalso; omega) (fun c53 => ?_)
    refine z_aload hY eL_isNeeded_56 3 rfl ?_
    refine g_gf hY hgX25 eL_isNeeded_57 (v := .ref (B25 0 0)) rfl ?_
    refine z_iload hY eL_isNeeded_60 4 rfl ?_
    refine z_const hY eL_isNeeded_61 ?_
    refine z_callV (As := [z_i e, z_i 0]) (rest := []) hY eL_isNeeded_62 (q_rank (D := D) (h := lH A (B25 0 0) (z_u σ 0 0 X2) g25) hG (gS_J hI25) (gS_B hI25) (gS_V hI25) (gS_S hI25) (by omega) (by omega)) (cH_at (t := 0) (i := 0) (gS_J hI25) (by omega)) (by decide) (Nat.le_of_ble_eq_true rfl) (by rw [hmc, hms]; omega) (fun E9 h9 q => by obtain ⟨-, q⟩ := q; exfalso; omega) (fun vv28 hh28 q28 => ?_)
    obtain ⟨-, rfl, rfl⟩ := q28
    refine z_heq (show _ = gH D B25 κ25 A (z_u σ 0 0 X2) g25 from rfl) ?_
    refine z_top (b := sRk κ25 e) (if_pos rfl) ?_
    refine z_iload hY eL_isNeeded_65 2 rfl ?_
    refine z_icmple hY eL_isNeeded_66 (by omega) (fun c66 => by exfalso; omega) (fun c66 => ?_)
    refine z_aload hY eL_isNeeded_69 3 rfl ?_
    refine g_gf hY hgX25 eL_isNeeded_70 (v := .ref (B25 0 0)) rfl ?_
    refine z_iload hY eL_isNeeded_73 4 rfl ?_
    refine z_const hY eL_isNeeded_74 ?_
    refine z_iload hY eL_isNeeded_75 0 rfl ?_
    refine z_callV (As := [z_i e, z_i 0, z_i (σ 2 (4 * e))]) (rest := []) hY eL_isNeeded_77 (q_setScore (D := D) (h := lH A (B25 0 0) (z_u σ 0 0 X2) g25) hG hD hM (gS_J hI25) (gS_B hI25) (gS_V hI25) (gS_S hI25) (by omega) (by omega) (by omega) (fun _ => cX_of (gS_j hI25) hp25)) (cH_at (t := 0) (i := 0) (gS_J hI25) (by omega)) (by decide) (Nat.le_of_ble_eq_true rfl) (by rw [hmc, hms]; omega) (fun E9 h9 q => by obtain ⟨-, q⟩ := q; exfalso; omega) (fun vv30 hh30 q30 => ?_)
    obtain ⟨-, rfl, κ29, B29, g29, rfl, hc29, N129, N229, hrel29⟩ := q30
    obtain ⟨hgb29, hgX29, hgP29⟩ := gH_back (D := D) hgX25 hc29
    refine z_heq hgb29 ?_
    have hI29 := w_score (m' := m + 1000) hI25 (by omega) hp25 (k := 0) (by omega) (by omega) (by omega) hrel29 hgX29 hc29.1 hc29.2.1
    have hJE29 := jE_2 (v := (σ 2 (4 * e))) hJE25
    have hp29 := (jE_pr (x := e) hJE29).mpr hp
    have hcp29 := gS_cpr hI29 hp29
    have hrb29 := sRk_b (gS_V hI29) e
    have hq29 : κ29 30 e 0 = (σ 2 (4 * e)) := (gS_30k hI29 hp29 (k := 0) (by omega)).trans z_u_at
    have hrk29 := w_rk hI29 hJE29 hp
    rw [h14e, show (σ 2 (4 * e)) - σ 2 (4 * e) = 0 by omega] at hrk29
    refine z_iload hY eL_isNeeded_80 0 rfl ?_
    refine z_const hY eL_isNeeded_82 ?_
    refine z_iadd hY eL_isNeeded_85 ?_
    refine z_icmpne hY eL_isNeeded_86 (by omega) (fun c86 => by exfalso; omega) (fun c86 => ?_)
    refine z_const hY eL_isNeeded_89 ?_
    refine z_goto hY eL_isNeeded_90 ?_
    exact z_zreturn hY eL_isNeeded_94 rfl (by omega) (by rw [hφ]; exact ⟨κ29, B29, (yBe (yBe ρ e 0 ((σ 2 (4 * e)) + 1000)) e 0 (σ 2 (4 * e))), (z_u σ 0 0 X2), g29, rfl, gS_t ((show z_u (z_u (z_u σ 0 0 X2) 2 (4 * e + 0) ((σ 2 (4 * e)) + 1000)) 2 (4 * e + 0) (σ 2 (4 * e)) = z_u σ 0 0 X2 from by rw [z_u_u, z_u_same (show (z_u σ 0 0 X2) 2 (4 * e + 0) = σ 2 (4 * e) from by show σ 2 (4 * e + 0) = σ 2 (4 * e); rw [show 4 * e + 0 = 4 * e by omega])]) ▸ hI29) (by omega), rfl, rfl⟩) (by rw [hmc, hms]; omega)
end LV4
