/-! The hall: its other reading calls (laid by wip/whole/gen/gm33.py). -/
section D2
def cMs (κ : c_K) : Int := z_sm (fun i => κ 30 (κ 20 1 i) 0) (κ 24 1 0)
def cMe (κ : c_K) : UInt64 := if κ 24 1 0 = 0 then FP.dconst0 else z_dq (cMs κ) (κ 24 1 0)
def cBf (κ : c_K) (e : Int) : UInt32 := if κ 24 1 0 - 1 < 1 then FP.fconst0 else z_fq (cWo κ e) (κ 24 1 0 - 1)
theorem cGr_b (κ : c_K) (p : Int) : -1 ≤ cGr κ p ∧ cGr κ p < 5 := by
  unfold cGr
  rcases z_ff_s (fun g => cTs κ g ≠ -1 ∧ cGh κ g + 1 = p) 5 with ⟨h1, -⟩ | ⟨h1, h2, -, -⟩ <;> omega

theorem q_quantile {G : z_G} {D : Nat} {B : Nat → Int → Nat} {κ : c_K} {h : z_H} (hG : z_OK G) (hJ : cJ B κ) (hB : cB κ) (hV : cV κ) (hS : cS κ) {p q : Int} (hrp : -2147483648 ≤ p ∧ p ≤ 2147483647) (hrq : -2147483648 ≤ q ∧ q ≤ 2147483647) : z_T G mX7_quantile [.ref (B 0 0), z_i p, z_i q] (cH D B κ h) 4 2 12 (fun v h' => ((1 ≤ q ∧ q ≤ 100 ∧ 0 ≤ p ∧ p ≤ q) ∧ 0 < κ 24 1 0) ∧ v = some (z_i (cAt κ (if 1 < ((κ 24 2 0 * p + q - 1) / q) then ((κ 24 2 0 * p + q - 1) / q) else 1))) ∧ h' = cH D B κ h) (fun E h' => h' = cH D B κ h ∧ ((E = "java/lang/IllegalArgumentException" ∧ ¬ (1 ≤ q ∧ q ≤ 100 ∧ 0 ≤ p ∧ p ≤ q)) ∨ (E = "java/util/NoSuchElementException" ∧ (1 ≤ q ∧ q ≤ 100 ∧ 0 ≤ p ∧ p ≤ q) ∧ ¬ 0 < κ 24 1 0))) := by
  obtain ⟨hn, hsz, hrw, hcu, htl, hth⟩ := id hV
  have hs0 := hsz 0 (by omega) (by omega)
  have hs1 := hsz 1 (by omega) (by omega)
  have hs2 := hsz 2 (by omega) (by omega)
  have hs3 := hsz 3 (by omega) (by omega)
  refine z_T_of hG pX7_quantile (Nat.le_of_ble_eq_true rfl) (ls0 := [(0, .ref (B 0 0)), (1, z_i p), (2, z_i q)]) rfl fun Y hY hg hmc hms hφ hψ => ?_
  subst hg
  refine z_iload hY eX7_quantile_0 2 rfl ?_
  refine z_const hY eX7_quantile_1 ?_
  refine z_icmplt hY eX7_quantile_2 (by omega) (fun c2 => ?_) (fun c2 => ?_)
  · exact z_thr hY xX7_quantile_20 (by rw [hmc, hms]; omega) (by rw [hψ]; refine ⟨rfl, ?_⟩; first | exact ⟨rfl, by omega⟩ | exact Or.inl ⟨rfl, by omega⟩ | exact Or.inr ⟨rfl, by omega⟩ | exact Or.inr (Or.inl ⟨rfl, by omega⟩) | exact Or.inr (Or.inr ⟨rfl, by omega⟩))
  · refine z_iload hY eX7_quantile_5 2 rfl ?_
    refine z_const hY eX7_quantile_6 ?_
    refine z_icmpgt hY eX7_quantile_8 (by omega) (fun c8 => ?_) (fun c8 => ?_)
    · exact z_thr hY xX7_quantile_20 (by rw [hmc, hms]; omega) (by rw [hψ]; refine ⟨rfl, ?_⟩; first | exact ⟨rfl, by omega⟩ | exact Or.inl ⟨rfl, by omega⟩ | exact Or.inr ⟨rfl, by omega⟩ | exact Or.inr (Or.inl ⟨rfl, by omega⟩) | exact Or.inr (Or.inr ⟨rfl, by omega⟩))
    · refine z_iload hY eX7_quantile_11 1 rfl ?_
      refine z_iflt hY eX7_quantile_12 (by omega) (fun c12 => ?_) (fun c12 => ?_)
      · exact z_thr hY xX7_quantile_20 (by rw [hmc, hms]; omega) (by rw [hψ]; refine ⟨rfl, ?_⟩; first | exact ⟨rfl, by omega⟩ | exact Or.inl ⟨rfl, by omega⟩ | exact Or.inr ⟨rfl, by omega⟩ | exact Or.inr (Or.inl ⟨rfl, by omega⟩) | exact Or.inr (Or.inr ⟨rfl, by omega⟩))
      · refine z_iload hY eX7_quantile_15 1 rfl ?_
        refine z_iload hY eX7_quantile_16 2 rfl ?_
        refine z_icmple hY eX7_quantile_17 (by omega) (fun c17 => ?_) (fun c17 => ?_)
        · refine z_aload hY eX7_quantile_31 0 rfl ?_
          refine z_callV (As := []) (rest := []) hY eX7_quantile_32 (c_checkSomebodyIsThere hG hJ hB hV hS ) (cH_at (t := 0) (i := 0) hJ (by omega)) (by decide) (Nat.le_of_ble_eq_true rfl) (by rw [hmc, hms]; omega) (fun E' h1 q => by obtain ⟨rfl, q⟩ := q; rw [hψ]; refine ⟨rfl, ?_⟩; obtain ⟨rfl, q⟩ := q <;> (first | exact ⟨rfl, by omega⟩ | exact Or.inl ⟨rfl, by omega⟩ | exact Or.inr ⟨rfl, by omega⟩ | exact Or.inr (Or.inl ⟨rfl, by omega⟩) | exact Or.inr (Or.inr ⟨rfl, by omega⟩))) (fun vv1 hh1 q1 => ?_)
          obtain ⟨hq1, rfl, rfl⟩ := q1
          refine z_aload hY eX7_quantile_35 0 rfl ?_
          refine c_gf hY hJ eX7_quantile_36 (t := 0) (i := 0) (v := .ref (B 10 0)) (by omega) rfl rfl ?_
          refine c_gfN hY hJ eX7_quantile_39 (t := 10) (i := 0) (v := .ref (B 7 2)) (by omega) rfl rfl ?_
          refine z_callVr (As := []) (rest := []) (r := z_i (κ 24 2 0)) hY eX7_quantile_42 (c_size hG hJ hB hV (by omega)) (cH_at (t := 7) (i := 2) hJ (by omega)) (by decide) (Nat.le_of_ble_eq_true rfl) (by rw [hmc, hms]; omega) ?_
          refine z_iload hY eX7_quantile_45 1 rfl ?_
          have hm1 : 0 ≤ κ 24 2 0 * p := Int.mul_nonneg (by omega) (by omega)
          have hm2 : κ 24 2 0 * p ≤ 30 * 100 := Int.mul_le_mul (by omega) (by omega) (by omega) (by omega)
          refine z_imul hY eX7_quantile_46 ?_
          refine z_iload hY eX7_quantile_47 2 rfl ?_
          refine z_iadd hY eX7_quantile_48 ?_
          refine z_const hY eX7_quantile_49 ?_
          refine z_isub hY eX7_quantile_50 ?_
          refine z_iload hY eX7_quantile_51 2 rfl ?_
          refine z_idiv hY eX7_quantile_52 (by omega) ?_
          have hm3 : 0 ≤ ((κ 24 2 0 * p + q - 1) / q) := Int.ediv_nonneg (by omega) (by omega)
          have hm4 : ((κ 24 2 0 * p + q - 1) / q) ≤ κ 24 2 0 * p + q - 1 := Int.ediv_le_self _ (by omega)
          refine z_istore hY eX7_quantile_53 (ls' := [(3, z_i ((((κ 24 2 0) * p) + q - 1) / q)), (0, .ref (B 0 0)), (1, z_i p), (2, z_i q)]) rfl ?_
          refine z_aload hY eX7_quantile_54 1 rfl ?_
          refine c_gf hY hJ eX7_quantile_55 (t := 0) (i := 0) (v := .ref (B 10 0)) (by omega) rfl rfl ?_
          refine z_const hY eX7_quantile_58 ?_
          refine z_iload hY eX7_quantile_59 0 rfl ?_
          refine z_callSr (As := [z_i 1, z_i ((((κ 24 2 0) * p) + q - 1) / q)]) (rest := [.ref (B 10 0)]) (r := z_i (if 1 < ((((κ 24 2 0) * p) + q - 1) / q) then ((((κ 24 2 0) * p) + q - 1) / q) else 1)) hY eX7_quantile_60 (ma_max hG (by omega)) (by decide) (Nat.le_of_ble_eq_true rfl) (by rw [hmc, hms]; omega) ?_
          refine z_callVr (As := [z_i (if 1 < ((((κ 24 2 0) * p) + q - 1) / q) then ((((κ 24 2 0) * p) + q - 1) / q) else 1)]) (rest := []) (r := z_i (cAt κ (if 1 < ((((κ 24 2 0) * p) + q - 1) / q) then ((((κ 24 2 0) * p) + q - 1) / q) else 1))) hY eX7_quantile_63 (p_pointsAt hG hJ hB hV (by omega)) (cH_at (t := 10) (i := 0) hJ (by omega)) (by decide) (Nat.le_of_ble_eq_true rfl) (by rw [hmc, hms]; omega) ?_
          have hc2 := cAt_b hS (if 1 < ((((κ 24 2 0) * p) + q - 1) / q) then ((((κ 24 2 0) * p) + q - 1) / q) else 1)
          exact z_ireturn hY eX7_quantile_66 rfl (by rw [hφ]; first | (exfalso; omega) | exact ⟨by omega, congrArg (fun q => some (z_i q)) (by first | rfl | omega), rfl⟩) (by rw [hmc, hms]; omega)
        · exact z_thr hY xX7_quantile_20 (by rw [hmc, hms]; omega) (by rw [hψ]; refine ⟨rfl, ?_⟩; first | exact ⟨rfl, by omega⟩ | exact Or.inl ⟨rfl, by omega⟩ | exact Or.inr ⟨rfl, by omega⟩ | exact Or.inr (Or.inl ⟨rfl, by omega⟩) | exact Or.inr (Or.inr ⟨rfl, by omega⟩))
theorem q_mayChallenge {G : z_G} {D : Nat} {B : Nat → Int → Nat} {κ : c_K} {h : z_H} (hG : z_OK G) (hJ : cJ B κ) (hB : cB κ) (hV : cV κ) (hS : cS κ) {e : Int} (hre : -2147483648 ≤ e ∧ e ≤ 2147483647) : z_T G mX7_mayChallenge [.ref (B 0 0), z_i e] (cH D B κ h) 5 1 6 (fun v h' => ((0 ≤ e ∧ e < κ 24 0 0 ∧ κ 36 e 0 ≠ 0)) ∧ v = some (z_i (if cLp κ e = -1 then 0 else if cLp κ e - 1 < κ 18 0 0 then cLp κ e - 1 else κ 18 0 0)) ∧ h' = cH D B κ h) (fun E h' => h' = cH D B κ h ∧ ((E = "java/lang/IndexOutOfBoundsException" ∧ ¬ (0 ≤ e ∧ e < κ 24 0 0 ∧ κ 36 e 0 ≠ 0)))) := by
  obtain ⟨hn, hsz, hrw, hcu, htl, hth⟩ := id hV
  have hs0 := hsz 0 (by omega) (by omega)
  have hs1 := hsz 1 (by omega) (by omega)
  have hs2 := hsz 2 (by omega) (by omega)
  have hs3 := hsz 3 (by omega) (by omega)
  refine z_T_of hG pX7_mayChallenge (Nat.le_of_ble_eq_true rfl) (ls0 := [(0, .ref (B 0 0)), (1, z_i e)]) rfl fun Y hY hg hmc hms hφ hψ => ?_
  subst hg
  refine z_aload hY eX7_mayChallenge_0 0 rfl ?_
  refine c_gf hY hJ eX7_mayChallenge_1 (t := 0) (i := 0) (v := .ref (B 11 0)) (by omega) rfl rfl ?_
  refine z_aload hY eX7_mayChallenge_4 0 rfl ?_
  refine z_iload hY eX7_mayChallenge_5 1 rfl ?_
  refine z_callV (As := [z_i e]) (rest := [.ref (B 11 0)]) hY eX7_mayChallenge_6 (c_presentOne hG hJ hB hV hS (by omega)) (cH_at (t := 0) (i := 0) hJ (by omega)) (by decide) (Nat.le_of_ble_eq_true rfl) (by rw [hmc, hms]; omega) (fun E' h1 q => by obtain ⟨rfl, q⟩ := q; rw [hψ]; refine ⟨rfl, ?_⟩; obtain ⟨rfl, q⟩ := q <;> (first | exact ⟨rfl, by omega⟩ | exact Or.inl ⟨rfl, by omega⟩ | exact Or.inr ⟨rfl, by omega⟩ | exact Or.inr (Or.inl ⟨rfl, by omega⟩) | exact Or.inr (Or.inr ⟨rfl, by omega⟩))) (fun vv1 hh1 q1 => ?_)
  obtain ⟨hq1, rfl, rfl⟩ := q1
  refine z_callVr (As := [.ref (B 20 e)]) (rest := []) (r := z_i (cLp κ e)) hY eX7_mayChallenge_9 (l_placeIn hG hJ hB hV (by omega)) (cH_at (t := 11) (i := 0) hJ (by omega)) (by decide) (Nat.le_of_ble_eq_true rfl) (by rw [hmc, hms]; omega) ?_
  have hc2 := cLp_b (κ := κ) e
  refine z_istore hY eX7_mayChallenge_12 (ls' := [(2, z_i (cLp κ e)), (0, .ref (B 0 0)), (1, z_i e)]) rfl ?_
  refine z_iload hY eX7_mayChallenge_13 0 rfl ?_
  refine z_const hY eX7_mayChallenge_14 ?_
  refine z_icmpne hY eX7_mayChallenge_15 (by omega) (fun c15 => ?_) (fun c15 => ?_)
  · refine z_aload hY eX7_mayChallenge_22 1 rfl ?_
    refine c_gf hY hJ eX7_mayChallenge_23 (t := 0) (i := 0) (v := .ref (B 11 0)) (by omega) rfl rfl ?_
    have hb3 := hS.s18 0 0
    refine c_gf hY hJ eX7_mayChallenge_26 (t := 11) (i := 0) (v := z_i (κ 18 0 0)) (by omega) rfl rfl ?_
    refine z_iload hY eX7_mayChallenge_29 0 rfl ?_
    refine z_const hY eX7_mayChallenge_30 ?_
    refine z_isub hY eX7_mayChallenge_31 ?_
    refine z_callSr (As := [z_i (κ 18 0 0), z_i ((cLp κ e) - 1)]) (rest := []) (r := z_i (if ((cLp κ e) - 1) < (κ 18 0 0) then ((cLp κ e) - 1) else (κ 18 0 0))) hY eX7_mayChallenge_32 (ma_min hG (by omega)) (by decide) (Nat.le_of_ble_eq_true rfl) (by rw [hmc, hms]; omega) ?_
    exact z_ireturn hY eX7_mayChallenge_35 rfl (by rw [hφ]; first | (exfalso; omega) | exact ⟨by omega, congrArg (fun q => some (z_i q)) (by (repeat' split) <;> omega), rfl⟩) (by rw [hmc, hms]; omega)
  · refine z_const hY eX7_mayChallenge_18 ?_
    refine z_goto hY eX7_mayChallenge_19 ?_
    exact z_ireturn hY eX7_mayChallenge_35 rfl (by rw [hφ]; first | (exfalso; omega) | exact ⟨by omega, congrArg (fun q => some (z_i q)) (by (repeat' split) <;> omega), rfl⟩) (by rw [hmc, hms]; omega)
theorem q_ladderAt {G : z_G} {D : Nat} {B : Nat → Int → Nat} {κ : c_K} {h : z_H} (hG : z_OK G) (hJ : cJ B κ) (hB : cB κ) (hV : cV κ) (hS : cS κ) {p : Int} (hrp : -2147483648 ≤ p ∧ p ≤ 2147483647) : z_T G mX7_ladderAt [.ref (B 0 0), z_i p] (cH D B κ h) 3 1 6 (fun v h' => (1 ≤ p ∧ p ≤ κ 24 3 0) ∧ v = some (z_i (κ 34 (κ 20 3 (p - 1)) 0)) ∧ h' = cH D B κ h) (fun E h' => h' = cH D B κ h ∧ ((E = "java/lang/IndexOutOfBoundsException" ∧ ¬ (1 ≤ p ∧ p ≤ κ 24 3 0)))) := by
  obtain ⟨hn, hsz, hrw, hcu, htl, hth⟩ := id hV
  have hs0 := hsz 0 (by omega) (by omega)
  have hs1 := hsz 1 (by omega) (by omega)
  have hs2 := hsz 2 (by omega) (by omega)
  have hs3 := hsz 3 (by omega) (by omega)
  refine z_T_of hG pX7_ladderAt (Nat.le_of_ble_eq_true rfl) (ls0 := [(0, .ref (B 0 0)), (1, z_i p)]) rfl fun Y hY hg hmc hms hφ hψ => ?_
  subst hg
  refine z_iload hY eX7_ladderAt_0 1 rfl ?_
  refine z_const hY eX7_ladderAt_1 ?_
  refine z_icmplt hY eX7_ladderAt_2 (by omega) (fun c2 => ?_) (fun c2 => ?_)
  · exact z_thr hY xX7_ladderAt_19 (by rw [hmc, hms]; omega) (by rw [hψ]; refine ⟨rfl, ?_⟩; first | exact ⟨rfl, by omega⟩ | exact Or.inl ⟨rfl, by omega⟩ | exact Or.inr ⟨rfl, by omega⟩ | exact Or.inr (Or.inl ⟨rfl, by omega⟩) | exact Or.inr (Or.inr ⟨rfl, by omega⟩))
  · refine z_iload hY eX7_ladderAt_5 1 rfl ?_
    refine z_aload hY eX7_ladderAt_6 0 rfl ?_
    refine c_gf hY hJ eX7_ladderAt_7 (t := 0) (i := 0) (v := .ref (B 11 0)) (by omega) rfl rfl ?_
    refine c_gfN hY hJ eX7_ladderAt_10 (t := 11) (i := 0) (v := .ref (B 7 3)) (by omega) rfl rfl ?_
    refine z_callVr (As := []) (rest := [z_i p]) (r := z_i (κ 24 3 0)) hY eX7_ladderAt_13 (c_size hG hJ hB hV (by omega)) (cH_at (t := 7) (i := 3) hJ (by omega)) (by decide) (Nat.le_of_ble_eq_true rfl) ⟨Nat.zero_le _, Nat.zero_le _⟩ ?_
    refine z_icmple hY eX7_ladderAt_16 (by omega) (fun c16 => ?_) (fun c16 => ?_)
    · refine z_aload hY eX7_ladderAt_29 0 rfl ?_
      refine c_gf hY hJ eX7_ladderAt_30 (t := 0) (i := 0) (v := .ref (B 11 0)) (by omega) rfl rfl ?_
      refine c_gfN hY hJ eX7_ladderAt_33 (t := 11) (i := 0) (v := .ref (B 7 3)) (by omega) rfl rfl ?_
      refine z_iload hY eX7_ladderAt_36 1 rfl ?_
      refine z_const hY eX7_ladderAt_37 ?_
      refine z_isub hY eX7_ladderAt_38 ?_
      refine z_callVr (As := [z_i (p - 1)]) (rest := []) (r := .ref (B 20 (κ 20 3 (p - 1)))) hY eX7_ladderAt_39 (c_get hG hJ hB hV (by omega) (by omega)) (cH_at (t := 7) (i := 3) hJ (by omega)) (by decide) (Nat.le_of_ble_eq_true rfl) ⟨Nat.zero_le _, Nat.zero_le _⟩ ?_
      have hc1 := hrw 3 (p - 1) (by omega) (by omega) (by omega) (by omega)
      refine z_cast hY eX7_ladderAt_42 (ci := 0) (nm := "StandingsHall$Entrant") (T := TX0) (N := 11) rfl (cH_at (t := 20) (i := (κ 20 3 (p - 1))) hJ (by omega)) ?_
      have hb2 := hS.s34 (κ 20 3 (p - 1)) 0
      refine c_gf hY hJ eX7_ladderAt_45 (t := 20) (i := (κ 20 3 (p - 1))) (v := z_i (κ 34 (κ 20 3 (p - 1)) 0)) (by omega) rfl rfl ?_
      exact z_ireturn hY eX7_ladderAt_48 rfl (by rw [hφ]; first | (exfalso; omega) | exact ⟨by omega, congrArg (fun q => some (z_i q)) (by first | rfl | omega), rfl⟩) ⟨Nat.zero_le _, Nat.zero_le _⟩
    · exact z_thr hY xX7_ladderAt_19 (by rw [hmc, hms]; omega) (by rw [hψ]; refine ⟨rfl, ?_⟩; first | exact ⟨rfl, by omega⟩ | exact Or.inl ⟨rfl, by omega⟩ | exact Or.inr ⟨rfl, by omega⟩ | exact Or.inr (Or.inl ⟨rfl, by omega⟩) | exact Or.inr (Or.inr ⟨rfl, by omega⟩))
theorem q_ladderPlace {G : z_G} {D : Nat} {B : Nat → Int → Nat} {κ : c_K} {h : z_H} (hG : z_OK G) (hJ : cJ B κ) (hB : cB κ) (hV : cV κ) (hS : cS κ) {e : Int} (hre : -2147483648 ≤ e ∧ e ≤ 2147483647) : z_T G mX7_ladderPlace [.ref (B 0 0), z_i e] (cH D B κ h) 5 1 6 (fun v h' => ((0 ≤ e ∧ e < κ 24 0 0 ∧ κ 36 e 0 ≠ 0)) ∧ v = some (z_i (cLp κ e)) ∧ h' = cH D B κ h) (fun E h' => h' = cH D B κ h ∧ ((E = "java/lang/IndexOutOfBoundsException" ∧ ¬ (0 ≤ e ∧ e < κ 24 0 0 ∧ κ 36 e 0 ≠ 0)))) := by
  obtain ⟨hn, hsz, hrw, hcu, htl, hth⟩ := id hV
  have hs0 := hsz 0 (by omega) (by omega)
  have hs1 := hsz 1 (by omega) (by omega)
  have hs2 := hsz 2 (by omega) (by omega)
  have hs3 := hsz 3 (by omega) (by omega)
  refine z_T_of hG pX7_ladderPlace (Nat.le_of_ble_eq_true rfl) (ls0 := [(0, .ref (B 0 0)), (1, z_i e)]) rfl fun Y hY hg hmc hms hφ hψ => ?_
  subst hg
  refine z_aload hY eX7_ladderPlace_0 0 rfl ?_
  refine c_gf hY hJ eX7_ladderPlace_1 (t := 0) (i := 0) (v := .ref (B 11 0)) (by omega) rfl rfl ?_
  refine z_aload hY eX7_ladderPlace_4 0 rfl ?_
  refine z_iload hY eX7_ladderPlace_5 1 rfl ?_
  refine z_callV (As := [z_i e]) (rest := [.ref (B 11 0)]) hY eX7_ladderPlace_6 (c_presentOne hG hJ hB hV hS (by omega)) (cH_at (t := 0) (i := 0) hJ (by omega)) (by decide) (Nat.le_of_ble_eq_true rfl) (by rw [hmc, hms]; omega) (fun E' h1 q => by obtain ⟨rfl, q⟩ := q; rw [hψ]; refine ⟨rfl, ?_⟩; obtain ⟨rfl, q⟩ := q <;> (first | exact ⟨rfl, by omega⟩ | exact Or.inl ⟨rfl, by omega⟩ | exact Or.inr ⟨rfl, by omega⟩ | exact Or.inr (Or.inl ⟨rfl, by omega⟩) | exact Or.inr (Or.inr ⟨rfl, by omega⟩))) (fun vv1 hh1 q1 => ?_)
  obtain ⟨hq1, rfl, rfl⟩ := q1
  refine z_callVr (As := [.ref (B 20 e)]) (rest := []) (r := z_i (cLp κ e)) hY eX7_ladderPlace_9 (l_placeIn hG hJ hB hV (by omega)) (cH_at (t := 11) (i := 0) hJ (by omega)) (by decide) (Nat.le_of_ble_eq_true rfl) (by rw [hmc, hms]; omega) ?_
  have hc2 := cLp_b (κ := κ) e
  exact z_ireturn hY eX7_ladderPlace_12 rfl (by rw [hφ]; first | (exfalso; omega) | exact ⟨by omega, congrArg (fun q => some (z_i q)) (by first | rfl | omega), rfl⟩) (by rw [hmc, hms]; omega)
theorem q_round {G : z_G} {D : Nat} {B : Nat → Int → Nat} {κ : c_K} {h : z_H} (hG : z_OK G) (hJ : cJ B κ) (hB : cB κ) (hV : cV κ) (hS : cS κ)  : z_T G mX7_round [.ref (B 0 0)] (cH D B κ h) 1 0 0 (fun v h' => v = some (z_i (κ 1 0 0)) ∧ h' = cH D B κ h) (z_no) := by
  obtain ⟨hn, hsz, hrw, hcu, htl, hth⟩ := id hV
  have hs0 := hsz 0 (by omega) (by omega)
  have hs1 := hsz 1 (by omega) (by omega)
  have hs2 := hsz 2 (by omega) (by omega)
  have hs3 := hsz 3 (by omega) (by omega)
  refine z_T_of hG pX7_round (Nat.le_of_ble_eq_true rfl) (ls0 := [(0, .ref (B 0 0))]) rfl fun Y hY hg hmc hms hφ hψ => ?_
  subst hg
  refine z_aload hY eX7_round_0 0 rfl ?_
  have hb1 := hS.s1 0 0
  refine c_gf hY hJ eX7_round_1 (t := 0) (i := 0) (v := z_i (κ 1 0 0)) (by omega) rfl rfl ?_
  exact z_ireturn hY eX7_round_4 rfl (by rw [hφ]; first | (exfalso; omega) | exact ⟨congrArg (fun q => some (z_i q)) (by first | rfl | omega), rfl⟩) ⟨Nat.zero_le _, Nat.zero_le _⟩
theorem q_gain {G : z_G} {D : Nat} {B : Nat → Int → Nat} {κ : c_K} {h : z_H} (hG : z_OK G) (hJ : cJ B κ) (hB : cB κ) (hV : cV κ) (hS : cS κ) {e : Int} (hre : -2147483648 ≤ e ∧ e ≤ 2147483647) : z_T G mX7_gain [.ref (B 0 0), z_i e] (cH D B κ h) 5 1 6 (fun v h' => ((0 ≤ e ∧ e < κ 24 0 0 ∧ κ 36 e 0 ≠ 0)) ∧ v = some (z_i (κ 38 e 0)) ∧ h' = cH D B κ h) (fun E h' => h' = cH D B κ h ∧ ((E = "java/lang/IndexOutOfBoundsException" ∧ ¬ (0 ≤ e ∧ e < κ 24 0 0 ∧ κ 36 e 0 ≠ 0)))) := by
  obtain ⟨hn, hsz, hrw, hcu, htl, hth⟩ := id hV
  have hs0 := hsz 0 (by omega) (by omega)
  have hs1 := hsz 1 (by omega) (by omega)
  have hs2 := hsz 2 (by omega) (by omega)
  have hs3 := hsz 3 (by omega) (by omega)
  refine z_T_of hG pX7_gain (Nat.le_of_ble_eq_true rfl) (ls0 := [(0, .ref (B 0 0)), (1, z_i e)]) rfl fun Y hY hg hmc hms hφ hψ => ?_
  subst hg
  refine z_aload hY eX7_gain_0 0 rfl ?_
  refine z_iload hY eX7_gain_1 1 rfl ?_
  refine z_callV (As := [z_i e]) (rest := []) hY eX7_gain_2 (c_presentOne hG hJ hB hV hS (by omega)) (cH_at (t := 0) (i := 0) hJ (by omega)) (by decide) (Nat.le_of_ble_eq_true rfl) (by rw [hmc, hms]; omega) (fun E' h1 q => by obtain ⟨rfl, q⟩ := q; rw [hψ]; refine ⟨rfl, ?_⟩; obtain ⟨rfl, q⟩ := q <;> (first | exact ⟨rfl, by omega⟩ | exact Or.inl ⟨rfl, by omega⟩ | exact Or.inr ⟨rfl, by omega⟩ | exact Or.inr (Or.inl ⟨rfl, by omega⟩) | exact Or.inr (Or.inr ⟨rfl, by omega⟩))) (fun vv1 hh1 q1 => ?_)
  obtain ⟨hq1, rfl, rfl⟩ := q1
  have hb2 := hS.s38 e 0
  refine c_gf hY hJ eX7_gain_5 (t := 20) (i := e) (v := z_i (κ 38 e 0)) (by omega) rfl rfl ?_
  exact z_ireturn hY eX7_gain_8 rfl (by rw [hφ]; first | (exfalso; omega) | exact ⟨by omega, congrArg (fun q => some (z_i q)) (by first | rfl | omega), rfl⟩) (by rw [hmc, hms]; omega)
theorem q_placeThen {G : z_G} {D : Nat} {B : Nat → Int → Nat} {κ : c_K} {h : z_H} (hG : z_OK G) (hJ : cJ B κ) (hB : cB κ) (hV : cV κ) (hS : cS κ) {r e : Int} (hrr : -2147483648 ≤ r ∧ r ≤ 2147483647) (hre : -2147483648 ≤ e ∧ e ≤ 2147483647) : z_T G mX7_placeThen [.ref (B 0 0), z_i r, z_i e] (cH D B κ h) 3 2 12 (fun v h' => ((0 ≤ r ∧ r < κ 1 0 0 ∧ κ 1 0 0 - 20 ≤ r) ∧ 0 ≤ e ∧ e ≤ 29) ∧ v = some (z_i (if e < κ 24 0 0 then cPc κ r e else -1)) ∧ h' = cH D B κ h) (fun E h' => h' = cH D B κ h ∧ ((E = "java/util/NoSuchElementException" ∧ ¬ (0 ≤ r ∧ r < κ 1 0 0 ∧ κ 1 0 0 - 20 ≤ r)) ∨ (E = "java/lang/IllegalArgumentException" ∧ (0 ≤ r ∧ r < κ 1 0 0 ∧ κ 1 0 0 - 20 ≤ r) ∧ ¬ (0 ≤ e ∧ e ≤ 29)))) := by
  obtain ⟨hn, hsz, hrw, hcu, htl, hth⟩ := id hV
  have hs0 := hsz 0 (by omega) (by omega)
  have hs1 := hsz 1 (by omega) (by omega)
  have hs2 := hsz 2 (by omega) (by omega)
  have hs3 := hsz 3 (by omega) (by omega)
  refine z_T_of hG pX7_placeThen (Nat.le_of_ble_eq_true rfl) (ls0 := [(0, .ref (B 0 0)), (1, z_i r), (2, z_i e)]) rfl fun Y hY hg hmc hms hφ hψ => ?_
  subst hg
  refine z_aload hY eX7_placeThen_0 0 rfl ?_
  refine z_iload hY eX7_placeThen_1 1 rfl ?_
  refine z_callV (As := [z_i r]) (rest := []) hY eX7_placeThen_2 (c_checkKept hG hJ hB hV hS (by omega)) (cH_at (t := 0) (i := 0) hJ (by omega)) (by decide) (Nat.le_of_ble_eq_true rfl) (by rw [hmc, hms]; omega) (fun E' h1 q => by obtain ⟨rfl, q⟩ := q; rw [hψ]; refine ⟨rfl, ?_⟩; obtain ⟨rfl, q⟩ := q <;> (first | exact ⟨rfl, by omega⟩ | exact Or.inl ⟨rfl, by omega⟩ | exact Or.inr ⟨rfl, by omega⟩ | exact Or.inr (Or.inl ⟨rfl, by omega⟩) | exact Or.inr (Or.inr ⟨rfl, by omega⟩))) (fun vv1 hh1 q1 => ?_)
  obtain ⟨hq1, rfl, rfl⟩ := q1
  refine z_iload hY eX7_placeThen_5 2 rfl ?_
  refine z_iflt hY eX7_placeThen_6 (by omega) (fun c6 => ?_) (fun c6 => ?_)
  · exact z_thr hY xX7_placeThen_15 (by rw [hmc, hms]; omega) (by rw [hψ]; refine ⟨rfl, ?_⟩; first | exact ⟨rfl, by omega⟩ | exact Or.inl ⟨rfl, by omega⟩ | exact Or.inr ⟨rfl, by omega⟩ | exact Or.inr (Or.inl ⟨rfl, by omega⟩) | exact Or.inr (Or.inr ⟨rfl, by omega⟩))
  · refine z_iload hY eX7_placeThen_9 2 rfl ?_
    refine z_const hY eX7_placeThen_10 ?_
    refine z_icmplt hY eX7_placeThen_12 (by omega) (fun c12 => ?_) (fun c12 => ?_)
    · refine z_iload hY eX7_placeThen_26 2 rfl ?_
      refine z_aload hY eX7_placeThen_27 0 rfl ?_
      refine c_gf hY hJ eX7_placeThen_28 (t := 0) (i := 0) (v := .ref (B 7 0)) (by omega) rfl rfl ?_
      refine z_callVr (As := []) (rest := [z_i e]) (r := z_i (κ 24 0 0)) hY eX7_placeThen_31 (c_size hG hJ hB hV (by omega)) (cH_at (t := 7) (i := 0) hJ (by omega)) (by decide) (Nat.le_of_ble_eq_true rfl) (by rw [hmc, hms]; omega) ?_
      refine z_icmpge hY eX7_placeThen_34 (by omega) (fun c34 => ?_) (fun c34 => ?_)
      · refine z_const hY eX7_placeThen_55 ?_
        exact z_ireturn hY eX7_placeThen_56 rfl (by rw [hφ]; first | (exfalso; omega) | exact ⟨by omega, congrArg (fun q => some (z_i q)) (by split <;> omega), rfl⟩) (by rw [hmc, hms]; omega)
      · refine z_aload hY eX7_placeThen_37 0 rfl ?_
        refine c_gf hY hJ eX7_placeThen_38 (t := 0) (i := 0) (v := .ref (B 7 0)) (by omega) rfl rfl ?_
        refine z_iload hY eX7_placeThen_41 2 rfl ?_
        refine z_callVr (As := [z_i e]) (rest := []) (r := .ref (B 20 e)) hY eX7_placeThen_42 (c_get0 hG hJ hB hV hS (by omega)) (cH_at (t := 7) (i := 0) hJ (by omega)) (by decide) (Nat.le_of_ble_eq_true rfl) (by rw [hmc, hms]; omega) ?_
        refine z_cast hY eX7_placeThen_45 (ci := 0) (nm := "StandingsHall$Entrant") (T := TX0) (N := 11) rfl (cH_at (t := 20) (i := e) hJ (by omega)) ?_
        refine z_iload hY eX7_placeThen_48 1 rfl ?_
        refine z_callVr (As := [z_i r]) (rest := []) (r := z_i (cPc κ r e)) hY eX7_placeThen_49 (e_placeIn hG hJ hB hV (by omega) (by omega)) (cH_at (t := 20) (i := e) hJ (by omega)) (by decide) (Nat.le_of_ble_eq_true rfl) (by rw [hmc, hms]; omega) ?_
        have hc2 := cPc_b hS r e
        refine z_goto hY eX7_placeThen_52 ?_
        exact z_ireturn hY eX7_placeThen_56 rfl (by rw [hφ]; first | (exfalso; omega) | exact ⟨by omega, congrArg (fun q => some (z_i q)) (by split <;> omega), rfl⟩) (by rw [hmc, hms]; omega)
    · exact z_thr hY xX7_placeThen_15 (by rw [hmc, hms]; omega) (by rw [hψ]; refine ⟨rfl, ?_⟩; first | exact ⟨rfl, by omega⟩ | exact Or.inl ⟨rfl, by omega⟩ | exact Or.inr ⟨rfl, by omega⟩ | exact Or.inr (Or.inl ⟨rfl, by omega⟩) | exact Or.inr (Or.inr ⟨rfl, by omega⟩))
theorem q_climb {G : z_G} {D : Nat} {B : Nat → Int → Nat} {κ : c_K} {h : z_H} (hG : z_OK G) (hJ : cJ B κ) (hB : cB κ) (hV : cV κ) (hS : cS κ) {r : Int} (hrr : -2147483648 ≤ r ∧ r ≤ 2147483647) : z_T G mX7_climb [.ref (B 0 0), z_i r] (cH D B κ h) 3 1 6 (fun v h' => ((0 ≤ r ∧ r < κ 1 0 0 ∧ κ 1 0 0 - 20 ≤ r)) ∧ v = some (z_i (cCb κ r)) ∧ h' = cH D B κ h) (fun E h' => h' = cH D B κ h ∧ ((E = "java/util/NoSuchElementException" ∧ ¬ (0 ≤ r ∧ r < κ 1 0 0 ∧ κ 1 0 0 - 20 ≤ r)))) := by
  obtain ⟨hn, hsz, hrw, hcu, htl, hth⟩ := id hV
  have hs0 := hsz 0 (by omega) (by omega)
  have hs1 := hsz 1 (by omega) (by omega)
  have hs2 := hsz 2 (by omega) (by omega)
  have hs3 := hsz 3 (by omega) (by omega)
  refine z_T_of hG pX7_climb (Nat.le_of_ble_eq_true rfl) (ls0 := [(0, .ref (B 0 0)), (1, z_i r)]) rfl fun Y hY hg hmc hms hφ hψ => ?_
  subst hg
  refine z_aload hY eX7_climb_0 0 rfl ?_
  refine z_iload hY eX7_climb_1 1 rfl ?_
  refine z_callV (As := [z_i r]) (rest := []) hY eX7_climb_2 (c_checkKept hG hJ hB hV hS (by omega)) (cH_at (t := 0) (i := 0) hJ (by omega)) (by decide) (Nat.le_of_ble_eq_true rfl) (by rw [hmc, hms]; omega) (fun E' h1 q => by obtain ⟨rfl, q⟩ := q; rw [hψ]; refine ⟨rfl, ?_⟩; obtain ⟨rfl, q⟩ := q <;> (first | exact ⟨rfl, by omega⟩ | exact Or.inl ⟨rfl, by omega⟩ | exact Or.inr ⟨rfl, by omega⟩ | exact Or.inr (Or.inl ⟨rfl, by omega⟩) | exact Or.inr (Or.inr ⟨rfl, by omega⟩))) (fun vv1 hh1 q1 => ?_)
  obtain ⟨hq1, rfl, rfl⟩ := q1
  refine z_const hY eX7_climb_5 ?_
  refine z_istore hY eX7_climb_6 (ls' := [(2, z_i 0), (0, .ref (B 0 0)), (1, z_i r)]) rfl ?_
  refine z_const hY eX7_climb_7 ?_
  refine z_istore hY eX7_climb_8 (ls' := [(3, z_i 0), (2, z_i 0), (0, .ref (B 0 0)), (1, z_i r)]) rfl ?_
  refine z_const hY eX7_climb_9 ?_
  refine z_istore hY eX7_climb_10 (ls' := [(4, z_i 0), (3, z_i 0), (2, z_i 0), (0, .ref (B 0 0)), (1, z_i r)]) rfl ?_
  refine z_sub [3, 4, 0, 2, 1] (ls' := [(0, .ref (B 0 0)), (1, z_i r), (4, z_i 0), (2, z_i 0), (3, z_i 0)]) rfl ?_
  have lp12 : ∀ (fu : Nat) (i : Int) (b : Int) (g : Int), (κ 24 1 0 - i).toNat < fu → (0 ≤ i ∧ i ≤ κ 24 1 0 ∧ 0 ≤ b ∧ b ≤ 1 ∧ -1000 ≤ g ∧ g ≤ 1000) → (cCbL κ r (κ 24 1 0 - i).toNat i b g = cCb κ r) → z_W Y 12 [(0, .ref (B 0 0)), (1, z_i r), (4, z_i i), (2, z_i b), (3, z_i g)] [] (cH D B κ h) (0 + 1) (0 + 6) := by
    intro fu
    induction fu with
    | zero => intro i b g hf; exact absurd hf (Nat.not_lt_zero _)
    | succ fu ih12 =>
      intro i b g hf h0 hn
      refine z_iload hY eX7_climb_12 2 rfl ?_
      refine z_aload hY eX7_climb_14 0 rfl ?_
      refine c_gf hY hJ eX7_climb_15 (t := 0) (i := 0) (v := .ref (B 9 0)) (by omega) rfl rfl ?_
      refine c_gfN hY hJ eX7_climb_18 (t := 9) (i := 0) (v := .ref (B 7 1)) (by omega) rfl rfl ?_
      refine z_callVr (As := []) (rest := [z_i i]) (r := z_i (κ 24 1 0)) hY eX7_climb_21 (c_size hG hJ hB hV (by omega)) (cH_at (t := 7) (i := 1) hJ (by omega)) (by decide) (Nat.le_of_ble_eq_true rfl) (by rw [hmc, hms]; omega) ?_
      refine z_icmpge hY eX7_climb_24 (by omega) (fun c24 => ?_) (fun c24 => ?_)
      · refine z_iload hY eX7_climb_91 4 rfl ?_
        exact z_ireturn hY eX7_climb_92 rfl (by rw [hφ]; first | (exfalso; omega) | exact ⟨by omega, congrArg (fun q => some (z_i q)) (by rw [← hn, cCb_e (by omega)]), rfl⟩) (by rw [hmc, hms]; omega)
      · refine z_aload hY eX7_climb_27 0 rfl ?_
        refine c_gf hY hJ eX7_climb_28 (t := 0) (i := 0) (v := .ref (B 9 0)) (by omega) rfl rfl ?_
        refine c_gfN hY hJ eX7_climb_31 (t := 9) (i := 0) (v := .ref (B 7 1)) (by omega) rfl rfl ?_
        refine z_iload hY eX7_climb_34 2 rfl ?_
        refine z_callVr (As := [z_i i]) (rest := []) (r := .ref (B 20 (κ 20 1 i))) hY eX7_climb_36 (c_get hG hJ hB hV (by omega) (by omega)) (cH_at (t := 7) (i := 1) hJ (by omega)) (by decide) (Nat.le_of_ble_eq_true rfl) (by rw [hmc, hms]; omega) ?_
        have hc2 := hrw 1 i (by omega) (by omega) (by omega) (by omega)
        refine z_cast hY eX7_climb_39 (ci := 0) (nm := "StandingsHall$Entrant") (T := TX0) (N := 11) rfl (cH_at (t := 20) (i := (κ 20 1 i)) hJ (by omega)) ?_
        refine z_astore hY eX7_climb_42 (ls' := [(5, .ref (B 20 (κ 20 1 i))), (0, .ref (B 0 0)), (1, z_i r), (4, z_i i), (2, z_i b), (3, z_i g)]) rfl ?_
        refine z_aload hY eX7_climb_44 0 rfl ?_
        refine z_iload hY eX7_climb_46 2 rfl ?_
        refine z_callVr (As := [z_i r]) (rest := []) (r := z_i (cPc κ r (κ 20 1 i))) hY eX7_climb_47 (e_placeIn hG hJ hB hV (by omega) (by omega)) (cH_at (t := 20) (i := (κ 20 1 i)) hJ (by omega)) (by decide) (Nat.le_of_ble_eq_true rfl) (by rw [hmc, hms]; omega) ?_
        have hc3 := cPc_b hS r (κ 20 1 i)
        refine z_istore hY eX7_climb_50 (ls' := [(6, z_i (cPc κ r (κ 20 1 i))), (5, .ref (B 20 (κ 20 1 i))), (0, .ref (B 0 0)), (1, z_i r), (4, z_i i), (2, z_i b), (3, z_i g)]) rfl ?_
        refine z_iload hY eX7_climb_52 0 rfl ?_
        refine z_const hY eX7_climb_54 ?_
        refine z_icmpeq hY eX7_climb_55 (by omega) (fun c55 => ?_) (fun c55 => ?_)
        · refine z_iinc hY eX7_climb_85 4 rfl (ls' := [(4, z_i (i + 1)), (6, z_i (cPc κ r (κ 20 1 i))), (5, .ref (B 20 (κ 20 1 i))), (0, .ref (B 0 0)), (1, z_i r), (2, z_i b), (3, z_i g)]) rfl ?_
          refine z_goto hY eX7_climb_88 ?_
          refine z_sub [3, 4, 0, 5, 6] (ls' := [(0, .ref (B 0 0)), (1, z_i r), (4, z_i (i + 1)), (2, z_i b), (3, z_i g)]) rfl ?_
          exact ih12 (i + 1) b g (by omega) (by omega) (by first | exact (cCb_y (by omega) (by omega)).symm.trans hn | exact (cCb_n (by omega) (by omega)).symm.trans hn)
        · refine z_iload hY eX7_climb_58 5 rfl ?_
          refine z_ifeq hY eX7_climb_59 (by omega) (fun c59 => ?_) (fun c59 => ?_)
          · refine z_const hY eX7_climb_74 ?_
            refine z_istore hY eX7_climb_75 (ls' := [(2, z_i 1), (6, z_i (cPc κ r (κ 20 1 i))), (5, .ref (B 20 (κ 20 1 i))), (0, .ref (B 0 0)), (1, z_i r), (4, z_i i), (3, z_i g)]) rfl ?_
            refine z_iload hY eX7_climb_76 1 rfl ?_
            refine z_aload hY eX7_climb_78 2 rfl ?_
            have hb4 := hS.s37 (κ 20 1 i) 0
            refine c_gf hY hJ eX7_climb_80 (t := 20) (i := (κ 20 1 i)) (v := z_i (κ 37 (κ 20 1 i) 0)) (by omega) rfl rfl ?_
            refine z_isub hY eX7_climb_83 ?_
            refine z_istore hY eX7_climb_84 (ls' := [(3, z_i ((cPc κ r (κ 20 1 i)) - (κ 37 (κ 20 1 i) 0))), (2, z_i 1), (6, z_i (cPc κ r (κ 20 1 i))), (5, .ref (B 20 (κ 20 1 i))), (0, .ref (B 0 0)), (1, z_i r), (4, z_i i)]) rfl ?_
            refine z_iinc hY eX7_climb_85 6 rfl (ls' := [(4, z_i (i + 1)), (3, z_i ((cPc κ r (κ 20 1 i)) - (κ 37 (κ 20 1 i) 0))), (2, z_i 1), (6, z_i (cPc κ r (κ 20 1 i))), (5, .ref (B 20 (κ 20 1 i))), (0, .ref (B 0 0)), (1, z_i r)]) rfl ?_
            refine z_goto hY eX7_climb_88 ?_
            refine z_sub [5, 6, 0, 2, 1] (ls' := [(0, .ref (B 0 0)), (1, z_i r), (4, z_i (i + 1)), (2, z_i 1), (3, z_i ((cPc κ r (κ 20 1 i)) - (κ 37 (κ 20 1 i) 0)))]) rfl ?_
            exact ih12 (i + 1) 1 ((cPc κ r (κ 20 1 i)) - (κ 37 (κ 20 1 i) 0)) (by omega) (by omega) (by first | exact (cCb_y (by omega) (by omega)).symm.trans hn | exact (cCb_n (by omega) (by omega)).symm.trans hn)
          · refine z_iload hY eX7_climb_62 0 rfl ?_
            refine z_aload hY eX7_climb_64 1 rfl ?_
            have hb5 := hS.s37 (κ 20 1 i) 0
            refine c_gf hY hJ eX7_climb_66 (t := 20) (i := (κ 20 1 i)) (v := z_i (κ 37 (κ 20 1 i) 0)) (by omega) rfl rfl ?_
            refine z_isub hY eX7_climb_69 ?_
            refine z_iload hY eX7_climb_70 6 rfl ?_
            refine z_icmple hY eX7_climb_71 (by omega) (fun c71 => ?_) (fun c71 => ?_)
            · refine z_iinc hY eX7_climb_85 4 rfl (ls' := [(4, z_i (i + 1)), (6, z_i (cPc κ r (κ 20 1 i))), (5, .ref (B 20 (κ 20 1 i))), (0, .ref (B 0 0)), (1, z_i r), (2, z_i b), (3, z_i g)]) rfl ?_
              refine z_goto hY eX7_climb_88 ?_
              refine z_sub [3, 4, 0, 5, 6] (ls' := [(0, .ref (B 0 0)), (1, z_i r), (4, z_i (i + 1)), (2, z_i b), (3, z_i g)]) rfl ?_
              exact ih12 (i + 1) b g (by omega) (by omega) (by first | exact (cCb_y (by omega) (by omega)).symm.trans hn | exact (cCb_n (by omega) (by omega)).symm.trans hn)
            · refine z_const hY eX7_climb_74 ?_
              refine z_istore hY eX7_climb_75 (ls' := [(2, z_i 1), (6, z_i (cPc κ r (κ 20 1 i))), (5, .ref (B 20 (κ 20 1 i))), (0, .ref (B 0 0)), (1, z_i r), (4, z_i i), (3, z_i g)]) rfl ?_
              refine z_iload hY eX7_climb_76 1 rfl ?_
              refine z_aload hY eX7_climb_78 2 rfl ?_
              refine c_gf hY hJ eX7_climb_80 (t := 20) (i := (κ 20 1 i)) (v := z_i (κ 37 (κ 20 1 i) 0)) (by omega) rfl rfl ?_
              refine z_isub hY eX7_climb_83 ?_
              refine z_istore hY eX7_climb_84 (ls' := [(3, z_i ((cPc κ r (κ 20 1 i)) - (κ 37 (κ 20 1 i) 0))), (2, z_i 1), (6, z_i (cPc κ r (κ 20 1 i))), (5, .ref (B 20 (κ 20 1 i))), (0, .ref (B 0 0)), (1, z_i r), (4, z_i i)]) rfl ?_
              refine z_iinc hY eX7_climb_85 6 rfl (ls' := [(4, z_i (i + 1)), (3, z_i ((cPc κ r (κ 20 1 i)) - (κ 37 (κ 20 1 i) 0))), (2, z_i 1), (6, z_i (cPc κ r (κ 20 1 i))), (5, .ref (B 20 (κ 20 1 i))), (0, .ref (B 0 0)), (1, z_i r)]) rfl ?_
              refine z_goto hY eX7_climb_88 ?_
              refine z_sub [5, 6, 0, 2, 1] (ls' := [(0, .ref (B 0 0)), (1, z_i r), (4, z_i (i + 1)), (2, z_i 1), (3, z_i ((cPc κ r (κ 20 1 i)) - (κ 37 (κ 20 1 i) 0)))]) rfl ?_
              exact ih12 (i + 1) 1 ((cPc κ r (κ 20 1 i)) - (κ 37 (κ 20 1 i) 0)) (by omega) (by omega) (by first | exact (cCb_y (by omega) (by omega)).symm.trans hn | exact (cCb_n (by omega) (by omega)).symm.trans hn)
  exact lp12 _ 0 0 0 (Nat.lt_succ_self _) (by omega) rfl
theorem q_best {G : z_G} {D : Nat} {B : Nat → Int → Nat} {κ : c_K} {h : z_H} (hG : z_OK G) (hJ : cJ B κ) (hB : cB κ) (hV : cV κ) (hS : cS κ) {g : Int} (hrg : -2147483648 ≤ g ∧ g ≤ 2147483647) : z_T G mX7_best [.ref (B 0 0), z_i g] (cH D B κ h) 4 1 6 (fun v h' => (0 ≤ g ∧ g ≤ 4) ∧ v = some (z_i (if cFi κ g = -1 then -1 else κ 34 (κ 20 1 (cFi κ g - 1)) 0)) ∧ h' = cH D B κ h) (fun E h' => h' = cH D B κ h ∧ ((E = "java/lang/IllegalArgumentException" ∧ ¬ (0 ≤ g ∧ g ≤ 4)))) := by
  obtain ⟨hn, hsz, hrw, hcu, htl, hth⟩ := id hV
  have hs0 := hsz 0 (by omega) (by omega)
  have hs1 := hsz 1 (by omega) (by omega)
  have hs2 := hsz 2 (by omega) (by omega)
  have hs3 := hsz 3 (by omega) (by omega)
  refine z_T_of hG pX7_best (Nat.le_of_ble_eq_true rfl) (ls0 := [(0, .ref (B 0 0)), (1, z_i g)]) rfl fun Y hY hg hmc hms hφ hψ => ?_
  subst hg
  refine z_aload hY eX7_best_0 0 rfl ?_
  refine z_iload hY eX7_best_1 1 rfl ?_
  refine z_callV (As := [z_i g]) (rest := []) hY eX7_best_2 (c_checkGroup hG hJ hB hV hS (by omega)) (cH_at (t := 0) (i := 0) hJ (by omega)) (by decide) (Nat.le_of_ble_eq_true rfl) (by rw [hmc, hms]; omega) (fun E' h1 q => by obtain ⟨rfl, q⟩ := q; rw [hψ]; refine ⟨rfl, ?_⟩; obtain ⟨rfl, q⟩ := q <;> (first | exact ⟨rfl, by omega⟩ | exact Or.inl ⟨rfl, by omega⟩ | exact Or.inr ⟨rfl, by omega⟩ | exact Or.inr (Or.inl ⟨rfl, by omega⟩) | exact Or.inr (Or.inr ⟨rfl, by omega⟩))) (fun vv1 hh1 q1 => ?_)
  obtain ⟨hq1, rfl, rfl⟩ := q1
  refine z_aload hY eX7_best_5 0 rfl ?_
  refine c_gf hY hJ eX7_best_6 (t := 0) (i := 0) (v := .ref (B 9 0)) (by omega) rfl rfl ?_
  refine z_iload hY eX7_best_9 1 rfl ?_
  refine z_callVr (As := [z_i g]) (rest := []) (r := z_i (cFi κ g)) hY eX7_best_10 (s_firstPlaceOf hG hJ hB hV (by omega)) (cH_at (t := 9) (i := 0) hJ (by omega)) (by decide) (Nat.le_of_ble_eq_true rfl) (by rw [hmc, hms]; omega) ?_
  have hc2 := cFi_b (κ := κ) g
  refine z_istore hY eX7_best_13 (ls' := [(2, z_i (cFi κ g)), (0, .ref (B 0 0)), (1, z_i g)]) rfl ?_
  refine z_iload hY eX7_best_14 0 rfl ?_
  refine z_const hY eX7_best_15 ?_
  refine z_icmplt hY eX7_best_16 (by omega) (fun c16 => ?_) (fun c16 => ?_)
  · refine z_const hY eX7_best_55 ?_
    exact z_ireturn hY eX7_best_56 rfl (by rw [hφ]; first | (exfalso; omega) | exact ⟨by omega, congrArg (fun q => some (z_i q)) (by split <;> omega), rfl⟩) (by rw [hmc, hms]; omega)
  · refine z_iload hY eX7_best_19 0 rfl ?_
    refine z_aload hY eX7_best_20 1 rfl ?_
    refine c_gf hY hJ eX7_best_21 (t := 0) (i := 0) (v := .ref (B 9 0)) (by omega) rfl rfl ?_
    refine c_gfN hY hJ eX7_best_24 (t := 9) (i := 0) (v := .ref (B 7 1)) (by omega) rfl rfl ?_
    refine z_callVr (As := []) (rest := [z_i (cFi κ g)]) (r := z_i (κ 24 1 0)) hY eX7_best_27 (c_size hG hJ hB hV (by omega)) (cH_at (t := 7) (i := 1) hJ (by omega)) (by decide) (Nat.le_of_ble_eq_true rfl) (by rw [hmc, hms]; omega) ?_
    refine z_icmpgt hY eX7_best_30 (by omega) (fun c30 => ?_) (fun c30 => ?_)
    · refine z_const hY eX7_best_55 ?_
      exact z_ireturn hY eX7_best_56 rfl (by rw [hφ]; first | (exfalso; omega) | exact ⟨by omega, congrArg (fun q => some (z_i q)) (by split <;> omega), rfl⟩) (by rw [hmc, hms]; omega)
    · refine z_aload hY eX7_best_33 1 rfl ?_
      refine c_gf hY hJ eX7_best_34 (t := 0) (i := 0) (v := .ref (B 9 0)) (by omega) rfl rfl ?_
      refine c_gfN hY hJ eX7_best_37 (t := 9) (i := 0) (v := .ref (B 7 1)) (by omega) rfl rfl ?_
      refine z_iload hY eX7_best_40 0 rfl ?_
      refine z_const hY eX7_best_41 ?_
      refine z_isub hY eX7_best_42 ?_
      refine z_callVr (As := [z_i ((cFi κ g) - 1)]) (rest := []) (r := .ref (B 20 (κ 20 1 ((cFi κ g) - 1)))) hY eX7_best_43 (c_get hG hJ hB hV (by omega) (by omega)) (cH_at (t := 7) (i := 1) hJ (by omega)) (by decide) (Nat.le_of_ble_eq_true rfl) (by rw [hmc, hms]; omega) ?_
      have hc3 := hrw 1 ((cFi κ g) - 1) (by omega) (by omega) (by omega) (by omega)
      refine z_cast hY eX7_best_46 (ci := 0) (nm := "StandingsHall$Entrant") (T := TX0) (N := 11) rfl (cH_at (t := 20) (i := (κ 20 1 ((cFi κ g) - 1))) hJ (by omega)) ?_
      have hb4 := hS.s34 (κ 20 1 ((cFi κ g) - 1)) 0
      refine c_gf hY hJ eX7_best_49 (t := 20) (i := (κ 20 1 ((cFi κ g) - 1))) (v := z_i (κ 34 (κ 20 1 ((cFi κ g) - 1)) 0)) (by omega) rfl rfl ?_
      refine z_goto hY eX7_best_52 ?_
      exact z_ireturn hY eX7_best_56 rfl (by rw [hφ]; first | (exfalso; omega) | exact ⟨by omega, congrArg (fun q => some (z_i q)) (by split <;> omega), rfl⟩) (by rw [hmc, hms]; omega)
theorem q_members {G : z_G} {D : Nat} {B : Nat → Int → Nat} {κ : c_K} {h : z_H} (hG : z_OK G) (hJ : cJ B κ) (hB : cB κ) (hV : cV κ) (hS : cS κ) {g : Int} (hrg : -2147483648 ≤ g ∧ g ≤ 2147483647) : z_T G mX7_members [.ref (B 0 0), z_i g] (cH D B κ h) 4 1 6 (fun v h' => (0 ≤ g ∧ g ≤ 4) ∧ v = some (z_i (cOf κ g)) ∧ h' = cH D B κ h) (fun E h' => h' = cH D B κ h ∧ ((E = "java/lang/IllegalArgumentException" ∧ ¬ (0 ≤ g ∧ g ≤ 4)))) := by
  obtain ⟨hn, hsz, hrw, hcu, htl, hth⟩ := id hV
  have hs0 := hsz 0 (by omega) (by omega)
  have hs1 := hsz 1 (by omega) (by omega)
  have hs2 := hsz 2 (by omega) (by omega)
  have hs3 := hsz 3 (by omega) (by omega)
  refine z_T_of hG pX7_members (Nat.le_of_ble_eq_true rfl) (ls0 := [(0, .ref (B 0 0)), (1, z_i g)]) rfl fun Y hY hg hmc hms hφ hψ => ?_
  subst hg
  refine z_aload hY eX7_members_0 0 rfl ?_
  refine z_iload hY eX7_members_1 1 rfl ?_
  refine z_callV (As := [z_i g]) (rest := []) hY eX7_members_2 (c_checkGroup hG hJ hB hV hS (by omega)) (cH_at (t := 0) (i := 0) hJ (by omega)) (by decide) (Nat.le_of_ble_eq_true rfl) (by rw [hmc, hms]; omega) (fun E' h1 q => by obtain ⟨rfl, q⟩ := q; rw [hψ]; refine ⟨rfl, ?_⟩; obtain ⟨rfl, q⟩ := q <;> (first | exact ⟨rfl, by omega⟩ | exact Or.inl ⟨rfl, by omega⟩ | exact Or.inr ⟨rfl, by omega⟩ | exact Or.inr (Or.inl ⟨rfl, by omega⟩) | exact Or.inr (Or.inr ⟨rfl, by omega⟩))) (fun vv1 hh1 q1 => ?_)
  obtain ⟨hq1, rfl, rfl⟩ := q1
  refine z_aload hY eX7_members_5 0 rfl ?_
  refine c_gf hY hJ eX7_members_6 (t := 0) (i := 0) (v := .ref (B 9 0)) (by omega) rfl rfl ?_
  refine z_iload hY eX7_members_9 1 rfl ?_
  refine z_callVr (As := [z_i g]) (rest := []) (r := z_i (cOf κ g)) hY eX7_members_10 (s_countOf hG hJ hB hV (by omega)) (cH_at (t := 9) (i := 0) hJ (by omega)) (by decide) (Nat.le_of_ble_eq_true rfl) (by rw [hmc, hms]; omega) ?_
  have hc2 := cOf_b hV g
  exact z_ireturn hY eX7_members_13 rfl (by rw [hφ]; first | (exfalso; omega) | exact ⟨by omega, congrArg (fun q => some (z_i q)) (by first | rfl | omega), rfl⟩) (by rw [hmc, hms]; omega)
theorem q_teamScore {G : z_G} {D : Nat} {B : Nat → Int → Nat} {κ : c_K} {h : z_H} (hG : z_OK G) (hJ : cJ B κ) (hB : cB κ) (hV : cV κ) (hS : cS κ) {g : Int} (hrg : -2147483648 ≤ g ∧ g ≤ 2147483647) : z_T G mX7_teamScore [.ref (B 0 0), z_i g] (cH D B κ h) 4 1 6 (fun v h' => (0 ≤ g ∧ g ≤ 4) ∧ v = some (z_i (cTs κ g)) ∧ h' = cH D B κ h) (fun E h' => h' = cH D B κ h ∧ ((E = "java/lang/IllegalArgumentException" ∧ ¬ (0 ≤ g ∧ g ≤ 4)))) := by
  obtain ⟨hn, hsz, hrw, hcu, htl, hth⟩ := id hV
  have hs0 := hsz 0 (by omega) (by omega)
  have hs1 := hsz 1 (by omega) (by omega)
  have hs2 := hsz 2 (by omega) (by omega)
  have hs3 := hsz 3 (by omega) (by omega)
  refine z_T_of hG pX7_teamScore (Nat.le_of_ble_eq_true rfl) (ls0 := [(0, .ref (B 0 0)), (1, z_i g)]) rfl fun Y hY hg hmc hms hφ hψ => ?_
  subst hg
  refine z_aload hY eX7_teamScore_0 0 rfl ?_
  refine z_iload hY eX7_teamScore_1 1 rfl ?_
  refine z_callV (As := [z_i g]) (rest := []) hY eX7_teamScore_2 (c_checkGroup hG hJ hB hV hS (by omega)) (cH_at (t := 0) (i := 0) hJ (by omega)) (by decide) (Nat.le_of_ble_eq_true rfl) (by rw [hmc, hms]; omega) (fun E' h1 q => by obtain ⟨rfl, q⟩ := q; rw [hψ]; refine ⟨rfl, ?_⟩; obtain ⟨rfl, q⟩ := q <;> (first | exact ⟨rfl, by omega⟩ | exact Or.inl ⟨rfl, by omega⟩ | exact Or.inr ⟨rfl, by omega⟩ | exact Or.inr (Or.inl ⟨rfl, by omega⟩) | exact Or.inr (Or.inr ⟨rfl, by omega⟩))) (fun vv1 hh1 q1 => ?_)
  obtain ⟨hq1, rfl, rfl⟩ := q1
  refine z_aload hY eX7_teamScore_5 0 rfl ?_
  refine c_gf hY hJ eX7_teamScore_6 (t := 0) (i := 0) (v := .ref (B 9 0)) (by omega) rfl rfl ?_
  refine z_iload hY eX7_teamScore_9 1 rfl ?_
  refine z_callVr (As := [z_i g]) (rest := []) (r := z_i (cTs κ g)) hY eX7_teamScore_10 (s_teamSum hG hJ hB hV (by omega)) (cH_at (t := 9) (i := 0) hJ (by omega)) (by decide) (Nat.le_of_ble_eq_true rfl) (by rw [hmc, hms]; omega) ?_
  have hc2 := cTs_b hV g
  exact z_ireturn hY eX7_teamScore_13 rfl (by rw [hφ]; first | (exfalso; omega) | exact ⟨by omega, congrArg (fun q => some (z_i q)) (by first | rfl | omega), rfl⟩) (by rw [hmc, hms]; omega)
theorem q_groupAt {G : z_G} {D : Nat} {B : Nat → Int → Nat} {κ : c_K} {h : z_H} (hG : z_OK G) (hJ : cJ B κ) (hB : cB κ) (hV : cV κ) (hS : cS κ) {p : Int} (hrp : -2147483648 ≤ p ∧ p ≤ 2147483647) : z_T G mX7_groupAt [.ref (B 0 0), z_i p] (cH D B κ h) 6 1 6 (fun v h' => (cGr κ p ≠ -1) ∧ v = some (z_i (cGr κ p)) ∧ h' = cH D B κ h) (fun E h' => h' = cH D B κ h ∧ ((E = "java/lang/IndexOutOfBoundsException" ∧ cGr κ p = -1))) := by
  obtain ⟨hn, hsz, hrw, hcu, htl, hth⟩ := id hV
  have hs0 := hsz 0 (by omega) (by omega)
  have hs1 := hsz 1 (by omega) (by omega)
  have hs2 := hsz 2 (by omega) (by omega)
  have hs3 := hsz 3 (by omega) (by omega)
  refine z_T_of hG pX7_groupAt (Nat.le_of_ble_eq_true rfl) (ls0 := [(0, .ref (B 0 0)), (1, z_i p)]) rfl fun Y hY hg hmc hms hφ hψ => ?_
  subst hg
  refine z_aload hY eX7_groupAt_0 0 rfl ?_
  refine z_iload hY eX7_groupAt_1 1 rfl ?_
  refine z_callVr (As := [z_i p]) (rest := []) (r := z_i (cGr κ p)) hY eX7_groupAt_2 (c_groupRankedAt hG hJ hB hV hS (by omega)) (cH_at (t := 0) (i := 0) hJ (by omega)) (by decide) (Nat.le_of_ble_eq_true rfl) ⟨Nat.zero_le _, Nat.zero_le _⟩ ?_
  have hcg := cGr_b κ p
  refine z_istore hY eX7_groupAt_5 (ls' := [(2, z_i (cGr κ p)), (0, .ref (B 0 0)), (1, z_i p)]) rfl ?_
  refine z_iload hY eX7_groupAt_6 0 rfl ?_
  refine z_const hY eX7_groupAt_7 ?_
  refine z_icmpne hY eX7_groupAt_8 (by omega) (fun c8 => ?_) (fun c8 => ?_)
  · refine z_iload hY eX7_groupAt_21 0 rfl ?_
    exact z_ireturn hY eX7_groupAt_22 rfl (by rw [hφ]; first | (exfalso; omega) | exact ⟨by omega, congrArg (fun q => some (z_i q)) (by first | rfl | omega), rfl⟩) ⟨Nat.zero_le _, Nat.zero_le _⟩
  · exact z_thr hY xX7_groupAt_11 (by rw [hmc, hms]; omega) (by rw [hψ]; refine ⟨rfl, ?_⟩; first | exact ⟨rfl, by omega⟩ | exact Or.inl ⟨rfl, by omega⟩ | exact Or.inr ⟨rfl, by omega⟩ | exact Or.inr (Or.inl ⟨rfl, by omega⟩) | exact Or.inr (Or.inr ⟨rfl, by omega⟩))
theorem q_meanPoints {G : z_G} {D : Nat} {B : Nat → Int → Nat} {κ : c_K} {h : z_H} (hG : z_OK G) (hJ : cJ B κ) (hB : cB κ) (hV : cV κ) (hS : cS κ)  : z_T G mX7_meanPoints [.ref (B 0 0)] (cH D B κ h) 3 0 0 (fun v h' => v = some (.double (cMe κ)) ∧ h' = cH D B κ h) (z_no) := by
  obtain ⟨hn, hsz, hrw, hcu, htl, hth⟩ := id hV
  have hs0 := hsz 0 (by omega) (by omega)
  have hs1 := hsz 1 (by omega) (by omega)
  have hs2 := hsz 2 (by omega) (by omega)
  have hs3 := hsz 3 (by omega) (by omega)
  refine z_T_of hG pX7_meanPoints (Nat.le_of_ble_eq_true rfl) (ls0 := [(0, .ref (B 0 0))]) rfl fun Y hY hg hmc hms hφ hψ => ?_
  subst hg
  refine z_aload hY eX7_meanPoints_0 0 rfl ?_
  refine c_gf hY hJ eX7_meanPoints_1 (t := 0) (i := 0) (v := .ref (B 9 0)) (by omega) rfl rfl ?_
  refine c_gfN hY hJ eX7_meanPoints_4 (t := 9) (i := 0) (v := .ref (B 7 1)) (by omega) rfl rfl ?_
  refine z_callVr (As := []) (rest := []) (r := z_i (κ 24 1 0)) hY eX7_meanPoints_7 (c_size hG hJ hB hV (by omega)) (cH_at (t := 7) (i := 1) hJ (by omega)) (by decide) (Nat.le_of_ble_eq_true rfl) ⟨Nat.zero_le _, Nat.zero_le _⟩ ?_
  refine z_istore hY eX7_meanPoints_10 (ls' := [(1, z_i (κ 24 1 0)), (0, .ref (B 0 0))]) rfl ?_
  refine z_iload hY eX7_meanPoints_11 0 rfl ?_
  refine z_ifne hY eX7_meanPoints_12 (by omega) (fun c12 => ?_) (fun c12 => ?_)
  · refine z_const hY eX7_meanPoints_17 ?_
    refine z_istore hY eX7_meanPoints_18 (ls' := [(2, z_i 0), (1, z_i (κ 24 1 0)), (0, .ref (B 0 0))]) rfl ?_
    refine z_const hY eX7_meanPoints_19 ?_
    refine z_istore hY eX7_meanPoints_20 (ls' := [(3, z_i 0), (2, z_i 0), (1, z_i (κ 24 1 0)), (0, .ref (B 0 0))]) rfl ?_
    refine z_sub [3, 2, 0, 1] (ls' := [(0, .ref (B 0 0)), (1, z_i (κ 24 1 0)), (3, z_i 0), (2, z_i 0)]) rfl ?_
    have lp21 : ∀ (fu : Nat) (i : Int) (n : Int), (κ 24 1 0 - i).toNat < fu → (0 ≤ i ∧ i ≤ κ 24 1 0) → (n = z_sm (fun i => κ 30 (κ 20 1 i) 0) i) → (-100000 * i ≤ n ∧ n ≤ 100000 * i) → z_W Y 21 [(0, .ref (B 0 0)), (1, z_i (κ 24 1 0)), (3, z_i i), (2, z_i n)] [] (cH D B κ h) 0 0 := by
      intro fu
      induction fu with
      | zero => intro i n hf; exact absurd hf (Nat.not_lt_zero _)
      | succ fu ih21 =>
        intro i n hf h0 hn hnb
        refine z_iload hY eX7_meanPoints_21 2 rfl ?_
        refine z_iload hY eX7_meanPoints_22 1 rfl ?_
        refine z_icmpge hY eX7_meanPoints_23 (by omega) (fun c23 => ?_) (fun c23 => ?_)
        · have e1 : cMs κ = n := by unfold cMs; rw [hn, show κ 24 1 0 = i by omega]
          refine z_iload hY eX7_meanPoints_52 3 rfl ?_
          refine z_i2d hY eX7_meanPoints_53 ?_
          refine z_iload hY eX7_meanPoints_54 1 rfl ?_
          refine z_i2d hY eX7_meanPoints_55 ?_
          refine z_ddiv hY eX7_meanPoints_56 (by omega) ?_
          exact z_dreturn hY eX7_meanPoints_57 rfl (by rw [hφ]; exact ⟨congrArg (fun q => some (Value.double q)) (by unfold cMe; first | exact (if_pos (by omega)).symm | (rw [e1]; exact (if_neg (by omega)).symm)), rfl⟩) ⟨Nat.zero_le _, Nat.zero_le _⟩
        · refine z_iload hY eX7_meanPoints_26 3 rfl ?_
          refine z_aload hY eX7_meanPoints_27 0 rfl ?_
          refine c_gf hY hJ eX7_meanPoints_28 (t := 0) (i := 0) (v := .ref (B 9 0)) (by omega) rfl rfl ?_
          refine c_gfN hY hJ eX7_meanPoints_31 (t := 9) (i := 0) (v := .ref (B 7 1)) (by omega) rfl rfl ?_
          refine z_iload hY eX7_meanPoints_34 2 rfl ?_
          refine z_callVr (As := [z_i i]) (rest := [z_i n]) (r := .ref (B 20 (κ 20 1 i))) hY eX7_meanPoints_35 (c_get hG hJ hB hV (by omega) (by omega)) (cH_at (t := 7) (i := 1) hJ (by omega)) (by decide) (Nat.le_of_ble_eq_true rfl) ⟨Nat.zero_le _, Nat.zero_le _⟩ ?_
          have hc1 := hrw 1 i (by omega) (by omega) (by omega) (by omega)
          refine z_cast hY eX7_meanPoints_38 (ci := 0) (nm := "StandingsHall$Entrant") (T := TX0) (N := 11) rfl (cH_at (t := 20) (i := (κ 20 1 i)) hJ (by omega)) ?_
          refine z_callVr (As := []) (rest := [z_i n]) (r := z_i (κ 30 (κ 20 1 i) 0)) hY eX7_meanPoints_41 (e_points hG hJ hB hV (by omega)) (cH_at (t := 20) (i := (κ 20 1 i)) hJ (by omega)) (by decide) (Nat.le_of_ble_eq_true rfl) ⟨Nat.zero_le _, Nat.zero_le _⟩ ?_
          have hc2 := hS.s30 (κ 20 1 i) 0
          refine z_iadd hY eX7_meanPoints_44 ?_
          refine z_istore hY eX7_meanPoints_45 (ls' := [(2, z_i (n + (κ 30 (κ 20 1 i) 0))), (0, .ref (B 0 0)), (1, z_i (κ 24 1 0)), (3, z_i i)]) rfl ?_
          refine z_iinc hY eX7_meanPoints_46 3 rfl (ls' := [(3, z_i (i + 1)), (2, z_i (n + (κ 30 (κ 20 1 i) 0))), (0, .ref (B 0 0)), (1, z_i (κ 24 1 0))]) rfl ?_
          refine z_goto hY eX7_meanPoints_49 ?_
          refine z_sub [2, 3, 0, 1] (ls' := [(0, .ref (B 0 0)), (1, z_i (κ 24 1 0)), (3, z_i (i + 1)), (2, z_i (n + (κ 30 (κ 20 1 i) 0)))]) rfl ?_
          exact ih21 (i + 1) (n + (κ 30 (κ 20 1 i) 0)) (by omega) (by omega) (by rw [z_smS (by omega), ← hn]) (by omega)
    exact lp21 _ 0 0 (Nat.lt_succ_self _) (by omega) (z_sm0 (by omega)).symm (by omega)
  · refine z_dconst0 hY eX7_meanPoints_15 ?_
    exact z_dreturn hY eX7_meanPoints_16 rfl (by rw [hφ]; exact ⟨congrArg (fun q => some (Value.double q)) (by unfold cMe; first | exact (if_pos (by omega)).symm | (rw [e1]; exact (if_neg (by omega)).symm)), rfl⟩) ⟨Nat.zero_le _, Nat.zero_le _⟩
end D2
