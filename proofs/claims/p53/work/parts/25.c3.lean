/-! The inner classes: rounds kept, orders, the tape (laid by wip/whole/gen/gm25.py). -/
section C3
def kK (κ : c_K) (e r : Int) : c_K := if κ 36 e 0 = 0 then k_u (k_u (k_u κ 32 e (r % 10) 0) 33 e (r % 20) (-1)) 38 e 0 0 else k_u (k_u (k_u κ 32 e (r % 10) (κ 38 e 0)) 33 e (r % 20) (κ 37 e 0)) 38 e 0 0
def kF (κ : c_K) (k : Nat) (i : Int) (N v : Int) : c_K := k_r κ k i (fun j => if 0 ≤ j ∧ j < N then v else κ k i j)
def kE (κ : c_K) (o : Int) : c_K := k_u (kF (kF κ 12 o 16 0) 14 o 4 0) 16 o 0 0
def kPb (κ : c_K) (b : Int) : c_K := if b = 0 then κ else k_u (k_u κ 4 0 (κ 5 0 0) b) 5 0 0 (κ 5 0 0 + 1)
theorem kPb_5 (κ : c_K) (b : Int) : kPb κ b 5 0 0 = κ 5 0 0 + (if b = 0 then 0 else 1) := by
  unfold kPb
  split
  · omega
  · exact k_u_at
def kTk (κ : c_K) (v : Int) : c_K := kPb (kPb (kPb (kPb κ (v / 16777216 % 256)) (v / 65536 % 256)) (v / 256 % 256)) (v / 1 % 256)
theorem kTk_5 (κ : c_K) (v : Int) : kTk κ v 5 0 0 = κ 5 0 0 + yBy v := by
  unfold kTk
  rw [kPb_5, kPb_5, kPb_5, kPb_5]
  unfold yBy
  omega
theorem cJ_Pb {B : Nat → Int → Nat} {κ : c_K} (hJ : cJ B κ) (b : Int) : cJ B (kPb κ b) := by
  unfold kPb
  split
  · exact hJ
  · exact cJ_u (by decide) (cJ_u (by decide) hJ)

theorem e_keepRound {G : z_G} {D : Nat} {B : Nat → Int → Nat} {κ : c_K} {h : z_H} (hG : z_OK G) (hJ : cJ B κ) (hB : cB κ) (hV : cV κ) {e r : Int} (he : -1 ≤ e ∧ e < κ 24 0 0) (hr : 0 ≤ r ∧ r ≤ 2147483647) : z_T G mX0_keepRound [.ref (B 20 e), z_i r] (cH D B κ h) 1 0 0 (fun v h' => v = none ∧ h' = cH D B (kK κ e r) h) (z_no) := by
  obtain ⟨hn, hsz, hrw, hcu, htl, hth⟩ := id hV
  have hs0 := hsz 0 (by omega) (by omega)
  have hs1 := hsz 1 (by omega) (by omega)
  have hs2 := hsz 2 (by omega) (by omega)
  have hs3 := hsz 3 (by omega) (by omega)
  refine z_T_of hG pX0_keepRound (Nat.le_of_ble_eq_true rfl) (ls0 := [(0, .ref (B 20 e)), (1, z_i r)]) rfl fun Y hY hg hmc hms hφ hψ => ?_
  subst hg
  refine z_aload hY eX0_keepRound_0 0 rfl ?_
  refine c_gf hY hJ eX0_keepRound_1 (t := 20) (i := e) (v := .ref (B 23 e)) (by omega) rfl rfl ?_
  refine z_iload hY eX0_keepRound_4 1 rfl ?_
  refine z_const hY eX0_keepRound_5 ?_
  refine z_callSr (As := [z_i r, z_i 10]) (rest := [.ref (B 23 e)]) (r := z_i (r % 10)) hY eX0_keepRound_7 (ma_floorMod hG (by omega)) (by decide) (Nat.le_of_ble_eq_true rfl) ⟨Nat.zero_le _, Nat.zero_le _⟩ ?_
  have hc1 := Int.emod_nonneg r (show 10 ≠ 0 by omega)
  have hc2 := Int.emod_lt_of_pos r (show 0 < 10 by omega)
  refine z_aload hY eX0_keepRound_10 0 rfl ?_
  have hb3 := hB 36 e 0
  refine c_gf hY hJ eX0_keepRound_11 (t := 20) (i := e) (v := z_i (κ 36 e 0)) (by omega) rfl rfl ?_
  refine z_ifeq hY eX0_keepRound_14 (by omega) (fun c14 => ?_) (fun c14 => ?_)
  · refine z_const hY eX0_keepRound_24 ?_
    refine c_ias hY hJ eX0_keepRound_25 (t := 23) (N := 10) (key := 32) (i := e) (by decide) rfl (by omega) (fun _ => rfl) (by omega) ?_
    refine z_aload hY eX0_keepRound_26 0 rfl ?_
    refine c_gf hY (cJ_u (by decide) hJ) eX0_keepRound_27 (t := 20) (i := e) (v := .ref (B 24 e)) ((cL_u (by decide) _ _).mpr (by omega)) rfl rfl ?_
    refine z_iload hY eX0_keepRound_30 1 rfl ?_
    refine z_const hY eX0_keepRound_31 ?_
    refine z_callSr (As := [z_i r, z_i 20]) (rest := [.ref (B 24 e)]) (r := z_i (r % 20)) hY eX0_keepRound_33 (ma_floorMod hG (by omega)) (by decide) (Nat.le_of_ble_eq_true rfl) ⟨Nat.zero_le _, Nat.zero_le _⟩ ?_
    have hc4 := Int.emod_nonneg r (show 20 ≠ 0 by omega)
    have hc5 := Int.emod_lt_of_pos r (show 0 < 20 by omega)
    refine z_aload hY eX0_keepRound_36 0 rfl ?_
    refine c_gf hY (cJ_u (by decide) hJ) eX0_keepRound_37 (t := 20) (i := e) (v := z_i (κ 36 e 0)) ((cL_u (by decide) _ _).mpr (by omega)) rfl (by simp [k_u, k_r]) ?_
    refine z_ifeq hY eX0_keepRound_40 (by omega) (fun c40 => ?_) (fun c40 => ?_)
    · refine z_const hY eX0_keepRound_50 ?_
      refine c_ias hY (cJ_u (by decide) hJ) eX0_keepRound_51 (t := 24) (N := 20) (key := 33) (i := e) (by decide) rfl ((cL_u (by decide) _ _).mpr (by omega)) (fun _ => rfl) (by omega) ?_
      refine z_aload hY eX0_keepRound_52 0 rfl ?_
      refine z_const hY eX0_keepRound_53 ?_
      refine c_pf hY (cJ_u (by decide) (cJ_u (by decide) hJ)) eX0_keepRound_54 (key := 38) (t := 20) (i := e) (by decide) rfl ((cL_u (by decide) _ _).mpr ((cL_u (by decide) _ _).mpr (by omega))) rfl (Nat.le_of_ble_eq_true rfl) (by simp [cC, k_u, k_r]) ?_
      exact z_return hY eX0_keepRound_57 rfl (by rw [hφ]; first | (exfalso; omega) | exact ⟨rfl, congrArg (fun q => cH D B q h) (by unfold kK; first | exact (if_pos (by omega)).symm | exact (if_neg (by omega)).symm)⟩) ⟨Nat.zero_le _, Nat.zero_le _⟩
    · refine z_aload hY eX0_keepRound_43 0 rfl ?_
      have hb6 := hB 37 e 0
      refine c_gf hY (cJ_u (by decide) hJ) eX0_keepRound_44 (t := 20) (i := e) (v := z_i (κ 37 e 0)) ((cL_u (by decide) _ _).mpr (by omega)) rfl (by simp [k_u, k_r]) ?_
      refine z_goto hY eX0_keepRound_47 ?_
      refine c_ias hY (cJ_u (by decide) hJ) eX0_keepRound_51 (t := 24) (N := 20) (key := 33) (i := e) (by decide) rfl ((cL_u (by decide) _ _).mpr (by omega)) (fun _ => rfl) (by omega) ?_
      refine z_aload hY eX0_keepRound_52 0 rfl ?_
      refine z_const hY eX0_keepRound_53 ?_
      refine c_pf hY (cJ_u (by decide) (cJ_u (by decide) hJ)) eX0_keepRound_54 (key := 38) (t := 20) (i := e) (by decide) rfl ((cL_u (by decide) _ _).mpr ((cL_u (by decide) _ _).mpr (by omega))) rfl (Nat.le_of_ble_eq_true rfl) (by simp [cC, k_u, k_r]) ?_
      exact z_return hY eX0_keepRound_57 rfl (by rw [hφ]; first | (exfalso; omega) | exact ⟨rfl, congrArg (fun q => cH D B q h) (by unfold kK; first | exact (if_pos (by omega)).symm | exact (if_neg (by omega)).symm)⟩) ⟨Nat.zero_le _, Nat.zero_le _⟩
  · refine z_aload hY eX0_keepRound_17 0 rfl ?_
    have hb7 := hB 38 e 0
    refine c_gf hY hJ eX0_keepRound_18 (t := 20) (i := e) (v := z_i (κ 38 e 0)) (by omega) rfl rfl ?_
    refine z_goto hY eX0_keepRound_21 ?_
    refine c_ias hY hJ eX0_keepRound_25 (t := 23) (N := 10) (key := 32) (i := e) (by decide) rfl (by omega) (fun _ => rfl) (by omega) ?_
    refine z_aload hY eX0_keepRound_26 0 rfl ?_
    refine c_gf hY (cJ_u (by decide) hJ) eX0_keepRound_27 (t := 20) (i := e) (v := .ref (B 24 e)) ((cL_u (by decide) _ _).mpr (by omega)) rfl rfl ?_
    refine z_iload hY eX0_keepRound_30 1 rfl ?_
    refine z_const hY eX0_keepRound_31 ?_
    refine z_callSr (As := [z_i r, z_i 20]) (rest := [.ref (B 24 e)]) (r := z_i (r % 20)) hY eX0_keepRound_33 (ma_floorMod hG (by omega)) (by decide) (Nat.le_of_ble_eq_true rfl) ⟨Nat.zero_le _, Nat.zero_le _⟩ ?_
    have hc8 := Int.emod_nonneg r (show 20 ≠ 0 by omega)
    have hc9 := Int.emod_lt_of_pos r (show 0 < 20 by omega)
    refine z_aload hY eX0_keepRound_36 0 rfl ?_
    refine c_gf hY (cJ_u (by decide) hJ) eX0_keepRound_37 (t := 20) (i := e) (v := z_i (κ 36 e 0)) ((cL_u (by decide) _ _).mpr (by omega)) rfl (by simp [k_u, k_r]) ?_
    refine z_ifeq hY eX0_keepRound_40 (by omega) (fun c40 => ?_) (fun c40 => ?_)
    · refine z_const hY eX0_keepRound_50 ?_
      refine c_ias hY (cJ_u (by decide) hJ) eX0_keepRound_51 (t := 24) (N := 20) (key := 33) (i := e) (by decide) rfl ((cL_u (by decide) _ _).mpr (by omega)) (fun _ => rfl) (by omega) ?_
      refine z_aload hY eX0_keepRound_52 0 rfl ?_
      refine z_const hY eX0_keepRound_53 ?_
      refine c_pf hY (cJ_u (by decide) (cJ_u (by decide) hJ)) eX0_keepRound_54 (key := 38) (t := 20) (i := e) (by decide) rfl ((cL_u (by decide) _ _).mpr ((cL_u (by decide) _ _).mpr (by omega))) rfl (Nat.le_of_ble_eq_true rfl) (by simp [cC, k_u, k_r]) ?_
      exact z_return hY eX0_keepRound_57 rfl (by rw [hφ]; first | (exfalso; omega) | exact ⟨rfl, congrArg (fun q => cH D B q h) (by unfold kK; first | exact (if_pos (by omega)).symm | exact (if_neg (by omega)).symm)⟩) ⟨Nat.zero_le _, Nat.zero_le _⟩
    · refine z_aload hY eX0_keepRound_43 0 rfl ?_
      have hb10 := hB 37 e 0
      refine c_gf hY (cJ_u (by decide) hJ) eX0_keepRound_44 (t := 20) (i := e) (v := z_i (κ 37 e 0)) ((cL_u (by decide) _ _).mpr (by omega)) rfl (by simp [k_u, k_r]) ?_
      refine z_goto hY eX0_keepRound_47 ?_
      refine c_ias hY (cJ_u (by decide) hJ) eX0_keepRound_51 (t := 24) (N := 20) (key := 33) (i := e) (by decide) rfl ((cL_u (by decide) _ _).mpr (by omega)) (fun _ => rfl) (by omega) ?_
      refine z_aload hY eX0_keepRound_52 0 rfl ?_
      refine z_const hY eX0_keepRound_53 ?_
      refine c_pf hY (cJ_u (by decide) (cJ_u (by decide) hJ)) eX0_keepRound_54 (key := 38) (t := 20) (i := e) (by decide) rfl ((cL_u (by decide) _ _).mpr ((cL_u (by decide) _ _).mpr (by omega))) rfl (Nat.le_of_ble_eq_true rfl) (by simp [cC, k_u, k_r]) ?_
      exact z_return hY eX0_keepRound_57 rfl (by rw [hφ]; first | (exfalso; omega) | exact ⟨rfl, congrArg (fun q => cH D B q h) (by unfold kK; first | exact (if_pos (by omega)).symm | exact (if_neg (by omega)).symm)⟩) ⟨Nat.zero_le _, Nat.zero_le _⟩
theorem o_begin {G : z_G} {D : Nat} {B : Nat → Int → Nat} {κ : c_K} {h : z_H} (hG : z_OK G) (hJ : cJ B κ) (hB : cB κ) (hV : cV κ) {o c s : Int} (ho : 0 ≤ o ∧ o ≤ 1) (hc : 0 ≤ c ∧ c < 4) : z_T G mX2_begin [.ref (B 4 o), z_i c, z_i s] (cH D B κ h) 1 0 0 (fun v h' => v = none ∧ h' = cH D B (k_u (k_u κ 14 o c s) 16 o 0 (c + 1)) h) (z_no) := by
  obtain ⟨hn, hsz, hrw, hcu, htl, hth⟩ := id hV
  have hs0 := hsz 0 (by omega) (by omega)
  have hs1 := hsz 1 (by omega) (by omega)
  have hs2 := hsz 2 (by omega) (by omega)
  have hs3 := hsz 3 (by omega) (by omega)
  refine z_T_of hG pX2_begin (Nat.le_of_ble_eq_true rfl) (ls0 := [(0, .ref (B 4 o)), (1, z_i c), (2, z_i s)]) rfl fun Y hY hg hmc hms hφ hψ => ?_
  subst hg
  refine z_aload hY eX2_begin_0 0 rfl ?_
  refine z_iload hY eX2_begin_1 1 rfl ?_
  refine z_callVr (As := [z_i c]) (rest := []) (r := z_i (z_bl (0 ≤ c ∧ c < 4))) hY eX2_begin_2 (o_isCriterion hG (by omega)) (cH_at (t := 4) (i := o) hJ (by omega)) (by decide) (Nat.le_of_ble_eq_true rfl) ⟨Nat.zero_le _, Nat.zero_le _⟩ ?_
  refine z_ifeqb hY eX2_begin_5 (fun c5 => ?_) (fun c5 => ?_)
  · exact z_return hY eX2_begin_22 rfl (by rw [hφ]; first | (exfalso; omega) | exact ⟨rfl, rfl⟩) ⟨Nat.zero_le _, Nat.zero_le _⟩
  · refine z_aload hY eX2_begin_8 0 rfl ?_
    refine c_gf hY hJ eX2_begin_9 (t := 4) (i := o) (v := .ref (B 6 o)) (by omega) rfl rfl ?_
    refine z_iload hY eX2_begin_12 1 rfl ?_
    refine z_iload hY eX2_begin_13 2 rfl ?_
    refine c_ias hY hJ eX2_begin_14 (t := 6) (N := 4) (key := 14) (i := o) (by decide) rfl (by omega) (fun _ => rfl) (by omega) ?_
    refine z_aload hY eX2_begin_15 0 rfl ?_
    refine z_iload hY eX2_begin_16 1 rfl ?_
    refine z_const hY eX2_begin_17 ?_
    refine z_iadd hY eX2_begin_18 ?_
    refine c_pf hY (cJ_u (by decide) hJ) eX2_begin_19 (key := 16) (t := 4) (i := o) (by decide) rfl ((cL_u (by decide) _ _).mpr (by omega)) rfl (Nat.le_of_ble_eq_true rfl) (by simp [cC, k_u, k_r]) ?_
    exact z_return hY eX2_begin_22 rfl (by rw [hφ]; first | (exfalso; omega) | exact ⟨rfl, rfl⟩) ⟨Nat.zero_le _, Nat.zero_le _⟩
theorem o_addTerm {G : z_G} {D : Nat} {B : Nat → Int → Nat} {κ : c_K} {h : z_H} (hG : z_OK G) (hJ : cJ B κ) (hB : cB κ) (hV : cV κ) {o c k f : Int} (ho : 0 ≤ o ∧ o ≤ 1) (hc : 0 ≤ c ∧ c < 4) (hk : 0 ≤ k ∧ k < 4) : z_T G mX2_addTerm [.ref (B 4 o), z_i c, z_i k, z_i f] (cH D B κ h) 1 0 0 (fun v h' => v = none ∧ h' = cH D B (k_u κ 12 o (4 * c + k) (κ 12 o (4 * c + k) + f)) h) (z_no) := by
  obtain ⟨hn, hsz, hrw, hcu, htl, hth⟩ := id hV
  have hs0 := hsz 0 (by omega) (by omega)
  have hs1 := hsz 1 (by omega) (by omega)
  have hs2 := hsz 2 (by omega) (by omega)
  have hs3 := hsz 3 (by omega) (by omega)
  refine z_T_of hG pX2_addTerm (Nat.le_of_ble_eq_true rfl) (ls0 := [(0, .ref (B 4 o)), (1, z_i c), (2, z_i k), (3, z_i f)]) rfl fun Y hY hg hmc hms hφ hψ => ?_
  subst hg
  refine z_aload hY eX2_addTerm_0 0 rfl ?_
  refine z_iload hY eX2_addTerm_1 1 rfl ?_
  refine z_callVr (As := [z_i c]) (rest := []) (r := z_i (z_bl (0 ≤ c ∧ c < 4))) hY eX2_addTerm_2 (o_isCriterion hG (by omega)) (cH_at (t := 4) (i := o) hJ (by omega)) (by decide) (Nat.le_of_ble_eq_true rfl) ⟨Nat.zero_le _, Nat.zero_le _⟩ ?_
  refine z_ifeqb hY eX2_addTerm_5 (fun c5 => ?_) (fun c5 => ?_)
  · exact z_return hY eX2_addTerm_31 rfl (by rw [hφ]; first | (exfalso; omega) | exact ⟨rfl, rfl⟩) ⟨Nat.zero_le _, Nat.zero_le _⟩
  · refine z_iload hY eX2_addTerm_8 2 rfl ?_
    refine z_iflt hY eX2_addTerm_9 (by omega) (fun c => by exfalso; omega) (fun c9 => ?_)
    refine z_iload hY eX2_addTerm_12 2 rfl ?_
    refine z_const hY eX2_addTerm_13 ?_
    refine z_icmpge hY eX2_addTerm_14 (by omega) (fun c => by exfalso; omega) (fun c14 => ?_)
    refine z_aload hY eX2_addTerm_17 0 rfl ?_
    refine c_gf hY hJ eX2_addTerm_18 (t := 4) (i := o) (v := .ref (B 5 o)) (by omega) rfl rfl ?_
    refine z_iload hY eX2_addTerm_21 1 rfl ?_
    refine z_const hY eX2_addTerm_22 ?_
    refine z_imul hY eX2_addTerm_23 ?_
    refine z_top (b := 4 * c) (by omega) ?_
    refine z_iload hY eX2_addTerm_24 2 rfl ?_
    refine z_iadd hY eX2_addTerm_25 ?_
    refine z_dup2 hY eX2_addTerm_26 rfl rfl ?_
    have hb1 := hB 12 o (4 * c + k)
    refine c_ial hY hJ eX2_addTerm_27 (t := 5) (N := 16) (key := 12) (i := o) (x := κ 12 o (4 * c + k)) (by omega) rfl (by omega) rfl ?_
    refine z_iload hY eX2_addTerm_28 3 rfl ?_
    refine z_iadd hY eX2_addTerm_29 ?_
    refine c_ias hY hJ eX2_addTerm_30 (t := 5) (N := 16) (key := 12) (i := o) (by decide) rfl (by omega) (fun _ => rfl) (by omega) ?_
    exact z_return hY eX2_addTerm_31 rfl (by rw [hφ]; first | (exfalso; omega) | exact ⟨rfl, rfl⟩) ⟨Nat.zero_le _, Nat.zero_le _⟩
theorem ar_fill {G : z_G} {h : z_H} (hG : z_OK G) {a N : Nat} {v : Int} {f : Int → Int} (ha : h a = some (z_ia N f)) (hN : N ≤ 1000) : z_T G mJ7_fill_53178 [.ref a, z_i v] (h) 0 0 0 (fun v' h' => v' = none ∧ h' = z_set h a (z_ia N (fun j => if 0 ≤ j ∧ j < (N : Int) then v else f j))) (z_no) := by
  refine z_T_of hG pJ7_fill_53178 (Nat.le_of_ble_eq_true rfl) (ls0 := [(0, .ref a), (1, z_i v)]) rfl fun Y hY hg hmc hms hφ hψ => ?_
  subst hg
  refine z_const hY eJ7_fill_53178_0 ?_
  refine z_istore hY eJ7_fill_53178_1 (ls' := [(2, z_i 0), (0, .ref a), (1, z_i v)]) rfl ?_
  refine z_aload hY eJ7_fill_53178_2 1 rfl ?_
  refine z_arrlen hY eJ7_fill_53178_3 (t := 0) (N := N) ha (by decide) ?_
  refine z_istore hY eJ7_fill_53178_4 (ls' := [(3, z_i (N : Int)), (2, z_i 0), (0, .ref a), (1, z_i v)]) rfl ?_
  refine z_heq (show h = z_set h a (z_ia N (fun j => if 0 ≤ j ∧ j < 0 then v else f j)) from by rw [show z_ia N (fun j => if 0 ≤ j ∧ j < (0 : Int) then v else f j) = z_ia N f from z_ia_congr fun j hj => if_neg (by omega)]; exact (z_set_s ha).symm) ?_
  refine z_sub [2, 3, 0, 1] (ls' := [(0, .ref a), (1, z_i v), (3, z_i (N : Int)), (2, z_i 0)]) rfl ?_
  have lp : ∀ (fu : Nat) (i : Int), (N - i).toNat < fu → (0 ≤ i ∧ i ≤ N) → z_W Y 5 [(0, .ref a), (1, z_i v), (3, z_i (N : Int)), (2, z_i i)] [] (z_set h a (z_ia N (fun j => if 0 ≤ j ∧ j < i then v else f j))) 0 0 := by
    intro fu
    induction fu with
    | zero => intro i hf; exact absurd hf (Nat.not_lt_zero _)
    | succ fu ih =>
      intro i hf h0
      refine z_iload hY eJ7_fill_53178_5 3 rfl ?_
      refine z_iload hY eJ7_fill_53178_6 2 rfl ?_
      refine z_icmpge hY eJ7_fill_53178_7 (by omega) (fun c7 => ?_) (fun c7 => ?_)
      · exact z_return hY eJ7_fill_53178_20 rfl (by rw [hφ]; exact ⟨rfl, by rw [show i = (N : Int) by omega]⟩) ⟨Nat.zero_le _, Nat.zero_le _⟩
      · refine z_aload hY eJ7_fill_53178_10 0 rfl ?_
        refine z_iload hY eJ7_fill_53178_11 3 rfl ?_
        refine z_iload hY eJ7_fill_53178_12 1 rfl ?_
        refine z_iastore hY eJ7_fill_53178_13 z_set_at (by omega) ?_
        refine z_heq (show _ = z_set h a (z_ia N (z_up (fun j => if 0 ≤ j ∧ j < i then v else f j) i v)) from z_set_o) ?_
        refine z_iinc hY eJ7_fill_53178_14 3 rfl (ls' := [(2, z_i (i + 1)), (0, .ref a), (1, z_i v), (3, z_i (N : Int))]) rfl ?_
        refine z_goto hY eJ7_fill_53178_17 ?_
        refine z_sub [1, 2, 3, 0] (ls' := [(0, .ref a), (1, z_i v), (3, z_i (N : Int)), (2, z_i (i + 1))]) rfl ?_
        refine z_heq (show z_set h a (z_ia N (z_up (fun j => if 0 ≤ j ∧ j < i then v else f j) i v)) = z_set h a (z_ia N (fun j => if 0 ≤ j ∧ j < i + 1 then v else f j)) from congrArg (z_set h a) (z_ia_congr fun j hj => by unfold z_up; dsimp only; (repeat' split) <;> first | rfl | (exfalso; omega))) ?_
        exact ih (i + 1) (by omega) (by omega)
  exact lp _ 0 (Nat.lt_succ_self _) (by omega)
theorem c_fill {G : z_G} {D : Nat} {B : Nat → Int → Nat} {κ : c_K} {h : z_H} (hG : z_OK G) (hJ : cJ B κ) {t N key : Nat} {i v : Int} (hk : key ≠ 24 ∧ key ≠ 26) (ht : cG key = t) (hL : cL κ t i) (hC : ∀ κ : c_K, cC D B κ t i = z_ia N (κ key i)) (hN : N ≤ 1000) : z_T G mJ7_fill_53178 [.ref (B t i), z_i v] (cH D B κ h) 0 0 0 (fun v' h' => v' = none ∧ h' = cH D B (kF κ key i N v) h) z_no := by
  refine z_T.mono (ar_fill hG (a := B t i) (N := N) (v := v) (f := κ key i) (by rw [cH_at hJ hL, hC]) hN) (fun v' h' q => ⟨q.1, q.2.trans ?_⟩) (fun _ _ q => q)
  refine cH_r hJ hk ht hL ?_
  rw [hC, k_r_eq]
theorem cJ_F {B : Nat → Int → Nat} {κ : c_K} {k : Nat} {i N v : Int} (hk : k ≠ 24 ∧ k ≠ 26) (hJ : cJ B κ) : cJ B (kF κ k i N v) := cJ_r hk hJ
theorem o_empty {G : z_G} {D : Nat} {B : Nat → Int → Nat} {κ : c_K} {h : z_H} (hG : z_OK G) (hJ : cJ B κ) (hB : cB κ) (hV : cV κ) {o : Int} (ho : 0 ≤ o ∧ o ≤ 1) : z_T G mX2_empty [.ref (B 4 o)] (cH D B κ h) 1 0 0 (fun v h' => v = none ∧ h' = cH D B (kE κ o) h) (z_no) := by
  obtain ⟨hn, hsz, hrw, hcu, htl, hth⟩ := id hV
  have hs0 := hsz 0 (by omega) (by omega)
  have hs1 := hsz 1 (by omega) (by omega)
  have hs2 := hsz 2 (by omega) (by omega)
  have hs3 := hsz 3 (by omega) (by omega)
  refine z_T_of hG pX2_empty (Nat.le_of_ble_eq_true rfl) (ls0 := [(0, .ref (B 4 o))]) rfl fun Y hY hg hmc hms hφ hψ => ?_
  subst hg
  refine z_aload hY eX2_empty_0 0 rfl ?_
  refine c_gf hY hJ eX2_empty_1 (t := 4) (i := o) (v := .ref (B 5 o)) (by omega) rfl rfl ?_
  refine z_const hY eX2_empty_4 ?_
  refine z_callS (As := [.ref (B 5 o), z_i 0]) (rest := []) hY eX2_empty_5 (c_fill (t := 5) (N := 16) (key := 12) (i := o) hG hJ (by decide) rfl (by omega) (fun _ => rfl) (by decide)) (by decide) (Nat.le_of_ble_eq_true rfl) ⟨Nat.zero_le _, Nat.zero_le _⟩ (fun _ _ q => q.elim) (fun vv1 hh1 q1 => ?_)
  obtain ⟨rfl, rfl⟩ := q1
  refine z_heq (show _ = cH D B (k_r κ 12 o (fun j => if 0 ≤ j ∧ j < 16 then 0 else κ 12 o j)) h from rfl) ?_
  refine z_aload hY eX2_empty_8 0 rfl ?_
  refine c_gf hY (cJ_r (by decide) hJ) eX2_empty_9 (t := 4) (i := o) (v := .ref (B 6 o)) ((cL_r (by decide) _ _).mpr (by omega)) rfl rfl ?_
  refine z_const hY eX2_empty_12 ?_
  refine z_callS (As := [.ref (B 6 o), z_i 0]) (rest := []) hY eX2_empty_13 (c_fill (t := 6) (N := 4) (key := 14) (i := o) hG (cJ_r (by decide) hJ) (by decide) rfl ((cL_r (by decide) _ _).mpr (by omega)) (fun _ => rfl) (by decide)) (by decide) (Nat.le_of_ble_eq_true rfl) ⟨Nat.zero_le _, Nat.zero_le _⟩ (fun _ _ q => q.elim) (fun vv2 hh2 q2 => ?_)
  obtain ⟨rfl, rfl⟩ := q2
  refine z_heq (show _ = cH D B (k_r (k_r κ 12 o (fun j => if 0 ≤ j ∧ j < 16 then 0 else κ 12 o j)) 14 o (fun j => if 0 ≤ j ∧ j < 4 then 0 else (k_r κ 12 o (fun j => if 0 ≤ j ∧ j < 16 then 0 else κ 12 o j)) 14 o j)) h from rfl) ?_
  refine z_aload hY eX2_empty_16 0 rfl ?_
  refine z_const hY eX2_empty_17 ?_
  refine c_pf hY (cJ_r (by decide) (cJ_r (by decide) hJ)) eX2_empty_18 (key := 16) (t := 4) (i := o) (by decide) rfl ((cL_r (by decide) _ _).mpr ((cL_r (by decide) _ _).mpr (by omega))) rfl (Nat.le_of_ble_eq_true rfl) (by simp [cC, k_u, k_r]) ?_
  exact z_return hY eX2_empty_21 rfl (by rw [hφ]; exact ⟨rfl, rfl⟩) ⟨Nat.zero_le _, Nat.zero_le _⟩
theorem t_addWord {G : z_G} {D : Nat} {B : Nat → Int → Nat} {κ : c_K} {h : z_H} (hG : z_OK G) (hJ : cJ B κ) (hB : cB κ) (hV : cV κ) {v : Int} (hr : -2147483648 ≤ v ∧ v ≤ 2147483647) (hroom : κ 5 0 0 + yBy v ≤ 100) : z_T G mX6_addWord [.ref (B 1 0), z_i v] (cH D B κ h) 0 0 0 (fun v' h' => v' = none ∧ h' = cH D B (kTk κ v) h) (z_no) := by
  obtain ⟨hn, hsz, hrw, hcu, htl, hth⟩ := id hV
  have hs0 := hsz 0 (by omega) (by omega)
  have hs1 := hsz 1 (by omega) (by omega)
  have hs2 := hsz 2 (by omega) (by omega)
  have hs3 := hsz 3 (by omega) (by omega)
  refine z_T_of hG pX6_addWord (Nat.le_of_ble_eq_true rfl) (ls0 := [(0, .ref (B 1 0)), (1, z_i v)]) rfl fun Y hY hg hmc hms hφ hψ => ?_
  subst hg
  unfold yBy at hroom
  refine z_const hY eX6_addWord_0 ?_
  refine z_istore hY eX6_addWord_2 (ls' := [(2, z_i 24), (0, .ref (B 1 0)), (1, z_i v)]) rfl ?_
  refine z_iload hY eX6_addWord_3 0 rfl ?_
  refine z_iflt hY eX6_addWord_4 (by omega) (fun c => absurd c (by omega)) (fun _ => ?_)
  refine z_iload hY eX6_addWord_7 2 rfl ?_
  refine z_iload hY eX6_addWord_8 0 rfl ?_
  refine z_iushr hY eX6_addWord_9 (D := 16777216) (by unfold z_sk; omega) ?_
  refine z_const hY eX6_addWord_10 ?_
  refine z_iand255 hY eX6_addWord_13 ?_
  refine z_top (b := v / 16777216 % 256) (z_byt_16777216 _) ?_
  refine z_istore hY eX6_addWord_14 (ls' := [(3, z_i (v / 16777216 % 256)), (2, z_i 24), (0, .ref (B 1 0)), (1, z_i v)]) rfl ?_
  refine z_iload hY eX6_addWord_15 0 rfl ?_
  have h2n1 := kPb_5 κ (v / 16777216 % 256)
  have hJ1 : cJ B (kPb κ (v / 16777216 % 256)) := cJ_Pb hJ (v / 16777216 % 256)
  have hJn2 : z_W Y 55 [(2, z_i 24), (0, .ref (B 1 0)), (1, z_i v)] [] (cH D B (kPb κ (v / 16777216 % 256)) h) 0 0 := by
    refine z_iinc hY eX6_addWord_55 0 rfl (ls' := [(2, z_i (24 + (-8))), (0, .ref (B 1 0)), (1, z_i v)]) rfl ?_
    refine z_lq (ls' := [(2, z_i 16), (0, .ref (B 1 0)), (1, z_i v)]) rfl ?_
    refine z_goto hY eX6_addWord_58 ?_
    refine z_iload hY eX6_addWord_3 0 rfl ?_
    refine z_iflt hY eX6_addWord_4 (by omega) (fun c => absurd c (by omega)) (fun _ => ?_)
    refine z_iload hY eX6_addWord_7 2 rfl ?_
    refine z_iload hY eX6_addWord_8 0 rfl ?_
    refine z_iushr hY eX6_addWord_9 (D := 65536) (by unfold z_sk; omega) ?_
    refine z_const hY eX6_addWord_10 ?_
    refine z_iand255 hY eX6_addWord_13 ?_
    refine z_top (b := v / 65536 % 256) (z_byt_65536 _) ?_
    refine z_istore hY eX6_addWord_14 (ls' := [(3, z_i (v / 65536 % 256)), (2, z_i 16), (0, .ref (B 1 0)), (1, z_i v)]) rfl ?_
    refine z_iload hY eX6_addWord_15 0 rfl ?_
    have h2n3 := kPb_5 (kPb κ (v / 16777216 % 256)) (v / 65536 % 256)
    have hJ3 : cJ B (kPb (kPb κ (v / 16777216 % 256)) (v / 65536 % 256)) := cJ_Pb hJ1 (v / 65536 % 256)
    have hJn4 : z_W Y 55 [(2, z_i 16), (0, .ref (B 1 0)), (1, z_i v)] [] (cH D B (kPb (kPb κ (v / 16777216 % 256)) (v / 65536 % 256)) h) 0 0 := by
      refine z_iinc hY eX6_addWord_55 0 rfl (ls' := [(2, z_i (16 + (-8))), (0, .ref (B 1 0)), (1, z_i v)]) rfl ?_
      refine z_lq (ls' := [(2, z_i 8), (0, .ref (B 1 0)), (1, z_i v)]) rfl ?_
      refine z_goto hY eX6_addWord_58 ?_
      refine z_iload hY eX6_addWord_3 0 rfl ?_
      refine z_iflt hY eX6_addWord_4 (by omega) (fun c => absurd c (by omega)) (fun _ => ?_)
      refine z_iload hY eX6_addWord_7 2 rfl ?_
      refine z_iload hY eX6_addWord_8 0 rfl ?_
      refine z_iushr hY eX6_addWord_9 (D := 256) (by unfold z_sk; omega) ?_
      refine z_const hY eX6_addWord_10 ?_
      refine z_iand255 hY eX6_addWord_13 ?_
      refine z_top (b := v / 256 % 256) (z_byt_256 _) ?_
      refine z_istore hY eX6_addWord_14 (ls' := [(3, z_i (v / 256 % 256)), (2, z_i 8), (0, .ref (B 1 0)), (1, z_i v)]) rfl ?_
      refine z_iload hY eX6_addWord_15 0 rfl ?_
      have h2n5 := kPb_5 (kPb (kPb κ (v / 16777216 % 256)) (v / 65536 % 256)) (v / 256 % 256)
      have hJ5 : cJ B (kPb (kPb (kPb κ (v / 16777216 % 256)) (v / 65536 % 256)) (v / 256 % 256)) := cJ_Pb hJ3 (v / 256 % 256)
      have hJn6 : z_W Y 55 [(2, z_i 8), (0, .ref (B 1 0)), (1, z_i v)] [] (cH D B (kPb (kPb (kPb κ (v / 16777216 % 256)) (v / 65536 % 256)) (v / 256 % 256)) h) 0 0 := by
        refine z_iinc hY eX6_addWord_55 0 rfl (ls' := [(2, z_i (8 + (-8))), (0, .ref (B 1 0)), (1, z_i v)]) rfl ?_
        refine z_lq (ls' := [(2, z_i 0), (0, .ref (B 1 0)), (1, z_i v)]) rfl ?_
        refine z_goto hY eX6_addWord_58 ?_
        refine z_iload hY eX6_addWord_3 0 rfl ?_
        refine z_iflt hY eX6_addWord_4 (by omega) (fun c => absurd c (by omega)) (fun _ => ?_)
        refine z_iload hY eX6_addWord_7 2 rfl ?_
        refine z_iload hY eX6_addWord_8 0 rfl ?_
        refine z_iushr hY eX6_addWord_9 (D := 1) (by unfold z_sk; omega) ?_
        refine z_const hY eX6_addWord_10 ?_
        refine z_iand255 hY eX6_addWord_13 ?_
        refine z_top (b := v / 1 % 256) (z_byt_1 _) ?_
        refine z_istore hY eX6_addWord_14 (ls' := [(3, z_i (v / 1 % 256)), (2, z_i 0), (0, .ref (B 1 0)), (1, z_i v)]) rfl ?_
        refine z_iload hY eX6_addWord_15 0 rfl ?_
        have h2n7 := kPb_5 (kPb (kPb (kPb κ (v / 16777216 % 256)) (v / 65536 % 256)) (v / 256 % 256)) (v / 1 % 256)
        have hJ7 : cJ B (kPb (kPb (kPb (kPb κ (v / 16777216 % 256)) (v / 65536 % 256)) (v / 256 % 256)) (v / 1 % 256)) := cJ_Pb hJ5 (v / 1 % 256)
        have hJn8 : z_W Y 55 [(2, z_i 0), (0, .ref (B 1 0)), (1, z_i v)] [] (cH D B (kPb (kPb (kPb (kPb κ (v / 16777216 % 256)) (v / 65536 % 256)) (v / 256 % 256)) (v / 1 % 256)) h) 0 0 := by
          refine z_iinc hY eX6_addWord_55 0 rfl (ls' := [(2, z_i (0 + (-8))), (0, .ref (B 1 0)), (1, z_i v)]) rfl ?_
          refine z_lq (ls' := [(2, z_i (-8)), (0, .ref (B 1 0)), (1, z_i v)]) rfl ?_
          refine z_goto hY eX6_addWord_58 ?_
          refine z_iload hY eX6_addWord_3 0 rfl ?_
          refine z_iflt hY eX6_addWord_4 (by omega) (fun _ => ?_) (fun c => absurd c (by omega))
          exact z_return hY eX6_addWord_61 rfl (by rw [hφ]; exact ⟨rfl, rfl⟩) ⟨Nat.zero_le _, Nat.zero_le _⟩
        refine z_ifeq hY eX6_addWord_16 (by omega) (fun c16 => ?_) (fun c16 => ?_)
        · refine z_sub [1, 2, 3] (ls' := [(2, z_i 0), (0, .ref (B 1 0)), (1, z_i v)]) rfl ?_
          exact z_heq (congrArg (fun q => cH D B q h) (show (kPb (kPb (kPb κ (v / 16777216 % 256)) (v / 65536 % 256)) (v / 256 % 256)) = (kPb (kPb (kPb (kPb κ (v / 16777216 % 256)) (v / 65536 % 256)) (v / 256 % 256)) (v / 1 % 256)) from (by unfold kPb; first | exact (if_pos (by omega)).symm | exact (if_neg (by omega)).symm))) hJn8
        · refine z_aload hY eX6_addWord_19 2 rfl ?_
          refine c_gf hY hJ5 eX6_addWord_20 (t := 1) (i := 0) (v := z_i ((kPb (kPb (kPb κ (v / 16777216 % 256)) (v / 65536 % 256)) (v / 256 % 256)) 5 0 0)) (by omega) rfl rfl ?_
          refine z_iflt hY eX6_addWord_23 (by omega) (fun c => by exfalso; omega) (fun c23 => ?_)
          refine z_aload hY eX6_addWord_26 2 rfl ?_
          refine c_gf hY hJ5 eX6_addWord_27 (t := 1) (i := 0) (v := z_i ((kPb (kPb (kPb κ (v / 16777216 % 256)) (v / 65536 % 256)) (v / 256 % 256)) 5 0 0)) (by omega) rfl rfl ?_
          refine z_const hY eX6_addWord_30 ?_
          refine z_icmpge hY eX6_addWord_32 (by omega) (fun c => by exfalso; omega) (fun c32 => ?_)
          refine z_aload hY eX6_addWord_35 2 rfl ?_
          refine c_gf hY hJ5 eX6_addWord_36 (t := 1) (i := 0) (v := .ref (B 2 0)) (by omega) rfl rfl ?_
          refine z_aload hY eX6_addWord_39 2 rfl ?_
          refine c_gf hY hJ5 eX6_addWord_40 (t := 1) (i := 0) (v := z_i ((kPb (kPb (kPb κ (v / 16777216 % 256)) (v / 65536 % 256)) (v / 256 % 256)) 5 0 0)) (by omega) rfl rfl ?_
          refine z_iload hY eX6_addWord_43 0 rfl ?_
          refine c_ias hY hJ5 eX6_addWord_44 (t := 2) (N := 100) (key := 4) (i := 0) (by decide) rfl (by omega) (fun _ => rfl) (by omega) ?_
          refine z_aload hY eX6_addWord_45 2 rfl ?_
          refine z_dup hY eX6_addWord_46 rfl ?_
          refine c_gf hY (cJ_u (by decide) hJ5) eX6_addWord_47 (t := 1) (i := 0) (v := z_i ((kPb (kPb (kPb κ (v / 16777216 % 256)) (v / 65536 % 256)) (v / 256 % 256)) 5 0 0)) ((cL_u (by decide) _ _).mpr (by omega)) rfl (by simp [k_u, k_r]) ?_
          refine z_const hY eX6_addWord_50 ?_
          refine z_iadd hY eX6_addWord_51 ?_
          refine c_pf hY (cJ_u (by decide) hJ5) eX6_addWord_52 (key := 5) (t := 1) (i := 0) (by decide) rfl ((cL_u (by decide) _ _).mpr (by omega)) rfl (Nat.le_of_ble_eq_true rfl) (by simp [cC, k_u, k_r]) ?_
          refine z_sub [1, 2, 3] (ls' := [(2, z_i 0), (0, .ref (B 1 0)), (1, z_i v)]) rfl ?_
          exact z_heq (congrArg (fun q => cH D B q h) (show k_u (k_u (kPb (kPb (kPb κ (v / 16777216 % 256)) (v / 65536 % 256)) (v / 256 % 256)) 4 0 ((kPb (kPb (kPb κ (v / 16777216 % 256)) (v / 65536 % 256)) (v / 256 % 256)) 5 0 0) (v / 1 % 256)) 5 0 0 (((kPb (kPb (kPb κ (v / 16777216 % 256)) (v / 65536 % 256)) (v / 256 % 256)) 5 0 0) + 1) = (kPb (kPb (kPb (kPb κ (v / 16777216 % 256)) (v / 65536 % 256)) (v / 256 % 256)) (v / 1 % 256)) from (by unfold kPb; first | exact (if_pos (by omega)).symm | exact (if_neg (by omega)).symm))) hJn8
      refine z_ifeq hY eX6_addWord_16 (by omega) (fun c16 => ?_) (fun c16 => ?_)
      · refine z_sub [1, 2, 3] (ls' := [(2, z_i 8), (0, .ref (B 1 0)), (1, z_i v)]) rfl ?_
        exact z_heq (congrArg (fun q => cH D B q h) (show (kPb (kPb κ (v / 16777216 % 256)) (v / 65536 % 256)) = (kPb (kPb (kPb κ (v / 16777216 % 256)) (v / 65536 % 256)) (v / 256 % 256)) from (by unfold kPb; first | exact (if_pos (by omega)).symm | exact (if_neg (by omega)).symm))) hJn6
      · refine z_aload hY eX6_addWord_19 2 rfl ?_
        refine c_gf hY hJ3 eX6_addWord_20 (t := 1) (i := 0) (v := z_i ((kPb (kPb κ (v / 16777216 % 256)) (v / 65536 % 256)) 5 0 0)) (by omega) rfl rfl ?_
        refine z_iflt hY eX6_addWord_23 (by omega) (fun c => by exfalso; omega) (fun c23 => ?_)
        refine z_aload hY eX6_addWord_26 2 rfl ?_
        refine c_gf hY hJ3 eX6_addWord_27 (t := 1) (i := 0) (v := z_i ((kPb (kPb κ (v / 16777216 % 256)) (v / 65536 % 256)) 5 0 0)) (by omega) rfl rfl ?_
        refine z_const hY eX6_addWord_30 ?_
        refine z_icmpge hY eX6_addWord_32 (by omega) (fun c => by exfalso; omega) (fun c32 => ?_)
        refine z_aload hY eX6_addWord_35 2 rfl ?_
        refine c_gf hY hJ3 eX6_addWord_36 (t := 1) (i := 0) (v := .ref (B 2 0)) (by omega) rfl rfl ?_
        refine z_aload hY eX6_addWord_39 2 rfl ?_
        refine c_gf hY hJ3 eX6_addWord_40 (t := 1) (i := 0) (v := z_i ((kPb (kPb κ (v / 16777216 % 256)) (v / 65536 % 256)) 5 0 0)) (by omega) rfl rfl ?_
        refine z_iload hY eX6_addWord_43 0 rfl ?_
        refine c_ias hY hJ3 eX6_addWord_44 (t := 2) (N := 100) (key := 4) (i := 0) (by decide) rfl (by omega) (fun _ => rfl) (by omega) ?_
        refine z_aload hY eX6_addWord_45 2 rfl ?_
        refine z_dup hY eX6_addWord_46 rfl ?_
        refine c_gf hY (cJ_u (by decide) hJ3) eX6_addWord_47 (t := 1) (i := 0) (v := z_i ((kPb (kPb κ (v / 16777216 % 256)) (v / 65536 % 256)) 5 0 0)) ((cL_u (by decide) _ _).mpr (by omega)) rfl (by simp [k_u, k_r]) ?_
        refine z_const hY eX6_addWord_50 ?_
        refine z_iadd hY eX6_addWord_51 ?_
        refine c_pf hY (cJ_u (by decide) hJ3) eX6_addWord_52 (key := 5) (t := 1) (i := 0) (by decide) rfl ((cL_u (by decide) _ _).mpr (by omega)) rfl (Nat.le_of_ble_eq_true rfl) (by simp [cC, k_u, k_r]) ?_
        refine z_sub [1, 2, 3] (ls' := [(2, z_i 8), (0, .ref (B 1 0)), (1, z_i v)]) rfl ?_
        exact z_heq (congrArg (fun q => cH D B q h) (show k_u (k_u (kPb (kPb κ (v / 16777216 % 256)) (v / 65536 % 256)) 4 0 ((kPb (kPb κ (v / 16777216 % 256)) (v / 65536 % 256)) 5 0 0) (v / 256 % 256)) 5 0 0 (((kPb (kPb κ (v / 16777216 % 256)) (v / 65536 % 256)) 5 0 0) + 1) = (kPb (kPb (kPb κ (v / 16777216 % 256)) (v / 65536 % 256)) (v / 256 % 256)) from (by unfold kPb; first | exact (if_pos (by omega)).symm | exact (if_neg (by omega)).symm))) hJn6
    refine z_ifeq hY eX6_addWord_16 (by omega) (fun c16 => ?_) (fun c16 => ?_)
    · refine z_sub [1, 2, 3] (ls' := [(2, z_i 16), (0, .ref (B 1 0)), (1, z_i v)]) rfl ?_
      exact z_heq (congrArg (fun q => cH D B q h) (show (kPb κ (v / 16777216 % 256)) = (kPb (kPb κ (v / 16777216 % 256)) (v / 65536 % 256)) from (by unfold kPb; first | exact (if_pos (by omega)).symm | exact (if_neg (by omega)).symm))) hJn4
    · refine z_aload hY eX6_addWord_19 2 rfl ?_
      refine c_gf hY hJ1 eX6_addWord_20 (t := 1) (i := 0) (v := z_i ((kPb κ (v / 16777216 % 256)) 5 0 0)) (by omega) rfl rfl ?_
      refine z_iflt hY eX6_addWord_23 (by omega) (fun c => by exfalso; omega) (fun c23 => ?_)
      refine z_aload hY eX6_addWord_26 2 rfl ?_
      refine c_gf hY hJ1 eX6_addWord_27 (t := 1) (i := 0) (v := z_i ((kPb κ (v / 16777216 % 256)) 5 0 0)) (by omega) rfl rfl ?_
      refine z_const hY eX6_addWord_30 ?_
      refine z_icmpge hY eX6_addWord_32 (by omega) (fun c => by exfalso; omega) (fun c32 => ?_)
      refine z_aload hY eX6_addWord_35 2 rfl ?_
      refine c_gf hY hJ1 eX6_addWord_36 (t := 1) (i := 0) (v := .ref (B 2 0)) (by omega) rfl rfl ?_
      refine z_aload hY eX6_addWord_39 2 rfl ?_
      refine c_gf hY hJ1 eX6_addWord_40 (t := 1) (i := 0) (v := z_i ((kPb κ (v / 16777216 % 256)) 5 0 0)) (by omega) rfl rfl ?_
      refine z_iload hY eX6_addWord_43 0 rfl ?_
      refine c_ias hY hJ1 eX6_addWord_44 (t := 2) (N := 100) (key := 4) (i := 0) (by decide) rfl (by omega) (fun _ => rfl) (by omega) ?_
      refine z_aload hY eX6_addWord_45 2 rfl ?_
      refine z_dup hY eX6_addWord_46 rfl ?_
      refine c_gf hY (cJ_u (by decide) hJ1) eX6_addWord_47 (t := 1) (i := 0) (v := z_i ((kPb κ (v / 16777216 % 256)) 5 0 0)) ((cL_u (by decide) _ _).mpr (by omega)) rfl (by simp [k_u, k_r]) ?_
      refine z_const hY eX6_addWord_50 ?_
      refine z_iadd hY eX6_addWord_51 ?_
      refine c_pf hY (cJ_u (by decide) hJ1) eX6_addWord_52 (key := 5) (t := 1) (i := 0) (by decide) rfl ((cL_u (by decide) _ _).mpr (by omega)) rfl (Nat.le_of_ble_eq_true rfl) (by simp [cC, k_u, k_r]) ?_
      refine z_sub [1, 2, 3] (ls' := [(2, z_i 16), (0, .ref (B 1 0)), (1, z_i v)]) rfl ?_
      exact z_heq (congrArg (fun q => cH D B q h) (show k_u (k_u (kPb κ (v / 16777216 % 256)) 4 0 ((kPb κ (v / 16777216 % 256)) 5 0 0) (v / 65536 % 256)) 5 0 0 (((kPb κ (v / 16777216 % 256)) 5 0 0) + 1) = (kPb (kPb κ (v / 16777216 % 256)) (v / 65536 % 256)) from (by unfold kPb; first | exact (if_pos (by omega)).symm | exact (if_neg (by omega)).symm))) hJn4
  refine z_ifeq hY eX6_addWord_16 (by omega) (fun c16 => ?_) (fun c16 => ?_)
  · refine z_sub [1, 2, 3] (ls' := [(2, z_i 24), (0, .ref (B 1 0)), (1, z_i v)]) rfl ?_
    exact z_heq (congrArg (fun q => cH D B q h) (show κ = (kPb κ (v / 16777216 % 256)) from (by unfold kPb; first | exact (if_pos (by omega)).symm | exact (if_neg (by omega)).symm))) hJn2
  · refine z_aload hY eX6_addWord_19 2 rfl ?_
    refine c_gf hY hJ eX6_addWord_20 (t := 1) (i := 0) (v := z_i (κ 5 0 0)) (by omega) rfl rfl ?_
    refine z_iflt hY eX6_addWord_23 (by omega) (fun c => by exfalso; omega) (fun c23 => ?_)
    refine z_aload hY eX6_addWord_26 2 rfl ?_
    refine c_gf hY hJ eX6_addWord_27 (t := 1) (i := 0) (v := z_i (κ 5 0 0)) (by omega) rfl rfl ?_
    refine z_const hY eX6_addWord_30 ?_
    refine z_icmpge hY eX6_addWord_32 (by omega) (fun c => by exfalso; omega) (fun c32 => ?_)
    refine z_aload hY eX6_addWord_35 2 rfl ?_
    refine c_gf hY hJ eX6_addWord_36 (t := 1) (i := 0) (v := .ref (B 2 0)) (by omega) rfl rfl ?_
    refine z_aload hY eX6_addWord_39 2 rfl ?_
    refine c_gf hY hJ eX6_addWord_40 (t := 1) (i := 0) (v := z_i (κ 5 0 0)) (by omega) rfl rfl ?_
    refine z_iload hY eX6_addWord_43 0 rfl ?_
    refine c_ias hY hJ eX6_addWord_44 (t := 2) (N := 100) (key := 4) (i := 0) (by decide) rfl (by omega) (fun _ => rfl) (by omega) ?_
    refine z_aload hY eX6_addWord_45 2 rfl ?_
    refine z_dup hY eX6_addWord_46 rfl ?_
    refine c_gf hY (cJ_u (by decide) hJ) eX6_addWord_47 (t := 1) (i := 0) (v := z_i (κ 5 0 0)) ((cL_u (by decide) _ _).mpr (by omega)) rfl (by simp [k_u, k_r]) ?_
    refine z_const hY eX6_addWord_50 ?_
    refine z_iadd hY eX6_addWord_51 ?_
    refine c_pf hY (cJ_u (by decide) hJ) eX6_addWord_52 (key := 5) (t := 1) (i := 0) (by decide) rfl ((cL_u (by decide) _ _).mpr (by omega)) rfl (Nat.le_of_ble_eq_true rfl) (by simp [cC, k_u, k_r]) ?_
    refine z_sub [1, 2, 3] (ls' := [(2, z_i 24), (0, .ref (B 1 0)), (1, z_i v)]) rfl ?_
    exact z_heq (congrArg (fun q => cH D B q h) (show k_u (k_u κ 4 0 (κ 5 0 0) (v / 16777216 % 256)) 5 0 0 ((κ 5 0 0) + 1) = (kPb κ (v / 16777216 % 256)) from (by unfold kPb; first | exact (if_pos (by omega)).symm | exact (if_neg (by omega)).symm))) hJn2
end C3
