/-! A new order is told (laid by wip/whole/gen/gm395.py). -/
section D9
theorem cH_sam {D : Nat} {B : Nat → Int → Nat} {κ κ' : c_K} {h : z_H} (hJ : cJ B κ) (hL : ∀ t i, cL κ' t i ↔ cL κ t i) (hC : ∀ t i, cL κ t i → cC D B κ' t i = cC D B κ t i) : cH D B κ h = cH D B κ' h :=
  cH_ext (cJ_of hJ hL) (fun t i hl => by rw [cH_at hJ ((hL t i).mp hl), hC t i ((hL t i).mp hl)]) (fun a ha => cH_no fun t i hl => ha t i ((hL t i).mpr hl))
/-- what the reader has left, with its other places as they were -/
def kNm (κ κr : c_K) : c_K := fun k i j => if (6 ≤ k ∧ k ≤ 10) ∧ ¬ (i = 0 ∧ j = 0) then κ k i j else κr k i j
theorem kNm_o {κ κr : c_K} {k : Nat} (h : ¬ (6 ≤ k ∧ k ≤ 10)) : kNm κ κr k = κr k := funext fun i => funext fun j => if_neg fun q => h q.1
theorem kNm_0 {κ κr : c_K} {k : Nat} : kNm κ κr k 0 0 = κr k 0 0 := if_neg fun q => q.2 ⟨rfl, rfl⟩
theorem kNm_H {D : Nat} {B : Nat → Int → Nat} {κ κr : c_K} {h : z_H} (hJ : cJ B κr) : cH D B κr h = cH D B (kNm κ κr) h := by
  refine cH_sam hJ (cL_other (by rw [kNm_o (by decide)]) (fun i => by rw [kNm_o (by decide)])) (fun t i hl => ?_)
  by_cases ht : t = 3
  · subst ht
    have hi : i = 0 := by omega
    subst hi
    show z_ob 3 _ = z_ob 3 _
    rw [kNm_0, kNm_0, kNm_0, kNm_0, kNm_0]
  · refine cC_congr hl fun k hk => congrFun (kNm_o fun q => ?_) i
    have hz : ∀ t' : Nat, t' ≤ 24 → ∀ k ∈ cR t', 6 ≤ k → k ≤ 10 → t' = 3 := by decide
    exact ht (hz t (by omega) k hk q.1 q.2)
theorem kNm_So {κ κr : c_K} {o : Int} (h : kSo κ κr o) : kSo κ (kNm κ κr) o := fun k q j hn => by
  rw [kNm_o (by omega)]
  exact h k q j hn
theorem kNm_S {κ κr : c_K} {ρ : z_S} {o : Int} (hV : cV κ) (hS : cS κ) (h : kSo κ κr o) (hR : kRg κr) (hF : ∃ n, FO κr ρ o n ∧ SO κr ρ o n) (h16 : 0 ≤ κr 16 o 0 ∧ κr 16 o 0 ≤ 4) (h9 : ∀ i, -3996 ≤ ρ 9 i ∧ ρ 9 i ≤ 3996) : cV (kNm κ κr) ∧ cS (kNm κ κr) := by
  have ef : ∀ k, (k < 6 ∨ 10 < k) → k ≠ 12 → k ≠ 14 → k ≠ 16 → kNm κ κr k = κ k := fun k a b c d => by rw [kNm_o (by omega), kSo_f h ⟨a, b, c, d⟩]
  obtain ⟨n, hF, hO⟩ := hF
  refine ⟨cV_of hV fun k hk => ef k (by omega) (by omega) (by omega) (by omega), fun k i j => ?_, fun j j0 j1 => ?_, fun e e0 e1 => ?_⟩
  · by_cases h6 : 6 ≤ k ∧ k ≤ 10
    · by_cases h00 : i = 0 ∧ j = 0
      · rw [h00.1, h00.2, kNm_0]
        have := hR k h6.1 h6.2
        rcases (show k = 6 ∨ k = 7 ∨ k = 8 ∨ k = 9 ∨ k = 10 by omega) with rfl | rfl | rfl | rfl | rfl <;> exact this
      · have e : kNm κ κr k i j = κ k i j := if_pos ⟨h6, h00⟩
        rw [e]; exact hS.1 k i j
    · rw [kNm_o h6]
      by_cases hin : (i = o ∧ ((k = 12 ∧ 0 ≤ j ∧ j < 16) ∨ (k = 14 ∧ 0 ≤ j ∧ j < 4) ∨ (k = 16 ∧ j = 0)))
      · obtain ⟨rfl, hin⟩ := hin
        rcases hin with ⟨rfl, j0, j1⟩ | ⟨rfl, j0, j1⟩ | ⟨rfl, rfl⟩
        · rw [hF j j0 j1]
          have := h9 j
          exact ⟨by show (-3996 : Int) ≤ _; split <;> omega, by show _ ≤ (3996 : Int); split <;> omega⟩
        · rw [hO j j0 j1]
          exact ⟨by show (-1 : Int) ≤ _; split <;> (try split) <;> omega, by show _ ≤ (1 : Int); split <;> (try split) <;> omega⟩
        · exact h16
      · rw [h k i j (by omega)]; exact hS.1 k i j
  · rw [ef 24 (by omega) (by decide) (by decide) (by decide)] at j1
    rw [ef 20 (by omega) (by decide) (by decide) (by decide)]
    exact hS.2.1 j j0 j1
  · rw [ef 24 (by omega) (by decide) (by decide) (by decide)] at e1
    rw [ef 34 (by omega) (by decide) (by decide) (by decide)]
    exact hS.2.2 e e0 e1
theorem S_17 {κ : c_K} (hV : cV κ) (hS : cS κ) {v : Int} (hv : v = 0 ∨ v = 1) : cV (k_u κ 17 0 0 v) ∧ cS (k_u κ 17 0 0 v) := by
  obtain ⟨h0, h1, h2, h3, h4, h5⟩ := hV
  refine ⟨⟨?_, ?_, ?_, ?_, ?_, ?_⟩, cS_u hS (by decide) ⟨by show (0 : Int) ≤ v; omega, by show v ≤ (1 : Int); omega⟩⟩
  · rw [k_u_ne (by decide)]; exact h0
  · rw [k_u_ne (by decide), k_u_ne (by decide)]; exact h1
  · rw [k_u_ne (by decide), k_u_ne (by decide)]; exact h2
  · rw [k_u_at]; exact hv
  · rw [k_u_ne (by decide)]; exact h4
  · rw [k_u_ne (by decide)]; exact h5
theorem kMr_ne {κ : c_K} {k : Nat} (hk : k ≠ 20 ∧ k ≠ 24 ∧ k ≠ 25 ∧ k ≠ 26 ∧ k ≠ 31 ∧ k ≠ 37) : ∀ (m : Nat) (κ' : c_K), kMr κ m κ' → κ' k = κ k := by
  intro m
  induction m with
  | zero => intro κ' h; rw [show κ' = κ from h]
  | succ m ih =>
    intro κ' h
    obtain ⟨κ0, h0, h1⟩ := h
    rcases h1 with ⟨-, rfl⟩ | ⟨-, N, rfl⟩
    · exact ih _ h0
    · rw [kSp_ne ⟨hk.1, hk.2.1, hk.2.2.1, hk.2.2.2.1, hk.2.2.2.2.2⟩, kJd_ne hk.2.2.2.2.1]; exact ih _ h0
/-- the class behind the text's reading: the error's place, the tape emptied; and with the other order in use -/
def kRe (κr : c_K) (v : Int) : c_K := k_u (k_u κr 0 0 0 v) 5 0 0 0
def kSw (κ : c_K) : c_K := k_u κ 17 0 0 (1 - κ 17 0 0)
theorem kSw_H {D : Nat} {B : Nat → Int → Nat} {κ : c_K} {h : z_H} (hJ : cJ B κ) : z_set (cH D B κ h) (B 0 0) (z_ob 7 [.ref (B 1 0), .ref (B 3 0), .ref (B 4 (1 - κ 17 0 0)), .ref (B 4 (κ 17 0 0)), z_i (κ 0 0 0), .ref (B 7 0), .ref (B 9 0), .ref (B 10 0), .ref (B 11 0), z_i (κ 1 0 0), .ref (B 20 (-1)), .ref (B 12 0), .ref (B 13 0)]) = cH D B (kSw κ) h := by
  refine cH_u hJ (by decide) rfl (by omega) ?_
  show z_ob 7 [.ref (B 1 0), .ref (B 3 0), .ref (B 4 (k_u κ 17 0 0 (1 - κ 17 0 0) 17 0 0)), .ref (B 4 (1 - k_u κ 17 0 0 (1 - κ 17 0 0) 17 0 0)), z_i (k_u κ 17 0 0 (1 - κ 17 0 0) 0 0 0), .ref (B 7 0), .ref (B 9 0), .ref (B 10 0), .ref (B 11 0), z_i (k_u κ 17 0 0 (1 - κ 17 0 0) 1 0 0), .ref (B 20 (-1)), .ref (B 12 0), .ref (B 13 0)] = _
  rw [k_u_at, show 1 - (1 - κ 17 0 0) = κ 17 0 0 by omega, k_u_ne (by decide), k_u_ne (by decide)]

theorem q_setOrder {G : z_G} {D : Nat} {B : Nat → Int → Nat} {κ : c_K} {h : z_H} (hG : z_OK G) (hD : D = z_dc G) (hM : z_MI G) (hJ : cJ B κ) (hB : cB κ) (hV : cV κ) (hS : cS κ) {σ : z_S} (hT : TR κ σ) (h1a : ∀ i : Int, 0 ≤ σ 1 i ∧ σ 1 i ≤ 255) (h6 : -1000000 ≤ σ 6 0 ∧ σ 6 0 ≤ 1000000) (h9 : ∀ i, -3996 ≤ (yRo σ).2 9 i ∧ (yRo σ).2 9 i ≤ 3996) (h5 : 0 ≤ (yRo σ).2 5 0 ∧ (yRo σ).2 5 0 ≤ 100) (h01 : (yRo σ).1 = 0 ∨ (yRo σ).1 = 1) : z_T G mX7_setOrder [.ref (B 0 0)] (cH D B κ h) 9 40 1400 (fun v' h' => (yRo σ).1 ≠ 0 ∧ v' = some (z_i ((yRo σ).2 13 0)) ∧ ∃ (κ' : c_K) (B' : Nat → Int → Nat) (h2 : z_H), h' = cH D B' κ' h2 ∧ cI B κ h B' κ' h2 ∧ ∃ κr, kSo κ κr (1 - κ 17 0 0) ∧ FO κr (yRo σ).2 (1 - κ 17 0 0) ((yRo σ).2 13 0) ∧ SO κr (yRo σ).2 (1 - κ 17 0 0) ((yRo σ).2 13 0) ∧ κr 16 (1 - κ 17 0 0) 0 = (yRo σ).2 13 0 ∧ kMr (kCl (kSw (kRe κr (-1)))) (κ 24 0 0).toNat κ') (fun E h' => E = "java/lang/IllegalArgumentException" ∧ (yRo σ).1 = 0 ∧ ∃ κ' : c_K, h' = cH D B κ' h ∧ cI B κ h B κ' h ∧ ∃ κr, kSo κ κr (1 - κ 17 0 0) ∧ κ' = kRe κr ((yRo σ).2 5 0)) := by
  obtain ⟨hn, hsz, hrw, hcu, htl, hth⟩ := id hV
  have hs0 := hsz 0 (by omega) (by omega)
  have hs1 := hsz 1 (by omega) (by omega)
  have hs2 := hsz 2 (by omega) (by omega)
  have hs3 := hsz 3 (by omega) (by omega)
  refine z_T_of hG pX7_setOrder (Nat.le_of_ble_eq_true rfl) (ls0 := [(0, .ref (B 0 0))]) rfl fun Y hY hg hmc hms hφ hψ => ?_
  subst hg
  have hI0 := cI_r (h := h) hJ hV hS
  have hb17 := hS.s17 0 0
  refine z_aload hY eX7_setOrder_0 0 rfl ?_
  refine z_aload hY eX7_setOrder_1 0 rfl ?_
  refine c_gf hY hI0.1 eX7_setOrder_2 (t := 0) (i := 0) (v := .ref (B 3 0)) (by omega) rfl rfl ?_
  refine z_aload hY eX7_setOrder_5 0 rfl ?_
  have hb1 := hS.s17 0 0
  refine c_gf hY hI0.1 eX7_setOrder_6 (t := 0) (i := 0) (v := .ref (B 4 (1 - κ 17 0 0))) (by omega) rfl rfl ?_
  refine z_callV (As := [.ref (B 4 (1 - κ 17 0 0))]) (rest := [.ref (B 0 0)]) hY eX7_setOrder_9 (r_readOrder (κ := κ) (σ := σ) (o := 1 - κ 17 0 0) hG hJ hT (fun k _ _ => hB k 0 0) h6 h1a (by omega)) (cH_at (B := B) (t := 3) (i := 0) hI0.1 (by omega)) (by decide) (Nat.le_of_ble_eq_true rfl) ⟨Nat.zero_le _, Nat.zero_le _⟩ (fun _ _ q => q.elim) (fun vv2 hh2 q2 => ?_)
  obtain ⟨κr, rfl, rfl, hSo, hRr, hKr, hTr, hXr, hYr, hZr⟩ := q2
  have hJr : cJ B κr := kSo_J hSo hJ
  refine z_heq (kNm_H (κ := κ) hJr) ?_
  obtain ⟨hVn, hSn⟩ := kNm_S hV hS hSo hRr hYr hZr h9
  have hSm : kSo κ (kNm κ κr) (1 - κ 17 0 0) := kNm_So hSo
  obtain ⟨κ3, hk3⟩ : ∃ qq, qq = kNm κ κr := ⟨_, rfl⟩
  refine z_heq (congrArg (fun q => cH D B q h) hk3.symm) ?_
  have hI3 : cI B κ h B κ3 h := hk3 ▸ cI_t hI0 (cL_other (hSm 24 0 0 (by omega)) (fun i => hSm 26 i 0 (by omega))) ⟨hVn, hSn⟩
  have hn4 : κ3 24 0 0 = κ 24 0 0 := by rw [hk3]; exact hSm 24 0 0 (by omega)
  have hn5 : κ3 17 0 0 = κ 17 0 0 := by rw [hk3]; exact hSm 17 0 0 (by omega)
  have hn6 : κ3 7 0 0 = (yRo σ).2 5 0 := by rw [hk3]; rw [kNm_0]; exact hKr.2.2.2.2.2.1
  refine z_ifeq hY eX7_setOrder_12 (by omega) (fun c12 => ?_) (fun c12 => ?_)
  · refine z_aload hY eX7_setOrder_19 0 rfl ?_
    refine c_gf hY hI3.1 eX7_setOrder_20 (t := 0) (i := 0) (v := .ref (B 3 0)) ((hI3.2.2.2 _ _ (by decide) (by omega)).1) rfl rfl ?_
    have hb7 := hI3.2.1.2.b 7 0 0
    refine c_gf hY hI3.1 eX7_setOrder_23 (t := 3) (i := 0) (v := z_i (κ3 7 0 0)) ((hI3.2.2.2 _ _ (by decide) (by omega)).1) rfl rfl ?_
    refine c_pf hY hI3.1 eX7_setOrder_26 (key := 0) (t := 0) (i := 0) (by decide) rfl ((hI3.2.2.2 _ _ (by decide) (by omega)).1) rfl (Nat.le_of_ble_eq_true rfl) (by simp [cC, k_u, k_r]) ?_
    obtain ⟨κ8, hk8⟩ : ∃ qq, qq = k_u κ3 0 0 0 (κ3 7 0 0) := ⟨_, rfl⟩
    refine z_heq (congrArg (fun q => cH D B q h) hk8.symm) ?_
    have hI8 : cI B κ h B κ8 h := hk8 ▸ cI_t hI3 (cL_u (by decide)) (S_u hI3.2.1.1 hI3.2.1.2 (by decide) ⟨by show (-1 : Int) ≤ _; omega, by show _ ≤ (100 : Int); omega⟩)
    have hn9 : κ8 24 0 0 = κ3 24 0 0 := by rw [hk8]; rw [k_u_ne (by decide)]
    have hn10 : κ8 17 0 0 = κ3 17 0 0 := by rw [hk8]; rw [k_u_ne (by decide)]
    have hn11 : κ8 7 0 0 = κ3 7 0 0 := by rw [hk8]; rw [k_u_ne (by decide)]
    have hn12 : κ8 0 0 0 = (κ3 7 0 0) := by rw [hk8]; exact k_u_at
    refine z_aload hY eX7_setOrder_29 0 rfl ?_
    refine c_gf hY hI8.1 eX7_setOrder_30 (t := 0) (i := 0) (v := .ref (B 1 0)) ((hI8.2.2.2 _ _ (by decide) (by omega)).1) rfl rfl ?_
    refine z_const hY eX7_setOrder_33 ?_
    refine c_pf hY hI8.1 eX7_setOrder_34 (key := 5) (t := 1) (i := 0) (by decide) rfl ((hI8.2.2.2 _ _ (by decide) (by omega)).1) rfl (Nat.le_of_ble_eq_true rfl) (by simp [cC, k_u, k_r]) ?_
    obtain ⟨κ13, hk13⟩ : ∃ qq, qq = k_u κ8 5 0 0 0 := ⟨_, rfl⟩
    refine z_heq (congrArg (fun q => cH D B q h) hk13.symm) ?_
    have hI13 : cI B κ h B κ13 h := hk13 ▸ cI_t hI8 (cL_u (by decide)) (S_5 hI8.2.1.1 hI8.2.1.2 (by omega))
    have hn14 : κ13 24 0 0 = κ8 24 0 0 := by rw [hk13]; rw [k_u_ne (by decide)]
    have hn15 : κ13 17 0 0 = κ8 17 0 0 := by rw [hk13]; rw [k_u_ne (by decide)]
    have hn16 : κ13 7 0 0 = κ8 7 0 0 := by rw [hk13]; rw [k_u_ne (by decide)]
    have hn17 : κ13 0 0 0 = κ8 0 0 0 := by rw [hk13]; rw [k_u_ne (by decide)]
    refine z_aload hY eX7_setOrder_37 0 rfl ?_
    have hb18 := hI13.2.1.2.s0 0 0
    refine c_gf hY hI13.1 eX7_setOrder_38 (t := 0) (i := 0) (v := z_i (κ13 0 0 0)) ((hI13.2.2.2 _ _ (by decide) (by omega)).1) rfl rfl ?_
    refine z_const hY eX7_setOrder_41 ?_
    refine z_icmpeq hY eX7_setOrder_42 (by omega) (fun c42 => ?_) (fun c42 => ?_)
    · exfalso; omega
    · exact z_thr hY xX7_setOrder_45 (by rw [hmc, hms]; omega) (by rw [hψ]; exact ⟨rfl, by omega, _, rfl, hI13, kNm κ κr, hSm, by subst_vars; unfold kRe; first | rfl | (rw [show (yRo σ).2 5 0 = kNm κ κr 7 0 0 from by omega])⟩)
  · refine z_const hY eX7_setOrder_15 ?_
    refine z_goto hY eX7_setOrder_16 ?_
    refine c_pf hY hI3.1 eX7_setOrder_26 (key := 0) (t := 0) (i := 0) (by decide) rfl ((hI3.2.2.2 _ _ (by decide) (by omega)).1) rfl (Nat.le_of_ble_eq_true rfl) (by simp [cC, k_u, k_r]) ?_
    obtain ⟨κ19, hk19⟩ : ∃ qq, qq = k_u κ3 0 0 0 (-1) := ⟨_, rfl⟩
    refine z_heq (congrArg (fun q => cH D B q h) hk19.symm) ?_
    have hI19 : cI B κ h B κ19 h := hk19 ▸ cI_t hI3 (cL_u (by decide)) (S_u hI3.2.1.1 hI3.2.1.2 (by decide) ⟨by show (-1 : Int) ≤ _; omega, by show _ ≤ (100 : Int); omega⟩)
    have hn20 : κ19 24 0 0 = κ3 24 0 0 := by rw [hk19]; rw [k_u_ne (by decide)]
    have hn21 : κ19 17 0 0 = κ3 17 0 0 := by rw [hk19]; rw [k_u_ne (by decide)]
    have hn22 : κ19 7 0 0 = κ3 7 0 0 := by rw [hk19]; rw [k_u_ne (by decide)]
    have hn23 : κ19 0 0 0 = (-1) := by rw [hk19]; exact k_u_at
    refine z_aload hY eX7_setOrder_29 0 rfl ?_
    refine c_gf hY hI19.1 eX7_setOrder_30 (t := 0) (i := 0) (v := .ref (B 1 0)) ((hI19.2.2.2 _ _ (by decide) (by omega)).1) rfl rfl ?_
    refine z_const hY eX7_setOrder_33 ?_
    refine c_pf hY hI19.1 eX7_setOrder_34 (key := 5) (t := 1) (i := 0) (by decide) rfl ((hI19.2.2.2 _ _ (by decide) (by omega)).1) rfl (Nat.le_of_ble_eq_true rfl) (by simp [cC, k_u, k_r]) ?_
    obtain ⟨κ24, hk24⟩ : ∃ qq, qq = k_u κ19 5 0 0 0 := ⟨_, rfl⟩
    refine z_heq (congrArg (fun q => cH D B q h) hk24.symm) ?_
    have hI24 : cI B κ h B κ24 h := hk24 ▸ cI_t hI19 (cL_u (by decide)) (S_5 hI19.2.1.1 hI19.2.1.2 (by omega))
    have hn25 : κ24 24 0 0 = κ19 24 0 0 := by rw [hk24]; rw [k_u_ne (by decide)]
    have hn26 : κ24 17 0 0 = κ19 17 0 0 := by rw [hk24]; rw [k_u_ne (by decide)]
    have hn27 : κ24 7 0 0 = κ19 7 0 0 := by rw [hk24]; rw [k_u_ne (by decide)]
    have hn28 : κ24 0 0 0 = κ19 0 0 0 := by rw [hk24]; rw [k_u_ne (by decide)]
    refine z_aload hY eX7_setOrder_37 0 rfl ?_
    have hb29 := hI24.2.1.2.s0 0 0
    refine c_gf hY hI24.1 eX7_setOrder_38 (t := 0) (i := 0) (v := z_i (κ24 0 0 0)) ((hI24.2.2.2 _ _ (by decide) (by omega)).1) rfl rfl ?_
    refine z_const hY eX7_setOrder_41 ?_
    refine z_icmpeq hY eX7_setOrder_42 (by omega) (fun c42 => ?_) (fun c42 => ?_)
    · have h00 := cH_at (D := D) (h := h) (t := 0) (i := 0) hI24.1 (by omega)
      refine z_aload hY eX7_setOrder_55 0 rfl ?_
      refine z_getfield hY eX7_setOrder_56 h00 (v := .ref (B 4 (1 - κ24 17 0 0))) rfl ?_
      refine z_astore hY eX7_setOrder_59 (ls' := [(1, .ref (B 4 (1 - κ24 17 0 0))), (0, .ref (B 0 0))]) rfl ?_
      refine z_aload hY eX7_setOrder_60 1 rfl ?_
      refine z_aload hY eX7_setOrder_61 1 rfl ?_
      refine z_getfield hY eX7_setOrder_62 h00 (v := .ref (B 4 (κ24 17 0 0))) rfl ?_
      refine z_putfield hY eX7_setOrder_65 (fs := [.ref (B 1 0), .ref (B 3 0), .ref (B 4 (κ24 17 0 0)), .ref (B 4 (1 - κ24 17 0 0)), z_i (κ24 0 0 0), .ref (B 7 0), .ref (B 9 0), .ref (B 10 0), .ref (B 11 0), z_i (κ24 1 0 0), .ref (B 20 (-1)), .ref (B 12 0), .ref (B 13 0)]) h00 rfl rfl (Nat.le_of_ble_eq_true rfl) ?_
      refine z_aload hY eX7_setOrder_68 1 rfl ?_
      refine z_aload hY eX7_setOrder_69 0 rfl ?_
      refine z_putfield hY eX7_setOrder_70 z_set_at rfl rfl (Nat.le_of_ble_eq_true rfl) ?_
      refine z_heq (z_set_o.trans (kSw_H hI24.1)) ?_
      have h17 : κ24 17 0 0 = 0 ∨ κ24 17 0 0 = 1 := hI24.2.1.1.2.2.2.1
      refine z_sub [1] (ls' := [(0, .ref (B 0 0))]) rfl ?_
      obtain ⟨κ30, hk30⟩ : ∃ qq, qq = kSw κ24 := ⟨_, rfl⟩
      refine z_heq (congrArg (fun q => cH D B q h) hk30.symm) ?_
      have hI30 : cI B κ h B κ30 h := hk30 ▸ cI_t hI24 (cL_u (by decide)) (S_17 hI24.2.1.1 hI24.2.1.2 (by omega))
      have hn31 : κ30 24 0 0 = κ24 24 0 0 := by rw [hk30]; unfold kSw; rw [k_u_ne (by decide)]
      have hn32 : κ30 17 0 0 = 1 - κ24 17 0 0 := by rw [hk30]; exact k_u_at
      refine z_aload hY eX7_setOrder_73 0 rfl ?_
      refine z_callV (As := []) (rest := []) hY eX7_setOrder_74 (c_makeAnew hG hD hM hI30.1 hI30.2.1.2.b hI30.2.1.1 hI30.2.1.2) (cH_at (B := B) (t := 0) (i := 0) hI30.1 ((hI30.2.2.2 _ _ (by decide) (by omega)).1)) (by decide) (Nat.le_of_ble_eq_true rfl) (by rw [hmc, hms]; omega) (fun _ _ q => q.elim) (fun vv33 hh33 q33 => ?_)
      obtain ⟨rfl, κm, Bm, gm, rfl, hIm, hMr⟩ := q33
      have hIq : cI B κ h Bm κm gm := ⟨hIm.1, hIm.2.1, cF_tr hI30.2.2 hIm.2.2⟩
      have hm17 : κm 17 0 0 = κ30 17 0 0 := congrFun (congrFun ((kMr_ne (by decide) _ _ hMr).trans (by unfold kCl; rw [kRw_ne (by decide)])) 0) 0
      have hm16 : κm 16 = κ30 16 := (kMr_ne (by decide) _ _ hMr).trans (by unfold kCl; rw [kRw_ne (by decide)])
      refine z_aload hY eX7_setOrder_77 0 rfl ?_
      refine z_getfield hY eX7_setOrder_78 (by rw [← (hIq.2.2.2 0 0 (by decide) (by omega)).2]; exact cH_at hIq.1 (by omega)) (v := .ref (Bm 4 (κm 17 0 0))) rfl ?_
      have hm17b := hIq.2.1.1.2.2.2.1
      refine z_getfield hY eX7_setOrder_81 (cH_at (t := 4) (i := κm 17 0 0) hIq.1 (by omega)) (v := z_i (κm 16 (κm 17 0 0) 0)) rfl ?_
      obtain ⟨hFx, hOx, h16x⟩ := hXr (by omega)
      have hFn : FO (kNm κ κr) (yRo σ).2 (1 - κ 17 0 0) ((yRo σ).2 13 0) := FO_m (by rw [kNm_o (by decide)]) rfl hFx
      have hOn : SO (kNm κ κr) (yRo σ).2 (1 - κ 17 0 0) ((yRo σ).2 13 0) := SO_m (by rw [kNm_o (by decide)]) rfl hOx
      have h16n : kNm κ κr 16 (1 - κ 17 0 0) 0 = (yRo σ).2 13 0 := by rw [kNm_o (by decide)]; exact h16x
      have hsw : κ30 = kSw (kRe (kNm κ κr) (-1)) := by subst_vars; rfl
      have hs17 : κ30 17 0 0 = 1 - κ 17 0 0 := by omega
      have hs16 : κ30 16 = kNm κ κr 16 := by rw [hsw]; unfold kSw kRe; rw [k_u_ne (by decide), k_u_ne (by decide), k_u_ne (by decide)]
      rw [show κ30 24 0 0 = κ 24 0 0 by omega, hsw] at hMr
      exact z_ireturn hY eX7_setOrder_84 rfl (by rw [hφ]; exact ⟨by omega, congrArg (fun q => some (z_i q)) (by rw [hm16, hm17, hs17, hs16]; exact h16n), κm, Bm, gm, rfl, hIq, kNm κ κr, hSm, hFn, hOn, h16n, hMr⟩) (by rw [hmc, hms]; omega)
    · exfalso; omega
end D9
