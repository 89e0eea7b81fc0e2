/-! The reader of orders, against the model's reader (laid by wip/whole/gen/gm26.py). -/
section C4
/-- the tapes are the same, and hold no 0 -/
def TR (κ : c_K) (σ : z_S) : Prop := κ 5 0 0 = σ 2 0 ∧ (0 ≤ σ 2 0 ∧ σ 2 0 ≤ 100) ∧ ∀ i, 0 ≤ i → i < σ 2 0 → κ 4 0 i = σ 1 i ∧ 1 ≤ σ 1 i ∧ σ 1 i ≤ 255
def cTok (σ : z_S) : Int := if σ 4 0 = 0 then 256 else if σ 4 0 = 2 then 257 else if σ 4 0 = 3 then 258 else if σ 4 0 = 4 then 259 else σ 6 0
/-- the readers' tokens are the same -/
def Rk (κ : c_K) (σ : z_S) : Prop := κ 6 0 0 = cTok σ ∧ (0 ≤ σ 4 0 ∧ σ 4 0 ≤ 4) ∧ (σ 4 0 = 1 → sgn (σ 6 0)) ∧ (σ 4 0 = 2 → κ 9 0 0 = σ 6 0 ∧ 0 ≤ σ 6 0 ∧ σ 6 0 ≤ 999) ∧ (σ 4 0 = 3 → κ 10 0 0 = σ 6 0 - 97 ∧ 97 ≤ σ 6 0 ∧ σ 6 0 ≤ 100) ∧ κ 7 0 0 = σ 5 0 ∧ κ 8 0 0 = σ 7 0 ∧ (0 ≤ σ 7 0 ∧ σ 7 0 ≤ σ 2 0)
def kSm (κ κ' : c_K) : Prop := ∀ k, k < 6 ∨ 10 < k → κ' k = κ k
theorem kSm_J {B : Nat → Int → Nat} {κ κ' : c_K} (hS : kSm κ κ') (hJ : cJ B κ) : cJ B κ' := cJ_of hJ (cL_other (by rw [hS 24 (by omega)]) (fun i => by rw [hS 26 (by omega)]))
theorem kSm_T {κ κ' : c_K} {σ ρ : z_S} (hS : kSm κ κ') (h2 : ρ 2 = σ 2) (h1 : ρ 1 = σ 1) (hT : TR κ σ) : TR κ' ρ := by
  unfold TR
  rw [hS 5 (by omega), hS 4 (by omega), h1, h2]
  exact hT
theorem kSm_t {κ κ' κ'' : c_K} (h1 : kSm κ κ') (h2 : kSm κ' κ'') : kSm κ κ'' := fun k hk => (h2 k hk).trans (h1 k hk)
theorem kSm_u {κ : c_K} {k : Nat} {v : Int} (hk : 6 ≤ k ∧ k ≤ 10) : kSm κ (k_u κ k 0 0 v) := fun q hq => k_u_ne (by omega)
theorem cBy_lt {κ : c_K} {σ : z_S} (hT : TR κ σ) {i : Int} (h : 0 ≤ i ∧ i < σ 2 0) : cBy κ i = σ 1 i := by
  unfold cBy
  rw [if_pos (by have := hT.1; have := hT.2.1; omega)]
  exact (hT.2.2 i h.1 h.2).1
theorem cBy_ge {κ : c_K} {σ : z_S} (hT : TR κ σ) {i : Int} (h : σ 2 0 ≤ i) : cBy κ i = 0 := by
  unfold cBy
  exact if_neg (by have := hT.1; omega)
theorem z_wrap (w : Int) : z_i w = z_i (Int32.ofInt w).toInt := by rw [z_i, z_i, Int32.ofInt_toInt]
theorem cH_wrap {D : Nat} {B : Nat → Int → Nat} {κ : c_K} {h : z_H} (hJ : cJ B κ) {w w' : Int} (e : z_i w = z_i w') : cH D B (k_u κ 9 0 0 w) h = cH D B (k_u κ 9 0 0 w') h := by
  have hJ1 : cJ B (k_u κ 9 0 0 w) := cJ_u (by decide) hJ
  have hJ2 : cJ B (k_u κ 9 0 0 w') := cJ_u (by decide) hJ
  refine cH_ext hJ2 (fun t i hl => ?_) (fun a ha => cH_no (fun t i hl => ha t i ((cL_u (by decide) t i).mpr ((cL_u (by decide) t i).mp hl))))
  have hl0 := (cL_u (κ := κ) (by decide) t i).mp hl
  rw [cH_at hJ1 ((cL_u (by decide) t i).mpr hl0)]
  by_cases ht : t = 3
  · subst ht
    have hi : i = 0 := by omega
    subst hi
    show some (z_ob 3 [_, _, _, _, z_i w, _]) = some (z_ob 3 [_, _, _, _, z_i w', _])
    rw [e]
    rfl
  · refine congrArg some ?_
    have h9 : ∀ v, cC D B (k_u κ 9 0 0 v) t i = cC D B κ t i := fun v => cC_congr hl0 fun k hk => congrFun (k_u_ne (κ := κ) (k := 9) (k' := k) (i := 0) (j := 0) (v := v) (fun q => ht (by rw [q] at hk; exact (cG_of hk (by decide)).symm))) i
    rw [h9, h9]
def kSg (κ : c_K) (b : Int) : c_K := if 97 ≤ b ∧ b ≤ 100 then k_u (k_u (k_u κ 8 0 0 (κ 7 0 0 + 1)) 6 0 0 258) 10 0 0 (b - 97) else if sgn b then k_u (k_u κ 8 0 0 (κ 7 0 0 + 1)) 6 0 0 b else k_u (k_u κ 8 0 0 (κ 7 0 0 + 1)) 6 0 0 259

theorem t_byteAt2 {G : z_G} {D : Nat} {B : Nat → Int → Nat} {κ : c_K} {h : z_H} (hG : z_OK G) (hJ : cJ B κ) {i : Int} (hi : -2147483648 ≤ i ∧ i ≤ 2147483647) (htl : 0 ≤ κ 5 0 0 ∧ κ 5 0 0 ≤ 100) : z_Tr G mX6_byteAt [.ref (B 1 0), z_i i] (cH D B κ h) 0 (z_i (cBy κ i)) := by
  refine z_T_of hG pX6_byteAt (Nat.le_of_ble_eq_true rfl) (ls0 := [(0, .ref (B 1 0)), (1, z_i i)]) rfl fun Y hY hg hmc hms hφ hψ => ?_
  subst hg
  refine z_iload hY eX6_byteAt_0 1 rfl ?_
  refine z_iflt hY eX6_byteAt_1 (by omega) (fun c1 => ?_) (fun c1 => ?_)
  · refine z_const hY eX6_byteAt_27 ?_
    exact z_ireturn hY eX6_byteAt_28 rfl (by rw [hφ]; exact ⟨congrArg (fun q => some (z_i q)) (by unfold cBy; (repeat' split) <;> omega), rfl⟩) ⟨Nat.zero_le _, Nat.zero_le _⟩
  · refine z_iload hY eX6_byteAt_4 1 rfl ?_
    refine z_aload hY eX6_byteAt_5 0 rfl ?_
    refine c_gf hY hJ eX6_byteAt_6 (t := 1) (i := 0) (v := z_i (κ 5 0 0)) (by omega) rfl rfl ?_
    refine z_icmpge hY eX6_byteAt_9 (by omega) (fun c9 => ?_) (fun c9 => ?_)
    · refine z_const hY eX6_byteAt_27 ?_
      exact z_ireturn hY eX6_byteAt_28 rfl (by rw [hφ]; exact ⟨congrArg (fun q => some (z_i q)) (by unfold cBy; (repeat' split) <;> omega), rfl⟩) ⟨Nat.zero_le _, Nat.zero_le _⟩
    · refine z_iload hY eX6_byteAt_12 1 rfl ?_
      refine z_const hY eX6_byteAt_13 ?_
      refine z_icmpge hY eX6_byteAt_15 (by omega) (fun c15 => ?_) (fun c15 => ?_)
      · refine z_const hY eX6_byteAt_27 ?_
        exact z_ireturn hY eX6_byteAt_28 rfl (by rw [hφ]; exact ⟨congrArg (fun q => some (z_i q)) (by unfold cBy; (repeat' split) <;> omega), rfl⟩) ⟨Nat.zero_le _, Nat.zero_le _⟩
      · refine z_aload hY eX6_byteAt_18 0 rfl ?_
        refine c_gf hY hJ eX6_byteAt_19 (t := 1) (i := 0) (v := .ref (B 2 0)) (by omega) rfl rfl ?_
        refine z_iload hY eX6_byteAt_22 1 rfl ?_
        refine c_ial hY hJ eX6_byteAt_23 (t := 2) (N := 100) (key := 4) (i := 0) (x := κ 4 0 i) (by omega) rfl (by omega) rfl ?_
        refine z_goto hY eX6_byteAt_24 ?_
        exact z_ireturn hY eX6_byteAt_28 rfl (by rw [hφ]; exact ⟨congrArg (fun q => some (z_i q)) (by unfold cBy; (repeat' split) <;> omega), rfl⟩) ⟨Nat.zero_le _, Nat.zero_le _⟩
theorem r_isSign {G : z_G} {h : z_H} (hG : z_OK G) {o : Nat} {b : Int} (hr : -2147483648 ≤ b ∧ b ≤ 2147483647) : z_Tr G mX3_isSign [.ref o, z_i b] (h) 0 (z_i (z_bl (sgn b))) := by
  refine z_T_of hG pX3_isSign (Nat.le_of_ble_eq_true rfl) (ls0 := [(0, .ref o), (1, z_i b)]) rfl fun Y hY hg hmc hms hφ hψ => ?_
  subst hg
  refine z_iload hY eX3_isSign_0 1 rfl ?_
  refine z_const hY eX3_isSign_1 ?_
  refine z_icmpeq hY eX3_isSign_3 (by omega) (fun c3 => ?_) (fun c3 => ?_)
  · refine z_const hY eX3_isSign_36 ?_
    refine z_goto hY eX3_isSign_37 ?_
    exact z_zreturn hY eX3_isSign_41 rfl (by omega) (by rw [hφ]; exact ⟨congrArg (fun q => some (z_i q)) (by first | rfl | omega | (simp only [z_bl]; split <;> omega)), rfl⟩) ⟨Nat.zero_le _, Nat.zero_le _⟩
  · refine z_iload hY eX3_isSign_6 1 rfl ?_
    refine z_const hY eX3_isSign_7 ?_
    refine z_icmpeq hY eX3_isSign_9 (by omega) (fun c9 => ?_) (fun c9 => ?_)
    · refine z_const hY eX3_isSign_36 ?_
      refine z_goto hY eX3_isSign_37 ?_
      exact z_zreturn hY eX3_isSign_41 rfl (by omega) (by rw [hφ]; exact ⟨congrArg (fun q => some (z_i q)) (by first | rfl | omega | (simp only [z_bl]; split <;> omega)), rfl⟩) ⟨Nat.zero_le _, Nat.zero_le _⟩
    · refine z_iload hY eX3_isSign_12 1 rfl ?_
      refine z_const hY eX3_isSign_13 ?_
      refine z_icmpeq hY eX3_isSign_15 (by omega) (fun c15 => ?_) (fun c15 => ?_)
      · refine z_const hY eX3_isSign_36 ?_
        refine z_goto hY eX3_isSign_37 ?_
        exact z_zreturn hY eX3_isSign_41 rfl (by omega) (by rw [hφ]; exact ⟨congrArg (fun q => some (z_i q)) (by first | rfl | omega | (simp only [z_bl]; split <;> omega)), rfl⟩) ⟨Nat.zero_le _, Nat.zero_le _⟩
      · refine z_iload hY eX3_isSign_18 1 rfl ?_
        refine z_const hY eX3_isSign_19 ?_
        refine z_icmpeq hY eX3_isSign_21 (by omega) (fun c21 => ?_) (fun c21 => ?_)
        · refine z_const hY eX3_isSign_36 ?_
          refine z_goto hY eX3_isSign_37 ?_
          exact z_zreturn hY eX3_isSign_41 rfl (by omega) (by rw [hφ]; exact ⟨congrArg (fun q => some (z_i q)) (by first | rfl | omega | (simp only [z_bl]; split <;> omega)), rfl⟩) ⟨Nat.zero_le _, Nat.zero_le _⟩
        · refine z_iload hY eX3_isSign_24 1 rfl ?_
          refine z_const hY eX3_isSign_25 ?_
          refine z_icmpeq hY eX3_isSign_27 (by omega) (fun c27 => ?_) (fun c27 => ?_)
          · refine z_const hY eX3_isSign_36 ?_
            refine z_goto hY eX3_isSign_37 ?_
            exact z_zreturn hY eX3_isSign_41 rfl (by omega) (by rw [hφ]; exact ⟨congrArg (fun q => some (z_i q)) (by first | rfl | omega | (simp only [z_bl]; split <;> omega)), rfl⟩) ⟨Nat.zero_le _, Nat.zero_le _⟩
          · refine z_iload hY eX3_isSign_30 1 rfl ?_
            refine z_const hY eX3_isSign_31 ?_
            refine z_icmpne hY eX3_isSign_33 (by omega) (fun c33 => ?_) (fun c33 => ?_)
            · refine z_const hY eX3_isSign_40 ?_
              exact z_zreturn hY eX3_isSign_41 rfl (by omega) (by rw [hφ]; exact ⟨congrArg (fun q => some (z_i q)) (by first | rfl | omega | (simp only [z_bl]; split <;> omega)), rfl⟩) ⟨Nat.zero_le _, Nat.zero_le _⟩
            · refine z_const hY eX3_isSign_36 ?_
              refine z_goto hY eX3_isSign_37 ?_
              exact z_zreturn hY eX3_isSign_41 rfl (by omega) (by rw [hφ]; exact ⟨congrArg (fun q => some (z_i q)) (by first | rfl | omega | (simp only [z_bl]; split <;> omega)), rfl⟩) ⟨Nat.zero_le _, Nat.zero_le _⟩
theorem r_isBlank {G : z_G} {h : z_H} (hG : z_OK G) {o : Nat} {b : Int} (hr : -2147483648 ≤ b ∧ b ≤ 2147483647) : z_Tr G mX3_isBlank [.ref o, z_i b] (h) 0 (z_i (z_bl (b = 32 ∨ b = 10))) := by
  refine z_T_of hG pX3_isBlank (Nat.le_of_ble_eq_true rfl) (ls0 := [(0, .ref o), (1, z_i b)]) rfl fun Y hY hg hmc hms hφ hψ => ?_
  subst hg
  refine z_iload hY eX3_isBlank_0 1 rfl ?_
  refine z_const hY eX3_isBlank_1 ?_
  refine z_icmpeq hY eX3_isBlank_3 (by omega) (fun c3 => ?_) (fun c3 => ?_)
  · refine z_const hY eX3_isBlank_12 ?_
    refine z_goto hY eX3_isBlank_13 ?_
    exact z_zreturn hY eX3_isBlank_17 rfl (by omega) (by rw [hφ]; exact ⟨congrArg (fun q => some (z_i q)) (by first | rfl | omega | (simp only [z_bl]; split <;> omega)), rfl⟩) ⟨Nat.zero_le _, Nat.zero_le _⟩
  · refine z_iload hY eX3_isBlank_6 1 rfl ?_
    refine z_const hY eX3_isBlank_7 ?_
    refine z_icmpne hY eX3_isBlank_9 (by omega) (fun c9 => ?_) (fun c9 => ?_)
    · refine z_const hY eX3_isBlank_16 ?_
      exact z_zreturn hY eX3_isBlank_17 rfl (by omega) (by rw [hφ]; exact ⟨congrArg (fun q => some (z_i q)) (by first | rfl | omega | (simp only [z_bl]; split <;> omega)), rfl⟩) ⟨Nat.zero_le _, Nat.zero_le _⟩
    · refine z_const hY eX3_isBlank_12 ?_
      refine z_goto hY eX3_isBlank_13 ?_
      exact z_zreturn hY eX3_isBlank_17 rfl (by omega) (by rw [hφ]; exact ⟨congrArg (fun q => some (z_i q)) (by first | rfl | omega | (simp only [z_bl]; split <;> omega)), rfl⟩) ⟨Nat.zero_le _, Nat.zero_le _⟩
theorem r_isDigit {G : z_G} {h : z_H} (hG : z_OK G) {o : Nat} {b : Int} (hr : -2147483648 ≤ b ∧ b ≤ 2147483647) : z_Tr G mX3_isDigit [.ref o, z_i b] (h) 0 (z_i (z_bl (48 ≤ b ∧ b ≤ 57))) := by
  refine z_T_of hG pX3_isDigit (Nat.le_of_ble_eq_true rfl) (ls0 := [(0, .ref o), (1, z_i b)]) rfl fun Y hY hg hmc hms hφ hψ => ?_
  subst hg
  refine z_iload hY eX3_isDigit_0 1 rfl ?_
  refine z_const hY eX3_isDigit_1 ?_
  refine z_icmplt hY eX3_isDigit_3 (by omega) (fun c3 => ?_) (fun c3 => ?_)
  · refine z_const hY eX3_isDigit_16 ?_
    exact z_zreturn hY eX3_isDigit_17 rfl (by omega) (by rw [hφ]; exact ⟨congrArg (fun q => some (z_i q)) (by first | rfl | omega | (simp only [z_bl]; split <;> omega)), rfl⟩) ⟨Nat.zero_le _, Nat.zero_le _⟩
  · refine z_iload hY eX3_isDigit_6 1 rfl ?_
    refine z_const hY eX3_isDigit_7 ?_
    refine z_icmpgt hY eX3_isDigit_9 (by omega) (fun c9 => ?_) (fun c9 => ?_)
    · refine z_const hY eX3_isDigit_16 ?_
      exact z_zreturn hY eX3_isDigit_17 rfl (by omega) (by rw [hφ]; exact ⟨congrArg (fun q => some (z_i q)) (by first | rfl | omega | (simp only [z_bl]; split <;> omega)), rfl⟩) ⟨Nat.zero_le _, Nat.zero_le _⟩
    · refine z_const hY eX3_isDigit_12 ?_
      refine z_goto hY eX3_isDigit_13 ?_
      exact z_zreturn hY eX3_isDigit_17 rfl (by omega) (by rw [hφ]; exact ⟨congrArg (fun q => some (z_i q)) (by first | rfl | omega | (simp only [z_bl]; split <;> omega)), rfl⟩) ⟨Nat.zero_le _, Nat.zero_le _⟩
theorem r_readSign {G : z_G} {D : Nat} {B : Nat → Int → Nat} {κ : c_K} {h : z_H} (hG : z_OK G) (hJ : cJ B κ) {b : Int} (hr : 1 ≤ b ∧ b ≤ 255) : z_T G mX3_readSign [.ref (B 3 0), z_i b] (cH D B κ h) 1 0 0 (fun v h' => v = none ∧ h' = cH D B (kSg κ b) h) (z_no) := by
  refine z_T_of hG pX3_readSign (Nat.le_of_ble_eq_true rfl) (ls0 := [(0, .ref (B 3 0)), (1, z_i b)]) rfl fun Y hY hg hmc hms hφ hψ => ?_
  subst hg
  refine z_aload hY eX3_readSign_0 0 rfl ?_
  refine z_aload hY eX3_readSign_1 0 rfl ?_
  refine c_gf hY hJ eX3_readSign_2 (t := 3) (i := 0) (v := z_i (κ 7 0 0)) (by omega) rfl rfl ?_
  refine z_const hY eX3_readSign_5 ?_
  refine z_iadd hY eX3_readSign_6 ?_
  refine c_pf hY hJ eX3_readSign_7 (key := 8) (t := 3) (i := 0) (by decide) rfl (by omega) rfl (Nat.le_of_ble_eq_true rfl) (by simp [cC, k_u, k_r]) ?_
  refine z_iload hY eX3_readSign_10 1 rfl ?_
  refine z_const hY eX3_readSign_11 ?_
  refine z_icmplt hY eX3_readSign_13 (by omega) (fun c13 => ?_) (fun c13 => ?_)
  · refine z_aload hY eX3_readSign_40 0 rfl ?_
    refine z_aload hY eX3_readSign_41 0 rfl ?_
    refine z_iload hY eX3_readSign_42 1 rfl ?_
    refine z_callVr (As := [z_i b]) (rest := [.ref (B 3 0)]) (r := z_i (z_bl (sgn b))) hY eX3_readSign_43 (r_isSign hG (by omega)) (cH_at (t := 3) (i := 0) (cJ_u (by decide) hJ) ((cL_u (by decide) _ _).mpr (by omega))) (by decide) (Nat.le_of_ble_eq_true rfl) ⟨Nat.zero_le _, Nat.zero_le _⟩ ?_
    refine z_ifeqb hY eX3_readSign_46 (fun c46 => ?_) (fun c46 => ?_)
    · refine z_const hY eX3_readSign_53 ?_
      refine c_pf hY (cJ_u (by decide) hJ) eX3_readSign_56 (key := 6) (t := 3) (i := 0) (by decide) rfl ((cL_u (by decide) _ _).mpr (by omega)) rfl (Nat.le_of_ble_eq_true rfl) (by simp [cC, k_u, k_r]) ?_
      exact z_return hY eX3_readSign_59 rfl (by rw [hφ]; exact ⟨rfl, congrArg (fun q => cH D B q h) (by unfold kSg; first | exact (if_pos (by omega)).symm | (rw [if_neg (by omega)]; first | exact (if_pos (by omega)).symm | exact (if_neg (by omega)).symm))⟩) ⟨Nat.zero_le _, Nat.zero_le _⟩
    · refine z_iload hY eX3_readSign_49 1 rfl ?_
      refine z_goto hY eX3_readSign_50 ?_
      refine c_pf hY (cJ_u (by decide) hJ) eX3_readSign_56 (key := 6) (t := 3) (i := 0) (by decide) rfl ((cL_u (by decide) _ _).mpr (by omega)) rfl (Nat.le_of_ble_eq_true rfl) (by simp [cC, k_u, k_r]) ?_
      exact z_return hY eX3_readSign_59 rfl (by rw [hφ]; exact ⟨rfl, congrArg (fun q => cH D B q h) (by unfold kSg; first | exact (if_pos (by omega)).symm | (rw [if_neg (by omega)]; first | exact (if_pos (by omega)).symm | exact (if_neg (by omega)).symm))⟩) ⟨Nat.zero_le _, Nat.zero_le _⟩
  · refine z_iload hY eX3_readSign_16 1 rfl ?_
    refine z_const hY eX3_readSign_17 ?_
    refine z_icmpgt hY eX3_readSign_19 (by omega) (fun c19 => ?_) (fun c19 => ?_)
    · refine z_aload hY eX3_readSign_40 0 rfl ?_
      refine z_aload hY eX3_readSign_41 0 rfl ?_
      refine z_iload hY eX3_readSign_42 1 rfl ?_
      refine z_callVr (As := [z_i b]) (rest := [.ref (B 3 0)]) (r := z_i (z_bl (sgn b))) hY eX3_readSign_43 (r_isSign hG (by omega)) (cH_at (t := 3) (i := 0) (cJ_u (by decide) hJ) ((cL_u (by decide) _ _).mpr (by omega))) (by decide) (Nat.le_of_ble_eq_true rfl) ⟨Nat.zero_le _, Nat.zero_le _⟩ ?_
      refine z_ifeqb hY eX3_readSign_46 (fun c46 => ?_) (fun c46 => ?_)
      · refine z_const hY eX3_readSign_53 ?_
        refine c_pf hY (cJ_u (by decide) hJ) eX3_readSign_56 (key := 6) (t := 3) (i := 0) (by decide) rfl ((cL_u (by decide) _ _).mpr (by omega)) rfl (Nat.le_of_ble_eq_true rfl) (by simp [cC, k_u, k_r]) ?_
        exact z_return hY eX3_readSign_59 rfl (by rw [hφ]; exact ⟨rfl, congrArg (fun q => cH D B q h) (by unfold kSg; first | exact (if_pos (by omega)).symm | (rw [if_neg (by omega)]; first | exact (if_pos (by omega)).symm | exact (if_neg (by omega)).symm))⟩) ⟨Nat.zero_le _, Nat.zero_le _⟩
      · refine z_iload hY eX3_readSign_49 1 rfl ?_
        refine z_goto hY eX3_readSign_50 ?_
        refine c_pf hY (cJ_u (by decide) hJ) eX3_readSign_56 (key := 6) (t := 3) (i := 0) (by decide) rfl ((cL_u (by decide) _ _).mpr (by omega)) rfl (Nat.le_of_ble_eq_true rfl) (by simp [cC, k_u, k_r]) ?_
        exact z_return hY eX3_readSign_59 rfl (by rw [hφ]; exact ⟨rfl, congrArg (fun q => cH D B q h) (by unfold kSg; first | exact (if_pos (by omega)).symm | (rw [if_neg (by omega)]; first | exact (if_pos (by omega)).symm | exact (if_neg (by omega)).symm))⟩) ⟨Nat.zero_le _, Nat.zero_le _⟩
    · refine z_aload hY eX3_readSign_22 0 rfl ?_
      refine z_const hY eX3_readSign_23 ?_
      refine c_pf hY (cJ_u (by decide) hJ) eX3_readSign_26 (key := 6) (t := 3) (i := 0) (by decide) rfl ((cL_u (by decide) _ _).mpr (by omega)) rfl (Nat.le_of_ble_eq_true rfl) (by simp [cC, k_u, k_r]) ?_
      refine z_aload hY eX3_readSign_29 0 rfl ?_
      refine z_iload hY eX3_readSign_30 1 rfl ?_
      refine z_const hY eX3_readSign_31 ?_
      refine z_isub hY eX3_readSign_33 ?_
      refine c_pf hY (cJ_u (by decide) (cJ_u (by decide) hJ)) eX3_readSign_34 (key := 10) (t := 3) (i := 0) (by decide) rfl ((cL_u (by decide) _ _).mpr ((cL_u (by decide) _ _).mpr (by omega))) rfl (Nat.le_of_ble_eq_true rfl) (by simp [cC, k_u, k_r]) ?_
      refine z_goto hY eX3_readSign_37 ?_
      exact z_return hY eX3_readSign_59 rfl (by rw [hφ]; exact ⟨rfl, congrArg (fun q => cH D B q h) (by unfold kSg; first | exact (if_pos (by omega)).symm | (rw [if_neg (by omega)]; first | exact (if_pos (by omega)).symm | exact (if_neg (by omega)).symm))⟩) ⟨Nat.zero_le _, Nat.zero_le _⟩
theorem kD_s {κ : c_K} {a a' w w' : Int} : k_u (k_u (k_u (k_u κ 8 0 0 a) 9 0 0 w) 9 0 0 w') 8 0 0 a' = k_u (k_u κ 8 0 0 a') 9 0 0 w' := by
  funext k i j
  unfold k_u
  by_cases h8 : k = 8
  · subst h8; simp; (repeat' split) <;> rfl
  · by_cases h9 : k = 9
    · subst h9; simp; (repeat' split) <;> rfl
    · simp [h8, h9]
theorem kD_e {D : Nat} {B : Nat → Int → Nat} {κ : c_K} {h : z_H} (hJ : cJ B κ) {E V a w t a0 : Int} (hE : E = a) (hw : E - a0 ≤ 3 → w = V) (ht : t = if E - a0 ≤ 3 then 257 else 259) (hV : 0 ≤ V ∧ V ≤ 999) : ∃ w1 : Int, (-2147483648 ≤ w1 ∧ w1 ≤ 2147483647) ∧ (E - a0 ≤ 3 → w1 = V) ∧ cH D B (k_u (k_u (k_u κ 8 0 0 a) 9 0 0 w) 6 0 0 t) h = cH D B (k_u (k_u (k_u κ 8 0 0 E) 6 0 0 (if E - a0 ≤ 3 then 257 else 259)) 9 0 0 w1) h := by
  refine ⟨(Int32.ofInt w).toInt, z_rg _, fun q => ?_, ?_⟩
  · rw [hw q, z_toInt (by omega)]
  · rw [← ht, hE]
    refine Eq.trans (congrArg (fun q => cH D B q h) (show _ = k_u (k_u (k_u κ 8 0 0 a) 6 0 0 t) 9 0 0 w from ?_)) (cH_wrap (cJ_u (by decide) (cJ_u (by decide) hJ)) (z_wrap w))
    funext k i j
    unfold k_u
    by_cases h6 : k = 6
    · subst h6; simp
    · by_cases h9 : k = 9
      · subst h9; simp
      · simp [h6, h9]
theorem r_readDigits {G : z_G} {D : Nat} {B : Nat → Int → Nat} {κ : c_K} {h : z_H} (hG : z_OK G) (hJ : cJ B κ) {σ : z_S} (hT : TR κ σ) {a0 : Int} (h8 : κ 8 0 0 = a0) (h7 : κ 7 0 0 = a0) (ha0 : 0 ≤ a0 ∧ a0 ≤ σ 2 0) : z_T G mX3_readDigits [.ref (B 3 0)] (cH D B κ h) 1 0 0 (fun v h' => v = none ∧ ∃ w : Int, (-2147483648 ≤ w ∧ w ≤ 2147483647) ∧ (yDe σ (σ 2 0 - a0).toNat a0 - a0 ≤ 3 → w = yDv σ (σ 2 0 - a0).toNat a0 0 0) ∧ h' = cH D B (k_u (k_u (k_u κ 8 0 0 (yDe σ (σ 2 0 - a0).toNat a0)) 6 0 0 (if yDe σ (σ 2 0 - a0).toNat a0 - a0 ≤ 3 then 257 else 259)) 9 0 0 w) h) (z_no) := by
  obtain ⟨ht5, ht2, htb⟩ := id hT
  have htl : 0 ≤ κ 5 0 0 ∧ κ 5 0 0 ≤ 100 := by omega
  refine z_T_of hG pX3_readDigits (Nat.le_of_ble_eq_true rfl) (ls0 := [(0, .ref (B 3 0))]) rfl fun Y hY hg hmc hms hφ hψ => ?_
  subst hg
  refine z_aload hY eX3_readDigits_0 0 rfl ?_
  refine z_const hY eX3_readDigits_1 ?_
  refine c_pf hY hJ eX3_readDigits_2 (key := 9) (t := 3) (i := 0) (by decide) rfl (by omega) rfl (Nat.le_of_ble_eq_true rfl) (by simp [cC, k_u, k_r]) ?_
  refine z_const hY eX3_readDigits_5 ?_
  refine z_istore hY eX3_readDigits_6 (ls' := [(1, z_i 0), (0, .ref (B 3 0))]) rfl ?_
  refine z_sub [1, 0] (ls' := [(0, .ref (B 3 0)), (1, z_i 0)]) rfl ?_
  have lp7 : ∀ (fu : Nat) (i : Int) (a : Int) (w : Int), (100 - i).toNat < fu → (0 ≤ i ∧ i ≤ 100 ∧ a = a0 + i ∧ a ≤ σ 2 0) → (yDe σ (σ 2 0 - a).toNat a = yDe σ (σ 2 0 - a0).toNat a0) → (i ≤ 3 → yDv σ (σ 2 0 - a).toNat a i w = yDv σ (σ 2 0 - a0).toNat a0 0 0) → z_W Y 7 [(0, .ref (B 3 0)), (1, z_i i)] [] (cH D B (k_u (k_u κ 8 0 0 a) 9 0 0 w) h) 0 0 := by
    intro fu
    induction fu with
    | zero => intro i a w hf; exact absurd hf (Nat.not_lt_zero _)
    | succ fu ih7 =>
      intro i a w hf h0 he hw
      refine z_iload hY eX3_readDigits_7 1 rfl ?_
      refine z_const hY eX3_readDigits_8 ?_
      refine z_icmpge hY eX3_readDigits_10 (by omega) (fun c10 => ?_) (fun c10 => ?_)
      · have hE1 : yDe σ (σ 2 0 - a0).toNat a0 = a := by rw [← he]; exact yDe_f (by unfold yDi; omega)
        refine z_aload hY eX3_readDigits_73 0 rfl ?_
        refine z_aload hY eX3_readDigits_74 0 rfl ?_
        refine c_gf hY (cJ_u (by decide) (cJ_u (by decide) hJ)) eX3_readDigits_75 (t := 3) (i := 0) (v := z_i a) ((cL_u (by decide) _ _).mpr ((cL_u (by decide) _ _).mpr (by omega))) rfl (by simp [k_u, k_r]) ?_
        refine z_aload hY eX3_readDigits_78 0 rfl ?_
        refine c_gf hY (cJ_u (by decide) (cJ_u (by decide) hJ)) eX3_readDigits_79 (t := 3) (i := 0) (v := z_i (κ 7 0 0)) ((cL_u (by decide) _ _).mpr ((cL_u (by decide) _ _).mpr (by omega))) rfl (by simp [k_u, k_r]) ?_
        refine z_isub hY eX3_readDigits_82 ?_
        refine z_const hY eX3_readDigits_83 ?_
        refine z_icmpgt hY eX3_readDigits_84 (by omega) (fun c84 => ?_) (fun c84 => ?_)
        · refine z_const hY eX3_readDigits_93 ?_
          refine c_pf hY (cJ_u (by decide) (cJ_u (by decide) hJ)) eX3_readDigits_96 (key := 6) (t := 3) (i := 0) (by decide) rfl ((cL_u (by decide) _ _).mpr ((cL_u (by decide) _ _).mpr (by omega))) rfl (Nat.le_of_ble_eq_true rfl) (by simp [cC, k_u, k_r]) ?_
          exact z_return hY eX3_readDigits_99 rfl (by rw [hφ]; exact ⟨rfl, kD_e hJ hE1 (fun q => by have e9 := yDv_f (σ := σ) (m := σ 2 0) (i := a) (d := i) (v := w) (by unfold yDi; omega); exact e9.symm.trans (hw (by omega))) (by first | exact (if_pos (by omega)).symm | exact (if_neg (by omega)).symm) (yDv_b _ _ _ _ (by omega) (by omega) (by decide))⟩) ⟨Nat.zero_le _, Nat.zero_le _⟩
        · refine z_const hY eX3_readDigits_87 ?_
          refine z_goto hY eX3_readDigits_90 ?_
          refine c_pf hY (cJ_u (by decide) (cJ_u (by decide) hJ)) eX3_readDigits_96 (key := 6) (t := 3) (i := 0) (by decide) rfl ((cL_u (by decide) _ _).mpr ((cL_u (by decide) _ _).mpr (by omega))) rfl (Nat.le_of_ble_eq_true rfl) (by simp [cC, k_u, k_r]) ?_
          exact z_return hY eX3_readDigits_99 rfl (by rw [hφ]; exact ⟨rfl, kD_e hJ hE1 (fun q => by have e9 := yDv_f (σ := σ) (m := σ 2 0) (i := a) (d := i) (v := w) (by unfold yDi; omega); exact e9.symm.trans (hw (by omega))) (by first | exact (if_pos (by omega)).symm | exact (if_neg (by omega)).symm) (yDv_b _ _ _ _ (by omega) (by omega) (by decide))⟩) ⟨Nat.zero_le _, Nat.zero_le _⟩
      · refine z_aload hY eX3_readDigits_13 0 rfl ?_
        refine z_aload hY eX3_readDigits_14 0 rfl ?_
        refine c_gf hY (cJ_u (by decide) (cJ_u (by decide) hJ)) eX3_readDigits_15 (t := 3) (i := 0) (v := .ref (B 1 0)) ((cL_u (by decide) _ _).mpr ((cL_u (by decide) _ _).mpr (by omega))) rfl rfl ?_
        refine z_aload hY eX3_readDigits_18 0 rfl ?_
        refine c_gf hY (cJ_u (by decide) (cJ_u (by decide) hJ)) eX3_readDigits_19 (t := 3) (i := 0) (v := z_i a) ((cL_u (by decide) _ _).mpr ((cL_u (by decide) _ _).mpr (by omega))) rfl (by simp [k_u, k_r]) ?_
        refine z_callVr (As := [z_i a]) (rest := [.ref (B 3 0)]) (r := z_i (cBy κ a)) hY eX3_readDigits_22 ((show cBy (k_u (k_u κ 8 0 0 a) 9 0 0 w) a = cBy κ a from rfl) ▸ t_byteAt2 (κ := k_u (k_u κ 8 0 0 a) 9 0 0 w) hG (cJ_u (by decide) (cJ_u (by decide) hJ)) (by omega) htl) (cH_at (t := 1) (i := 0) (cJ_u (by decide) (cJ_u (by decide) hJ)) ((cL_u (by decide) _ _).mpr ((cL_u (by decide) _ _).mpr (by omega)))) (by decide) (Nat.le_of_ble_eq_true rfl) ⟨Nat.zero_le _, Nat.zero_le _⟩ ?_
        have hby1 : (a < σ 2 0 ∧ cBy κ a = σ 1 a ∧ 1 ≤ σ 1 a ∧ σ 1 a ≤ 255) ∨ (σ 2 0 ≤ a ∧ cBy κ a = 0) := by
          by_cases hq : a < σ 2 0
          · exact Or.inl ⟨hq, cBy_lt hT ⟨by omega, hq⟩, (hT.2.2 _ (by omega) hq).2⟩
          · exact Or.inr ⟨by omega, cBy_ge hT (by omega)⟩
        refine z_callVr (As := [z_i (cBy κ a)]) (rest := []) (r := z_i (z_bl (48 ≤ (cBy κ a) ∧ (cBy κ a) ≤ 57))) hY eX3_readDigits_25 (r_isDigit hG (by omega)) (cH_at (t := 3) (i := 0) (cJ_u (by decide) (cJ_u (by decide) hJ)) ((cL_u (by decide) _ _).mpr ((cL_u (by decide) _ _).mpr (by omega)))) (by decide) (Nat.le_of_ble_eq_true rfl) ⟨Nat.zero_le _, Nat.zero_le _⟩ ?_
        refine z_ifeqb hY eX3_readDigits_28 (fun c28 => ?_) (fun c28 => ?_)
        · have hE1 : yDe σ (σ 2 0 - a0).toNat a0 = a := by rw [← he]; exact yDe_f (by unfold yDi; omega)
          refine z_aload hY eX3_readDigits_73 0 rfl ?_
          refine z_aload hY eX3_readDigits_74 0 rfl ?_
          refine c_gf hY (cJ_u (by decide) (cJ_u (by decide) hJ)) eX3_readDigits_75 (t := 3) (i := 0) (v := z_i a) ((cL_u (by decide) _ _).mpr ((cL_u (by decide) _ _).mpr (by omega))) rfl (by simp [k_u, k_r]) ?_
          refine z_aload hY eX3_readDigits_78 0 rfl ?_
          refine c_gf hY (cJ_u (by decide) (cJ_u (by decide) hJ)) eX3_readDigits_79 (t := 3) (i := 0) (v := z_i (κ 7 0 0)) ((cL_u (by decide) _ _).mpr ((cL_u (by decide) _ _).mpr (by omega))) rfl (by simp [k_u, k_r]) ?_
          refine z_isub hY eX3_readDigits_82 ?_
          refine z_const hY eX3_readDigits_83 ?_
          refine z_icmpgt hY eX3_readDigits_84 (by omega) (fun c84 => ?_) (fun c84 => ?_)
          · refine z_const hY eX3_readDigits_93 ?_
            refine c_pf hY (cJ_u (by decide) (cJ_u (by decide) hJ)) eX3_readDigits_96 (key := 6) (t := 3) (i := 0) (by decide) rfl ((cL_u (by decide) _ _).mpr ((cL_u (by decide) _ _).mpr (by omega))) rfl (Nat.le_of_ble_eq_true rfl) (by simp [cC, k_u, k_r]) ?_
            exact z_return hY eX3_readDigits_99 rfl (by rw [hφ]; exact ⟨rfl, kD_e hJ hE1 (fun q => by have e9 := yDv_f (σ := σ) (m := σ 2 0) (i := a) (d := i) (v := w) (by unfold yDi; omega); exact e9.symm.trans (hw (by omega))) (by first | exact (if_pos (by omega)).symm | exact (if_neg (by omega)).symm) (yDv_b _ _ _ _ (by omega) (by omega) (by decide))⟩) ⟨Nat.zero_le _, Nat.zero_le _⟩
          · refine z_const hY eX3_readDigits_87 ?_
            refine z_goto hY eX3_readDigits_90 ?_
            refine c_pf hY (cJ_u (by decide) (cJ_u (by decide) hJ)) eX3_readDigits_96 (key := 6) (t := 3) (i := 0) (by decide) rfl ((cL_u (by decide) _ _).mpr ((cL_u (by decide) _ _).mpr (by omega))) rfl (Nat.le_of_ble_eq_true rfl) (by simp [cC, k_u, k_r]) ?_
            exact z_return hY eX3_readDigits_99 rfl (by rw [hφ]; exact ⟨rfl, kD_e hJ hE1 (fun q => by have e9 := yDv_f (σ := σ) (m := σ 2 0) (i := a) (d := i) (v := w) (by unfold yDi; omega); exact e9.symm.trans (hw (by omega))) (by first | exact (if_pos (by omega)).symm | exact (if_neg (by omega)).symm) (yDv_b _ _ _ _ (by omega) (by omega) (by decide))⟩) ⟨Nat.zero_le _, Nat.zero_le _⟩
        · refine z_aload hY eX3_readDigits_31 0 rfl ?_
          refine z_aload hY eX3_readDigits_32 0 rfl ?_
          refine c_gf hY (cJ_u (by decide) (cJ_u (by decide) hJ)) eX3_readDigits_33 (t := 3) (i := 0) (v := z_i w) ((cL_u (by decide) _ _).mpr ((cL_u (by decide) _ _).mpr (by omega))) rfl (by simp [k_u, k_r]) ?_
          refine z_const hY eX3_readDigits_36 ?_
          refine z_imul hY eX3_readDigits_38 ?_
          refine z_top (b := 10 * w) (by omega) ?_
          refine z_aload hY eX3_readDigits_39 0 rfl ?_
          refine c_gf hY (cJ_u (by decide) (cJ_u (by decide) hJ)) eX3_readDigits_40 (t := 3) (i := 0) (v := .ref (B 1 0)) ((cL_u (by decide) _ _).mpr ((cL_u (by decide) _ _).mpr (by omega))) rfl rfl ?_
          refine z_aload hY eX3_readDigits_43 0 rfl ?_
          refine c_gf hY (cJ_u (by decide) (cJ_u (by decide) hJ)) eX3_readDigits_44 (t := 3) (i := 0) (v := z_i a) ((cL_u (by decide) _ _).mpr ((cL_u (by decide) _ _).mpr (by omega))) rfl (by simp [k_u, k_r]) ?_
          refine z_callVr (As := [z_i a]) (rest := [z_i (10 * w), .ref (B 3 0)]) (r := z_i (cBy κ a)) hY eX3_readDigits_47 ((show cBy (k_u (k_u κ 8 0 0 a) 9 0 0 w) a = cBy κ a from rfl) ▸ t_byteAt2 (κ := k_u (k_u κ 8 0 0 a) 9 0 0 w) hG (cJ_u (by decide) (cJ_u (by decide) hJ)) (by omega) htl) (cH_at (t := 1) (i := 0) (cJ_u (by decide) (cJ_u (by decide) hJ)) ((cL_u (by decide) _ _).mpr ((cL_u (by decide) _ _).mpr (by omega)))) (by decide) (Nat.le_of_ble_eq_true rfl) ⟨Nat.zero_le _, Nat.zero_le _⟩ ?_
          have hby2 : (a < σ 2 0 ∧ cBy κ a = σ 1 a ∧ 1 ≤ σ 1 a ∧ σ 1 a ≤ 255) ∨ (σ 2 0 ≤ a ∧ cBy κ a = 0) := by
            by_cases hq : a < σ 2 0
            · exact Or.inl ⟨hq, cBy_lt hT ⟨by omega, hq⟩, (hT.2.2 _ (by omega) hq).2⟩
            · exact Or.inr ⟨by omega, cBy_ge hT (by omega)⟩
          refine z_iadd hY eX3_readDigits_50 ?_
          refine z_const hY eX3_readDigits_51 ?_
          refine z_isub hY eX3_readDigits_53 ?_
          refine c_pf hY (cJ_u (by decide) (cJ_u (by decide) hJ)) eX3_readDigits_54 (key := 9) (t := 3) (i := 0) (by decide) rfl ((cL_u (by decide) _ _).mpr ((cL_u (by decide) _ _).mpr (by omega))) rfl (Nat.le_of_ble_eq_true rfl) (by simp [cC, k_u, k_r]) ?_
          refine z_aload hY eX3_readDigits_57 0 rfl ?_
          refine z_dup hY eX3_readDigits_58 rfl ?_
          refine c_gf hY (cJ_u (by decide) (cJ_u (by decide) (cJ_u (by decide) hJ))) eX3_readDigits_59 (t := 3) (i := 0) (v := z_i a) ((cL_u (by decide) _ _).mpr ((cL_u (by decide) _ _).mpr ((cL_u (by decide) _ _).mpr (by omega)))) rfl (by simp [k_u, k_r]) ?_
          refine z_const hY eX3_readDigits_62 ?_
          refine z_iadd hY eX3_readDigits_63 ?_
          refine c_pf hY (cJ_u (by decide) (cJ_u (by decide) (cJ_u (by decide) hJ))) eX3_readDigits_64 (key := 8) (t := 3) (i := 0) (by decide) rfl ((cL_u (by decide) _ _).mpr ((cL_u (by decide) _ _).mpr ((cL_u (by decide) _ _).mpr (by omega)))) rfl (Nat.le_of_ble_eq_true rfl) (by simp [cC, k_u, k_r]) ?_
          refine z_iinc hY eX3_readDigits_67 1 rfl (ls' := [(1, z_i (i + 1)), (0, .ref (B 3 0))]) rfl ?_
          refine z_goto hY eX3_readDigits_70 ?_
          refine z_sub [1, 0] (ls' := [(0, .ref (B 3 0)), (1, z_i (i + 1))]) rfl ?_
          refine z_heq (congrArg (fun q => cH D B q h) (show k_u (k_u (k_u (k_u κ 8 0 0 a) 9 0 0 w) 9 0 0 (10 * w + (cBy κ a) - 48)) 8 0 0 (a + 1) = k_u (k_u κ 8 0 0 (a + 1)) 9 0 0 (10 * w + (cBy κ a) - 48) from (kD_s))) ?_
          exact ih7 (i + 1) (a + 1) (10 * w + (cBy κ a) - 48) (by omega) (by omega) ((yDe_t (by omega) (by unfold yDi; omega)).symm.trans he) (fun q => by have e9 := yDv_t (σ := σ) (m := σ 2 0) (i := a) (d := i) (v := w) (by omega) (by unfold yDi; omega); rw [if_pos (by omega)] at e9; rw [show cBy κ a = σ 1 a by omega]; exact e9.symm.trans (hw (by omega)))
  refine z_heq (congrArg (fun q => cH D B q h) (show k_u κ 9 0 0 0 = k_u (k_u κ 8 0 0 (κ 8 0 0)) 9 0 0 0 from (by rw [k_u_same (κ := κ) (k := 8) rfl]))) ?_
  exact lp7 _ 0 (κ 8 0 0) 0 (Nat.lt_succ_self _) (by omega) (by rw [h8]) (fun _ => by rw [h8])
theorem rT_end {D : Nat} {B : Nat → Int → Nat} {κ : c_K} {σ : z_S} {h : z_H} (hT : TR κ σ) (hRg : ∀ k, 6 ≤ k → k ≤ 10 → -2147483648 ≤ κ k 0 0 ∧ κ k 0 0 ≤ 2147483647) {a : Int} (hA : yA σ = a) (ha : 0 ≤ a ∧ a = σ 2 0) : ∃ κ' : c_K, cH D B (k_u (k_u (k_u κ 7 0 0 a) 8 0 0 a) 6 0 0 256) h = cH D B κ' h ∧ kSm κ κ' ∧ (∀ k, 6 ≤ k → k ≤ 10 → -2147483648 ≤ κ' k 0 0 ∧ κ' k 0 0 ≤ 2147483647) ∧ Rk κ' (yRd σ) ∧ TR κ' (yRd σ) := by
  have ht2 := hT.2.1
  have hS : kSm κ (k_u (k_u (k_u κ 7 0 0 a) 8 0 0 a) 6 0 0 256) := kSm_t (kSm_t (kSm_u (by omega)) (kSm_u (by omega))) (kSm_u (by omega))
  have hy : yRd σ = z_u (z_u (z_u σ 7 0 a) 5 0 a) 4 0 0 := by unfold yRd; rw [hA, if_pos ha.2]
  refine ⟨_, rfl, hS, fun k h1 h2 => ?_, ?_, kSm_T hS (yRd_k (by decide)) (yRd_k (by decide)) hT⟩
  · have := hRg k h1 h2
    unfold k_u
    (repeat' split) <;> omega
  · rw [hy]
    refine ⟨rfl, by show (0 : Int) ≤ 0 ∧ (0 : Int) ≤ 4; omega, fun (q : (0 : Int) = 1) => by omega, fun (q : (0 : Int) = 2) => by omega, fun (q : (0 : Int) = 3) => by omega, rfl, rfl, ?_⟩
    show 0 ≤ a ∧ a ≤ σ 2 0
    omega
theorem rT_sg {D : Nat} {B : Nat → Int → Nat} {κ : c_K} {σ : z_S} {h : z_H} (hT : TR κ σ) (hRg : ∀ k, 6 ≤ k → k ≤ 10 → -2147483648 ≤ κ k 0 0 ∧ κ k 0 0 ≤ 2147483647) {a : Int} (hA : yA σ = a) (ha : 0 ≤ a ∧ a < σ 2 0) (hd : ¬ (48 ≤ cBy κ a ∧ cBy κ a ≤ 57)) : ∃ κ' : c_K, cH D B (kSg (k_u (k_u κ 7 0 0 a) 8 0 0 a) (cBy κ a)) h = cH D B κ' h ∧ kSm κ κ' ∧ (∀ k, 6 ≤ k → k ≤ 10 → -2147483648 ≤ κ' k 0 0 ∧ κ' k 0 0 ≤ 2147483647) ∧ Rk κ' (yRd σ) ∧ TR κ' (yRd σ) := by
  have ht2 := hT.2.1
  have hb := hT.2.2 a ha.1 ha.2
  have hc := cBy_lt hT ha
  rw [hc] at hd ⊢
  have hS1 : kSm κ (k_u (k_u κ 7 0 0 a) 8 0 0 a) := kSm_t (kSm_u (by omega)) (kSm_u (by omega))
  have hS : kSm κ (kSg (k_u (k_u κ 7 0 0 a) 8 0 0 a) (σ 1 a)) := by
    unfold kSg
    split
    · exact kSm_t hS1 (kSm_t (kSm_t (kSm_u (by omega)) (kSm_u (by omega))) (kSm_u (by omega)))
    · split
      · exact kSm_t hS1 (kSm_t (kSm_u (by omega)) (kSm_u (by omega)))
      · exact kSm_t hS1 (kSm_t (kSm_u (by omega)) (kSm_u (by omega)))
  have hy : yRd σ = z_u (z_u (z_u (z_u σ 7 0 (a + 1)) 5 0 a) 4 0 (yTo (σ 1 a))) 6 0 (σ 1 a) := by unfold yRd; rw [hA, if_neg (by omega), if_neg hd]
  refine ⟨_, rfl, hS, fun k h1 h2 => ?_, ?_, kSm_T hS (yRd_k (by decide)) (yRd_k (by decide)) hT⟩
  · have h3 := hRg k h1 h2
    have h4 : -2147483648 ≤ k_u (k_u κ 7 0 0 a) 8 0 0 a k 0 0 ∧ k_u (k_u κ 7 0 0 a) 8 0 0 a k 0 0 ≤ 2147483647 := by unfold k_u; (repeat' split) <;> omega
    have h5 : k_u (k_u κ 7 0 0 a) 8 0 0 a 7 0 0 = a := rfl
    unfold kSg
    rw [h5]
    generalize k_u (k_u κ 7 0 0 a) 8 0 0 a = κ1 at *
    split
    · unfold k_u; (repeat' split) <;> omega
    · split
      · unfold k_u; (repeat' split) <;> omega
      · unfold k_u; (repeat' split) <;> omega
  · rw [hy]
    have e4 : (z_u (z_u (z_u (z_u σ 7 0 (a + 1)) 5 0 a) 4 0 (yTo (σ 1 a))) 6 0 (σ 1 a)) 4 0 = yTo (σ 1 a) := rfl
    have e6 : (z_u (z_u (z_u (z_u σ 7 0 (a + 1)) 5 0 a) 4 0 (yTo (σ 1 a))) 6 0 (σ 1 a)) 6 0 = σ 1 a := rfl
    have e5 : (z_u (z_u (z_u (z_u σ 7 0 (a + 1)) 5 0 a) 4 0 (yTo (σ 1 a))) 6 0 (σ 1 a)) 5 0 = a := rfl
    have e7 : (z_u (z_u (z_u (z_u σ 7 0 (a + 1)) 5 0 a) 4 0 (yTo (σ 1 a))) 6 0 (σ 1 a)) 7 0 = a + 1 := rfl
    have e2 : (z_u (z_u (z_u (z_u σ 7 0 (a + 1)) 5 0 a) 4 0 (yTo (σ 1 a))) 6 0 (σ 1 a)) 2 0 = σ 2 0 := rfl
    unfold Rk cTok
    rw [e4, e6, e5, e7, e2]
    unfold yTo kSg
    by_cases c1 : 97 ≤ σ 1 a ∧ σ 1 a ≤ 100
    · rw [if_pos c1, if_neg (show ¬ sgn (σ 1 a) by omega), if_pos c1]
      exact ⟨rfl, by omega, by omega, by omega, fun _ => ⟨rfl, c1⟩, rfl, rfl, by omega⟩
    · rw [if_neg c1]
      by_cases c2 : sgn (σ 1 a)
      · rw [if_pos c2, if_pos c2]
        exact ⟨rfl, by omega, fun _ => c2, by omega, by omega, rfl, rfl, by omega⟩
      · rw [if_neg c2, if_neg c2, if_neg c1]
        exact ⟨rfl, by omega, by omega, by omega, by omega, rfl, rfl, by omega⟩
theorem rT_dg {D : Nat} {B : Nat → Int → Nat} {κ : c_K} {σ : z_S} {h : z_H} (hT : TR κ σ) (hRg : ∀ k, 6 ≤ k → k ≤ 10 → -2147483648 ≤ κ k 0 0 ∧ κ k 0 0 ≤ 2147483647) {a w : Int} (hA : yA σ = a) (ha : 0 ≤ a ∧ a < σ 2 0) (hd : 48 ≤ cBy κ a ∧ cBy κ a ≤ 57) (hw1 : -2147483648 ≤ w ∧ w ≤ 2147483647) (hw2 : yDe σ (σ 2 0 - a).toNat a - a ≤ 3 → w = yDv σ (σ 2 0 - a).toNat a 0 0) : ∃ κ' : c_K, cH D B (k_u (k_u (k_u (k_u (k_u κ 7 0 0 a) 8 0 0 a) 8 0 0 (yDe σ (σ 2 0 - a).toNat a)) 6 0 0 (if yDe σ (σ 2 0 - a).toNat a - a ≤ 3 then 257 else 259)) 9 0 0 w) h = cH D B κ' h ∧ kSm κ κ' ∧ (∀ k, 6 ≤ k → k ≤ 10 → -2147483648 ≤ κ' k 0 0 ∧ κ' k 0 0 ≤ 2147483647) ∧ Rk κ' (yRd σ) ∧ TR κ' (yRd σ) := by
  have ht2 := hT.2.1
  have hc := cBy_lt hT ha
  rw [hc] at hd
  have hb := yDe_b (σ := σ) (σ 2 0 - a).toNat a
  have hv := yDv_b (σ := σ) (σ 2 0 - a).toNat a 0 0 (by omega) (by omega) (by decide)
  have hy : yRd σ = z_u (z_u (z_u (z_u σ 7 0 (yDe σ (σ 2 0 - a).toNat a)) 5 0 a) 4 0 (if yDe σ (σ 2 0 - a).toNat a - a ≤ 3 then 2 else 4)) 6 0 (yDv σ (σ 2 0 - a).toNat a 0 0) := by unfold yRd yE yW; rw [hA, if_neg (by omega), if_pos hd]
  generalize yDe σ (σ 2 0 - a).toNat a = E at *
  generalize yDv σ (σ 2 0 - a).toNat a 0 0 = V at *
  have hS : kSm κ (k_u (k_u (k_u (k_u (k_u κ 7 0 0 a) 8 0 0 a) 8 0 0 E) 6 0 0 (if E - a ≤ 3 then 257 else 259)) 9 0 0 w) := kSm_t (kSm_t (kSm_t (kSm_t (kSm_u (by omega)) (kSm_u (by omega))) (kSm_u (by omega))) (kSm_u (by omega))) (kSm_u (by omega))
  refine ⟨_, rfl, hS, fun k h1 h2 => ?_, ?_, kSm_T hS (yRd_k (by decide)) (yRd_k (by decide)) hT⟩
  · have h3 := hRg k h1 h2
    unfold k_u
    (repeat' split) <;> omega
  · rw [hy]
    unfold Rk cTok
    have e4 : (z_u (z_u (z_u (z_u σ 7 0 E) 5 0 a) 4 0 (if E - a ≤ 3 then 2 else 4)) 6 0 V) 4 0 = if E - a ≤ 3 then 2 else 4 := rfl
    have e6 : (z_u (z_u (z_u (z_u σ 7 0 E) 5 0 a) 4 0 (if E - a ≤ 3 then 2 else 4)) 6 0 V) 6 0 = V := rfl
    have e5 : (z_u (z_u (z_u (z_u σ 7 0 E) 5 0 a) 4 0 (if E - a ≤ 3 then 2 else 4)) 6 0 V) 5 0 = a := rfl
    have e7 : (z_u (z_u (z_u (z_u σ 7 0 E) 5 0 a) 4 0 (if E - a ≤ 3 then 2 else 4)) 6 0 V) 7 0 = E := rfl
    have e2 : (z_u (z_u (z_u (z_u σ 7 0 E) 5 0 a) 4 0 (if E - a ≤ 3 then 2 else 4)) 6 0 V) 2 0 = σ 2 0 := rfl
    rw [e4, e6, e5, e7, e2]
    by_cases c : E - a ≤ 3
    · rw [if_pos c, if_pos c]
      exact ⟨rfl, by omega, by omega, fun _ => ⟨hw2 c, hv⟩, by omega, rfl, rfl, by omega⟩
    · rw [if_neg c, if_neg c]
      exact ⟨rfl, by omega, by omega, by omega, by omega, rfl, rfl, by omega⟩
theorem r_readToken {G : z_G} {D : Nat} {B : Nat → Int → Nat} {κ : c_K} {h : z_H} (hG : z_OK G) (hJ : cJ B κ) {σ : z_S} (hT : TR κ σ) (hP : mP0 σ) (h8 : κ 8 0 0 = σ 7 0) (hRg : ∀ k, 6 ≤ k → k ≤ 10 → -2147483648 ≤ κ k 0 0 ∧ κ k 0 0 ≤ 2147483647) : z_T G mX3_readToken [.ref (B 3 0)] (cH D B κ h) 2 0 0 (fun v h' => v = none ∧ ∃ κ' : c_K, h' = cH D B κ' h ∧ kSm κ κ' ∧ (∀ k, 6 ≤ k → k ≤ 10 → -2147483648 ≤ κ' k 0 0 ∧ κ' k 0 0 ≤ 2147483647) ∧ Rk κ' (yRd σ) ∧ TR κ' (yRd σ)) (z_no) := by
  obtain ⟨ht5, ht2, htb⟩ := id hT
  have htl : 0 ≤ κ 5 0 0 ∧ κ 5 0 0 ≤ 100 := by omega
  obtain ⟨hp1, hp2, hp4⟩ := id hP
  refine z_T_of hG pX3_readToken (Nat.le_of_ble_eq_true rfl) (ls0 := [(0, .ref (B 3 0))]) rfl fun Y hY hg hmc hms hφ hψ => ?_
  subst hg
  refine z_aload hY eX3_readToken_0 0 rfl ?_
  refine z_aload hY eX3_readToken_1 0 rfl ?_
  refine c_gf hY hJ eX3_readToken_2 (t := 3) (i := 0) (v := z_i (κ 8 0 0)) (by omega) rfl rfl ?_
  refine c_pf hY hJ eX3_readToken_5 (key := 7) (t := 3) (i := 0) (by decide) rfl (by omega) rfl (Nat.le_of_ble_eq_true rfl) (by simp [cC, k_u, k_r]) ?_
  refine z_const hY eX3_readToken_8 ?_
  refine z_istore hY eX3_readToken_9 (ls' := [(1, z_i 0), (0, .ref (B 3 0))]) rfl ?_
  refine z_sub [1, 0] (ls' := [(0, .ref (B 3 0)), (1, z_i 0)]) rfl ?_
  have lp10 : ∀ (fu : Nat) (i : Int) (a : Int), (100 - i).toNat < fu → (0 ≤ i ∧ i ≤ 100 ∧ a = σ 7 0 + i ∧ a ≤ σ 2 0) → (ySk σ (σ 2 0 - a).toNat a = yA σ) → z_W Y 10 [(0, .ref (B 3 0)), (1, z_i i)] [] (cH D B (k_u κ 7 0 0 a) h) 0 0 := by
    intro fu
    induction fu with
    | zero => intro i a hf; exact absurd hf (Nat.not_lt_zero _)
    | succ fu ih10 =>
      intro i a hf h0 hn
      refine z_iload hY eX3_readToken_10 1 rfl ?_
      refine z_const hY eX3_readToken_11 ?_
      refine z_icmpge hY eX3_readToken_13 (by omega) (fun c13 => ?_) (fun c13 => ?_)
      · have hA1 : yA σ = a := by rw [← hn]; exact ySk_f (by omega)
        refine z_aload hY eX3_readToken_50 0 rfl ?_
        refine c_gf hY (cJ_u (by decide) hJ) eX3_readToken_51 (t := 3) (i := 0) (v := .ref (B 1 0)) ((cL_u (by decide) _ _).mpr (by omega)) rfl rfl ?_
        refine z_aload hY eX3_readToken_54 0 rfl ?_
        refine c_gf hY (cJ_u (by decide) hJ) eX3_readToken_55 (t := 3) (i := 0) (v := z_i a) ((cL_u (by decide) _ _).mpr (by omega)) rfl (by simp [k_u, k_r]) ?_
        refine z_callVr (As := [z_i a]) (rest := []) (r := z_i (cBy κ a)) hY eX3_readToken_58 ((show cBy (k_u κ 7 0 0 a) a = cBy κ a from rfl) ▸ t_byteAt2 (κ := k_u κ 7 0 0 a) hG (cJ_u (by decide) hJ) (by omega) htl) (cH_at (t := 1) (i := 0) (cJ_u (by decide) hJ) ((cL_u (by decide) _ _).mpr (by omega))) (by decide) (Nat.le_of_ble_eq_true rfl) ⟨Nat.zero_le _, Nat.zero_le _⟩ ?_
        have hby1 : (a < σ 2 0 ∧ cBy κ a = σ 1 a ∧ 1 ≤ σ 1 a ∧ σ 1 a ≤ 255) ∨ (σ 2 0 ≤ a ∧ cBy κ a = 0) := by
          by_cases hq : a < σ 2 0
          · exact Or.inl ⟨hq, cBy_lt hT ⟨by omega, hq⟩, (hT.2.2 _ (by omega) hq).2⟩
          · exact Or.inr ⟨by omega, cBy_ge hT (by omega)⟩
        refine z_istore hY eX3_readToken_61 (ls' := [(1, z_i (cBy κ a)), (0, .ref (B 3 0))]) rfl ?_
        refine z_aload hY eX3_readToken_62 1 rfl ?_
        refine z_aload hY eX3_readToken_63 1 rfl ?_
        refine c_gf hY (cJ_u (by decide) hJ) eX3_readToken_64 (t := 3) (i := 0) (v := z_i a) ((cL_u (by decide) _ _).mpr (by omega)) rfl (by simp [k_u, k_r]) ?_
        refine c_pf hY (cJ_u (by decide) hJ) eX3_readToken_67 (key := 8) (t := 3) (i := 0) (by decide) rfl ((cL_u (by decide) _ _).mpr (by omega)) rfl (Nat.le_of_ble_eq_true rfl) (by simp [cC, k_u, k_r]) ?_
        refine z_iload hY eX3_readToken_70 0 rfl ?_
        refine z_ifne hY eX3_readToken_71 (by omega) (fun c71 => ?_) (fun c71 => ?_)
        · refine z_aload hY eX3_readToken_84 1 rfl ?_
          refine z_iload hY eX3_readToken_85 0 rfl ?_
          refine z_callVr (As := [z_i (cBy κ a)]) (rest := []) (r := z_i (z_bl (48 ≤ (cBy κ a) ∧ (cBy κ a) ≤ 57))) hY eX3_readToken_86 (r_isDigit hG (by omega)) (cH_at (t := 3) (i := 0) (cJ_u (by decide) (cJ_u (by decide) hJ)) ((cL_u (by decide) _ _).mpr ((cL_u (by decide) _ _).mpr (by omega)))) (by decide) (Nat.le_of_ble_eq_true rfl) ⟨Nat.zero_le _, Nat.zero_le _⟩ ?_
          refine z_ifeqb hY eX3_readToken_89 (fun c89 => ?_) (fun c89 => ?_)
          · refine z_aload hY eX3_readToken_99 1 rfl ?_
            refine z_iload hY eX3_readToken_100 0 rfl ?_
            refine z_callV (As := [z_i (cBy κ a)]) (rest := []) hY eX3_readToken_101 (r_readSign (κ := k_u (k_u κ 7 0 0 a) 8 0 0 a) hG (cJ_u (by decide) (cJ_u (by decide) hJ)) (b := (cBy κ a)) (by omega)) (cH_at (t := 3) (i := 0) (cJ_u (by decide) (cJ_u (by decide) hJ)) ((cL_u (by decide) _ _).mpr ((cL_u (by decide) _ _).mpr (by omega)))) (by decide) (Nat.le_of_ble_eq_true rfl) ⟨Nat.zero_le _, Nat.zero_le _⟩ (fun _ _ q => q.elim) (fun vv2 hh2 q2 => ?_)
            obtain ⟨rfl, rfl⟩ := q2
            exact z_return hY eX3_readToken_104 rfl (by rw [hφ]; exact ⟨rfl, rT_sg hT hRg hA1 (by omega) (by omega)⟩) ⟨Nat.zero_le _, Nat.zero_le _⟩
          · refine z_aload hY eX3_readToken_92 1 rfl ?_
            refine z_callV (As := []) (rest := []) hY eX3_readToken_93 (r_readDigits (κ := k_u (k_u κ 7 0 0 a) 8 0 0 a) (σ := σ) (a0 := a) hG (cJ_u (by decide) (cJ_u (by decide) hJ)) (kSm_T (kSm_t (kSm_u (by decide)) (kSm_u (by decide))) rfl rfl hT) rfl rfl (by omega)) (cH_at (t := 3) (i := 0) (cJ_u (by decide) (cJ_u (by decide) hJ)) ((cL_u (by decide) _ _).mpr ((cL_u (by decide) _ _).mpr (by omega)))) (by decide) (Nat.le_of_ble_eq_true rfl) ⟨Nat.zero_le _, Nat.zero_le _⟩ (fun _ _ q => q.elim) (fun vv3 hh3 q3 => ?_)
            obtain ⟨rfl, w, hw1, hw2, rfl⟩ := q3
            refine z_goto hY eX3_readToken_96 ?_
            exact z_return hY eX3_readToken_104 rfl (by rw [hφ]; exact ⟨rfl, rT_dg hT hRg hA1 (by omega) (by omega) hw1 hw2⟩) ⟨Nat.zero_le _, Nat.zero_le _⟩
        · refine z_aload hY eX3_readToken_74 1 rfl ?_
          refine z_const hY eX3_readToken_75 ?_
          refine c_pf hY (cJ_u (by decide) (cJ_u (by decide) hJ)) eX3_readToken_78 (key := 6) (t := 3) (i := 0) (by decide) rfl ((cL_u (by decide) _ _).mpr ((cL_u (by decide) _ _).mpr (by omega))) rfl (Nat.le_of_ble_eq_true rfl) (by simp [cC, k_u, k_r]) ?_
          refine z_goto hY eX3_readToken_81 ?_
          exact z_return hY eX3_readToken_104 rfl (by rw [hφ]; exact ⟨rfl, rT_end hT hRg hA1 (by omega)⟩) ⟨Nat.zero_le _, Nat.zero_le _⟩
      · refine z_aload hY eX3_readToken_16 0 rfl ?_
        refine z_aload hY eX3_readToken_17 0 rfl ?_
        refine c_gf hY (cJ_u (by decide) hJ) eX3_readToken_18 (t := 3) (i := 0) (v := .ref (B 1 0)) ((cL_u (by decide) _ _).mpr (by omega)) rfl rfl ?_
        refine z_aload hY eX3_readToken_21 0 rfl ?_
        refine c_gf hY (cJ_u (by decide) hJ) eX3_readToken_22 (t := 3) (i := 0) (v := z_i a) ((cL_u (by decide) _ _).mpr (by omega)) rfl (by simp [k_u, k_r]) ?_
        refine z_callVr (As := [z_i a]) (rest := [.ref (B 3 0)]) (r := z_i (cBy κ a)) hY eX3_readToken_25 ((show cBy (k_u κ 7 0 0 a) a = cBy κ a from rfl) ▸ t_byteAt2 (κ := k_u κ 7 0 0 a) hG (cJ_u (by decide) hJ) (by omega) htl) (cH_at (t := 1) (i := 0) (cJ_u (by decide) hJ) ((cL_u (by decide) _ _).mpr (by omega))) (by decide) (Nat.le_of_ble_eq_true rfl) ⟨Nat.zero_le _, Nat.zero_le _⟩ ?_
        have hby4 : (a < σ 2 0 ∧ cBy κ a = σ 1 a ∧ 1 ≤ σ 1 a ∧ σ 1 a ≤ 255) ∨ (σ 2 0 ≤ a ∧ cBy κ a = 0) := by
          by_cases hq : a < σ 2 0
          · exact Or.inl ⟨hq, cBy_lt hT ⟨by omega, hq⟩, (hT.2.2 _ (by omega) hq).2⟩
          · exact Or.inr ⟨by omega, cBy_ge hT (by omega)⟩
        refine z_callVr (As := [z_i (cBy κ a)]) (rest := []) (r := z_i (z_bl ((cBy κ a) = 32 ∨ (cBy κ a) = 10))) hY eX3_readToken_28 (r_isBlank hG (by omega)) (cH_at (t := 3) (i := 0) (cJ_u (by decide) hJ) ((cL_u (by decide) _ _).mpr (by omega))) (by decide) (Nat.le_of_ble_eq_true rfl) ⟨Nat.zero_le _, Nat.zero_le _⟩ ?_
        refine z_ifeqb hY eX3_readToken_31 (fun c31 => ?_) (fun c31 => ?_)
        · have hA1 : yA σ = a := by rw [← hn]; exact ySk_f (by omega)
          refine z_aload hY eX3_readToken_50 0 rfl ?_
          refine c_gf hY (cJ_u (by decide) hJ) eX3_readToken_51 (t := 3) (i := 0) (v := .ref (B 1 0)) ((cL_u (by decide) _ _).mpr (by omega)) rfl rfl ?_
          refine z_aload hY eX3_readToken_54 0 rfl ?_
          refine c_gf hY (cJ_u (by decide) hJ) eX3_readToken_55 (t := 3) (i := 0) (v := z_i a) ((cL_u (by decide) _ _).mpr (by omega)) rfl (by simp [k_u, k_r]) ?_
          refine z_callVr (As := [z_i a]) (rest := []) (r := z_i (cBy κ a)) hY eX3_readToken_58 ((show cBy (k_u κ 7 0 0 a) a = cBy κ a from rfl) ▸ t_byteAt2 (κ := k_u κ 7 0 0 a) hG (cJ_u (by decide) hJ) (by omega) htl) (cH_at (t := 1) (i := 0) (cJ_u (by decide) hJ) ((cL_u (by decide) _ _).mpr (by omega))) (by decide) (Nat.le_of_ble_eq_true rfl) ⟨Nat.zero_le _, Nat.zero_le _⟩ ?_
          have hby5 : (a < σ 2 0 ∧ cBy κ a = σ 1 a ∧ 1 ≤ σ 1 a ∧ σ 1 a ≤ 255) ∨ (σ 2 0 ≤ a ∧ cBy κ a = 0) := by
            by_cases hq : a < σ 2 0
            · exact Or.inl ⟨hq, cBy_lt hT ⟨by omega, hq⟩, (hT.2.2 _ (by omega) hq).2⟩
            · exact Or.inr ⟨by omega, cBy_ge hT (by omega)⟩
          refine z_istore hY eX3_readToken_61 (ls' := [(1, z_i (cBy κ a)), (0, .ref (B 3 0))]) rfl ?_
          refine z_aload hY eX3_readToken_62 1 rfl ?_
          refine z_aload hY eX3_readToken_63 1 rfl ?_
          refine c_gf hY (cJ_u (by decide) hJ) eX3_readToken_64 (t := 3) (i := 0) (v := z_i a) ((cL_u (by decide) _ _).mpr (by omega)) rfl (by simp [k_u, k_r]) ?_
          refine c_pf hY (cJ_u (by decide) hJ) eX3_readToken_67 (key := 8) (t := 3) (i := 0) (by decide) rfl ((cL_u (by decide) _ _).mpr (by omega)) rfl (Nat.le_of_ble_eq_true rfl) (by simp [cC, k_u, k_r]) ?_
          refine z_iload hY eX3_readToken_70 0 rfl ?_
          refine z_ifne hY eX3_readToken_71 (by omega) (fun c71 => ?_) (fun c71 => ?_)
          · refine z_aload hY eX3_readToken_84 1 rfl ?_
            refine z_iload hY eX3_readToken_85 0 rfl ?_
            refine z_callVr (As := [z_i (cBy κ a)]) (rest := []) (r := z_i (z_bl (48 ≤ (cBy κ a) ∧ (cBy κ a) ≤ 57))) hY eX3_readToken_86 (r_isDigit hG (by omega)) (cH_at (t := 3) (i := 0) (cJ_u (by decide) (cJ_u (by decide) hJ)) ((cL_u (by decide) _ _).mpr ((cL_u (by decide) _ _).mpr (by omega)))) (by decide) (Nat.le_of_ble_eq_true rfl) ⟨Nat.zero_le _, Nat.zero_le _⟩ ?_
            refine z_ifeqb hY eX3_readToken_89 (fun c89 => ?_) (fun c89 => ?_)
            · refine z_aload hY eX3_readToken_99 1 rfl ?_
              refine z_iload hY eX3_readToken_100 0 rfl ?_
              refine z_callV (As := [z_i (cBy κ a)]) (rest := []) hY eX3_readToken_101 (r_readSign (κ := k_u (k_u κ 7 0 0 a) 8 0 0 a) hG (cJ_u (by decide) (cJ_u (by decide) hJ)) (b := (cBy κ a)) (by omega)) (cH_at (t := 3) (i := 0) (cJ_u (by decide) (cJ_u (by decide) hJ)) ((cL_u (by decide) _ _).mpr ((cL_u (by decide) _ _).mpr (by omega)))) (by decide) (Nat.le_of_ble_eq_true rfl) ⟨Nat.zero_le _, Nat.zero_le _⟩ (fun _ _ q => q.elim) (fun vv6 hh6 q6 => ?_)
              obtain ⟨rfl, rfl⟩ := q6
              exact z_return hY eX3_readToken_104 rfl (by rw [hφ]; exact ⟨rfl, rT_sg hT hRg hA1 (by omega) (by omega)⟩) ⟨Nat.zero_le _, Nat.zero_le _⟩
            · refine z_aload hY eX3_readToken_92 1 rfl ?_
              refine z_callV (As := []) (rest := []) hY eX3_readToken_93 (r_readDigits (κ := k_u (k_u κ 7 0 0 a) 8 0 0 a) (σ := σ) (a0 := a) hG (cJ_u (by decide) (cJ_u (by decide) hJ)) (kSm_T (kSm_t (kSm_u (by decide)) (kSm_u (by decide))) rfl rfl hT) rfl rfl (by omega)) (cH_at (t := 3) (i := 0) (cJ_u (by decide) (cJ_u (by decide) hJ)) ((cL_u (by decide) _ _).mpr ((cL_u (by decide) _ _).mpr (by omega)))) (by decide) (Nat.le_of_ble_eq_true rfl) ⟨Nat.zero_le _, Nat.zero_le _⟩ (fun _ _ q => q.elim) (fun vv7 hh7 q7 => ?_)
              obtain ⟨rfl, w, hw1, hw2, rfl⟩ := q7
              refine z_goto hY eX3_readToken_96 ?_
              exact z_return hY eX3_readToken_104 rfl (by rw [hφ]; exact ⟨rfl, rT_dg hT hRg hA1 (by omega) (by omega) hw1 hw2⟩) ⟨Nat.zero_le _, Nat.zero_le _⟩
          · refine z_aload hY eX3_readToken_74 1 rfl ?_
            refine z_const hY eX3_readToken_75 ?_
            refine c_pf hY (cJ_u (by decide) (cJ_u (by decide) hJ)) eX3_readToken_78 (key := 6) (t := 3) (i := 0) (by decide) rfl ((cL_u (by decide) _ _).mpr ((cL_u (by decide) _ _).mpr (by omega))) rfl (Nat.le_of_ble_eq_true rfl) (by simp [cC, k_u, k_r]) ?_
            refine z_goto hY eX3_readToken_81 ?_
            exact z_return hY eX3_readToken_104 rfl (by rw [hφ]; exact ⟨rfl, rT_end hT hRg hA1 (by omega)⟩) ⟨Nat.zero_le _, Nat.zero_le _⟩
        · refine z_aload hY eX3_readToken_34 0 rfl ?_
          refine z_dup hY eX3_readToken_35 rfl ?_
          refine c_gf hY (cJ_u (by decide) hJ) eX3_readToken_36 (t := 3) (i := 0) (v := z_i a) ((cL_u (by decide) _ _).mpr (by omega)) rfl (by simp [k_u, k_r]) ?_
          refine z_const hY eX3_readToken_39 ?_
          refine z_iadd hY eX3_readToken_40 ?_
          refine c_pf hY (cJ_u (by decide) hJ) eX3_readToken_41 (key := 7) (t := 3) (i := 0) (by decide) rfl ((cL_u (by decide) _ _).mpr (by omega)) rfl (Nat.le_of_ble_eq_true rfl) (by simp [cC, k_u, k_r]) ?_
          refine z_iinc hY eX3_readToken_44 1 rfl (ls' := [(1, z_i (i + 1)), (0, .ref (B 3 0))]) rfl ?_
          refine z_goto hY eX3_readToken_47 ?_
          refine z_sub [1, 0] (ls' := [(0, .ref (B 3 0)), (1, z_i (i + 1))]) rfl ?_
          refine z_heq (congrArg (fun q => cH D B q h) (show k_u (k_u κ 7 0 0 a) 7 0 0 (a + 1) = k_u κ 7 0 0 (a + 1) from k_u_u)) ?_
          exact ih10 (i + 1) (a + 1) (by omega) (by omega) ((ySk_t (by omega) (by omega)).symm.trans hn)
  exact lp10 _ 0 (κ 8 0 0) (Nat.lt_succ_self _) (by omega) (by rw [h8]; rfl)
end C4
