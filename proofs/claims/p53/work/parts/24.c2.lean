/-! The inner classes: what they change, and the rest of what they read (laid by wip/whole/gen/gm24.py). -/
section C2
theorem cH_r {D : Nat} {B : Nat → Int → Nat} {κ : c_K} {h : z_H} {k t : Nat} {i : Int} {f : Int → Int} {c : va_E} (hJ : cJ B κ) (hk : k ≠ 24 ∧ k ≠ 26) (ht : cG k = t) (hL : cL κ t i) (he : cC D B (k_r κ k i f) t i = c) : z_set (cH D B κ h) (B t i) c = cH D B (k_r κ k i f) h := by
  refine cH_set hJ hL (cL_r hk) (fun t' i' hl hne => cC_congr hl fun k' hk' => ?_) he
  by_cases e : k' = k
  · subst e
    refine k_r_ni (fun e2 => hne ⟨?_, e2⟩)
    exact (cG_of hk' hk).symm.trans ht
  · rw [k_r_ne e]
theorem k_r_u {κ : c_K} {k : Nat} {i j v : Int} {f g : Int → Int} (h1 : g j = v) (h2 : ∀ q, q ≠ j → g q = f q) : k_u (k_r κ k i f) k i j v = k_r κ k i g := by
  funext k' i' j'
  unfold k_u k_r
  by_cases hk : k' = k
  · rw [if_pos hk, if_pos hk, if_pos hk]
    by_cases hi : i' = i
    · rw [if_pos hi, if_pos hi, if_pos hi]
      by_cases hj : j' = j
      · rw [if_pos hj, hj, h1]
      · rw [if_neg hj, h2 _ hj]
    · rw [if_neg hi, if_neg hi, if_neg hi]
  · rw [if_neg hk, if_neg hk, if_neg hk]
theorem k_r_id {κ : c_K} {k : Nat} {i : Int} {f : Int → Int} (h : ∀ j, f j = κ k i j) : κ = k_r κ k i f := by
  funext k' i' j'
  unfold k_r
  by_cases hk : k' = k
  · rw [if_pos hk]
    by_cases hi : i' = i
    · rw [if_pos hi, h, hk, hi]
    · rw [if_neg hi]
  · rw [if_neg hk]
theorem k_u_u {κ : c_K} {k : Nat} {i j v w : Int} : k_u (k_u κ k i j v) k i j w = k_u κ k i j w := by
  funext k' i' j'
  unfold k_u
  (repeat' split) <;> rfl
theorem k_u_same {κ : c_K} {k : Nat} {i j v : Int} (h : κ k i j = v) : k_u κ k i j v = κ := by
  funext k' i' j'
  unfold k_u
  by_cases hk : k' = k
  · rw [if_pos hk]
    by_cases hi : i' = i
    · rw [if_pos hi]
      by_cases hj : j' = j
      · rw [if_pos hj, hk, hi, hj, h]
      · rw [if_neg hj, hk]
    · rw [if_neg hi]
  · rw [if_neg hk]
theorem cB_u {κ : c_K} (hB : cB κ) {k : Nat} {i j v : Int} (hv : -2147483648 ≤ v ∧ v ≤ 2147483647) : cB (k_u κ k i j v) := by
  intro k' i' j'
  have := hB k' i' j'
  unfold k_u
  (repeat' split) <;> omega
theorem cB_r {κ : c_K} (hB : cB κ) {k : Nat} {i : Int} {f : Int → Int} (hv : ∀ j, -2147483648 ≤ f j ∧ f j ≤ 2147483647) : cB (k_r κ k i f) := by
  intro k' i' j'
  have := hB k' i' j'
  have := hv j'
  unfold k_r
  (repeat' split) <;> omega
theorem cV_of {κ κ' : c_K} (hV : cV κ) (h : ∀ k, k = 5 ∨ k = 17 ∨ k = 20 ∨ k = 24 ∨ k = 26 ∨ k = 36 → κ' k = κ k) : cV κ' := by
  unfold cV
  rw [h 5 (by omega), h 17 (by omega), h 20 (by omega), h 24 (by omega), h 26 (by omega), h 36 (by omega)]
  exact hV
theorem cV_u {κ : c_K} (hV : cV κ) {k : Nat} {i j v : Int} (hk : k ≠ 5 ∧ k ≠ 17 ∧ k ≠ 20 ∧ k ≠ 24 ∧ k ≠ 26 ∧ k ≠ 36) : cV (k_u κ k i j v) := cV_of hV fun q hq => k_u_ne (by omega)
theorem cV_r {κ : c_K} (hV : cV κ) {k : Nat} {i : Int} {f : Int → Int} (hk : k ≠ 5 ∧ k ≠ 17 ∧ k ≠ 20 ∧ k ≠ 24 ∧ k ≠ 26 ∧ k ≠ 36) : cV (k_r κ k i f) := cV_of hV fun q hq => k_r_ne (by omega)
theorem cV_36 {κ : c_K} (hV : cV κ) {i v : Int} (hv : v = 0 ∨ v = 1) : cV (k_u κ 36 i 0 v) := by
  refine ⟨hV.1, hV.2.1, hV.2.2.1, hV.2.2.2.1, hV.2.2.2.2.1, fun q => ?_⟩
  have := hV.2.2.2.2.2 q
  unfold k_u
  (repeat' split) <;> omega
theorem cV_5 {κ : c_K} (hV : cV κ) {v : Int} (hv : 0 ≤ v ∧ v ≤ 100) : cV (k_u κ 5 0 0 v) := by
  refine ⟨hV.1, hV.2.1, hV.2.2.1, hV.2.2.2.1, ?_, hV.2.2.2.2.2⟩
  show 0 ≤ k_u κ 5 0 0 v 5 0 0 ∧ k_u κ 5 0 0 v 5 0 0 ≤ 100
  rw [k_u_at]
  exact hv
theorem z_ia_congr {N : Nat} {f g : Int → Int} (h : ∀ j : Int, 0 ≤ j → f j = g j) : z_ia N f = z_ia N g := by
  unfold z_ia
  rw [show (fun j : Nat => Int32.ofInt (f j)) = (fun j : Nat => Int32.ofInt (g j)) from funext fun j => by rw [h j (by omega)]]
theorem z_byt_1 (v : Int) : v % 4294967296 / 1 % 256 = v / 1 % 256 := by omega
theorem z_byt_256 (v : Int) : v % 4294967296 / 256 % 256 = v / 256 % 256 := by omega
theorem z_byt_65536 (v : Int) : v % 4294967296 / 65536 % 256 = v / 65536 % 256 := by omega
theorem z_byt_16777216 (v : Int) : v % 4294967296 / 16777216 % 256 = v / 16777216 % 256 := by omega

theorem ma_floorMod {G : z_G} {h : z_H} (hG : z_OK G) {x y : Int} (hr : 0 ≤ x ∧ x ≤ 2147483647 ∧ 0 < y ∧ y ≤ 2147483647) : z_Tr G mJ9_floorMod_7cf53 [z_i x, z_i y] (h) 0 (z_i (x % y)) := by
  refine z_T_of hG pJ9_floorMod_7cf53 (Nat.le_of_ble_eq_true rfl) (ls0 := [(0, z_i x), (1, z_i y)]) rfl fun Y hY hg hmc hms hφ hψ => ?_
  subst hg
  refine z_iload hY eJ9_floorMod_7cf53_0 0 rfl ?_
  refine z_iload hY eJ9_floorMod_7cf53_1 1 rfl ?_
  refine z_irem hY eJ9_floorMod_7cf53_2 (by omega) ?_
  have hrm : 0 ≤ x % y ∧ x % y ≤ 2147483647 := ⟨Int.emod_nonneg _ (by omega), by have := Int.emod_lt_of_pos x (show 0 < y by omega); omega⟩
  refine z_istore hY eJ9_floorMod_7cf53_3 (ls' := [(2, z_i (x % y)), (0, z_i x), (1, z_i y)]) rfl ?_
  refine z_iload hY eJ9_floorMod_7cf53_4 1 rfl ?_
  refine z_iload hY eJ9_floorMod_7cf53_5 2 rfl ?_
  refine z_ixor hY eJ9_floorMod_7cf53_6 (by omega) (by omega) (fun cx1 hcx1 => ?_)
  refine z_ifge hY eJ9_floorMod_7cf53_7 (by omega) (fun c7 => ?_) (fun c => by exfalso; omega)
  refine z_iload hY eJ9_floorMod_7cf53_18 0 rfl ?_
  exact z_ireturn hY eJ9_floorMod_7cf53_19 rfl (by rw [hφ]; exact ⟨congrArg (fun q => some (z_i q)) (by first | rfl | omega | (simp only [z_bl]; split <;> omega)), rfl⟩) ⟨Nat.zero_le _, Nat.zero_le _⟩
theorem e_gainIn {G : z_G} {D : Nat} {B : Nat → Int → Nat} {κ : c_K} {h : z_H} (hG : z_OK G) (hJ : cJ B κ) (hB : cB κ) (hV : cV κ) {e r : Int} (he : -1 ≤ e ∧ e < κ 24 0 0) (hr : -2147483648 ≤ r ∧ r ≤ 2147483647) : z_Tr G mX0_gainIn [.ref (B 20 e), z_i r] (cH D B κ h) 1 (z_i (if r < 0 then 0 else κ 32 e (r % 10))) := by
  obtain ⟨hn, hsz, hrw, hcu, htl, hth⟩ := id hV
  have hs0 := hsz 0 (by omega) (by omega)
  have hs1 := hsz 1 (by omega) (by omega)
  have hs2 := hsz 2 (by omega) (by omega)
  have hs3 := hsz 3 (by omega) (by omega)
  refine z_T_of hG pX0_gainIn (Nat.le_of_ble_eq_true rfl) (ls0 := [(0, .ref (B 20 e)), (1, z_i r)]) rfl fun Y hY hg hmc hms hφ hψ => ?_
  subst hg
  refine z_iload hY eX0_gainIn_0 1 rfl ?_
  refine z_ifge hY eX0_gainIn_1 (by omega) (fun c1 => ?_) (fun c1 => ?_)
  · refine z_aload hY eX0_gainIn_8 0 rfl ?_
    refine c_gf hY hJ eX0_gainIn_9 (t := 20) (i := e) (v := .ref (B 23 e)) (by omega) rfl rfl ?_
    refine z_iload hY eX0_gainIn_12 1 rfl ?_
    refine z_const hY eX0_gainIn_13 ?_
    refine z_callSr (As := [z_i r, z_i 10]) (rest := [.ref (B 23 e)]) (r := z_i (r % 10)) hY eX0_gainIn_15 (ma_floorMod hG (by omega)) (by decide) (Nat.le_of_ble_eq_true rfl) ⟨Nat.zero_le _, Nat.zero_le _⟩ ?_
    have hc1 := Int.emod_nonneg r (show 10 ≠ 0 by omega)
    have hc2 := Int.emod_lt_of_pos r (show 0 < 10 by omega)
    have hb3 := hB 32 e (r % 10)
    refine c_ial hY hJ eX0_gainIn_18 (t := 23) (N := 10) (key := 32) (i := e) (x := κ 32 e (r % 10)) (by omega) rfl (by omega) rfl ?_
    exact z_ireturn hY eX0_gainIn_19 rfl (by rw [hφ]; exact ⟨congrArg (fun q => some (z_i q)) (by split <;> omega), rfl⟩) ⟨Nat.zero_le _, Nat.zero_le _⟩
  · refine z_const hY eX0_gainIn_4 ?_
    refine z_goto hY eX0_gainIn_5 ?_
    exact z_ireturn hY eX0_gainIn_19 rfl (by rw [hφ]; exact ⟨congrArg (fun q => some (z_i q)) (by split <;> omega), rfl⟩) ⟨Nat.zero_le _, Nat.zero_le _⟩
theorem e_placeIn {G : z_G} {D : Nat} {B : Nat → Int → Nat} {κ : c_K} {h : z_H} (hG : z_OK G) (hJ : cJ B κ) (hB : cB κ) (hV : cV κ) {e r : Int} (he : -1 ≤ e ∧ e < κ 24 0 0) (hr : -2147483648 ≤ r ∧ r ≤ 2147483647) : z_Tr G mX0_placeIn [.ref (B 20 e), z_i r] (cH D B κ h) 1 (z_i (if r < 0 then -1 else κ 33 e (r % 20))) := by
  obtain ⟨hn, hsz, hrw, hcu, htl, hth⟩ := id hV
  have hs0 := hsz 0 (by omega) (by omega)
  have hs1 := hsz 1 (by omega) (by omega)
  have hs2 := hsz 2 (by omega) (by omega)
  have hs3 := hsz 3 (by omega) (by omega)
  refine z_T_of hG pX0_placeIn (Nat.le_of_ble_eq_true rfl) (ls0 := [(0, .ref (B 20 e)), (1, z_i r)]) rfl fun Y hY hg hmc hms hφ hψ => ?_
  subst hg
  refine z_iload hY eX0_placeIn_0 1 rfl ?_
  refine z_ifge hY eX0_placeIn_1 (by omega) (fun c1 => ?_) (fun c1 => ?_)
  · refine z_aload hY eX0_placeIn_8 0 rfl ?_
    refine c_gf hY hJ eX0_placeIn_9 (t := 20) (i := e) (v := .ref (B 24 e)) (by omega) rfl rfl ?_
    refine z_iload hY eX0_placeIn_12 1 rfl ?_
    refine z_const hY eX0_placeIn_13 ?_
    refine z_callSr (As := [z_i r, z_i 20]) (rest := [.ref (B 24 e)]) (r := z_i (r % 20)) hY eX0_placeIn_15 (ma_floorMod hG (by omega)) (by decide) (Nat.le_of_ble_eq_true rfl) ⟨Nat.zero_le _, Nat.zero_le _⟩ ?_
    have hc1 := Int.emod_nonneg r (show 20 ≠ 0 by omega)
    have hc2 := Int.emod_lt_of_pos r (show 0 < 20 by omega)
    have hb3 := hB 33 e (r % 20)
    refine c_ial hY hJ eX0_placeIn_18 (t := 24) (N := 20) (key := 33) (i := e) (x := κ 33 e (r % 20)) (by omega) rfl (by omega) rfl ?_
    exact z_ireturn hY eX0_placeIn_19 rfl (by rw [hφ]; exact ⟨congrArg (fun q => some (z_i q)) (by split <;> omega), rfl⟩) ⟨Nat.zero_le _, Nat.zero_le _⟩
  · refine z_const hY eX0_placeIn_4 ?_
    refine z_goto hY eX0_placeIn_5 ?_
    exact z_ireturn hY eX0_placeIn_19 rfl (by rw [hφ]; exact ⟨congrArg (fun q => some (z_i q)) (by split <;> omega), rfl⟩) ⟨Nat.zero_le _, Nat.zero_le _⟩
theorem o_isCriterion {G : z_G} {h : z_H} (hG : z_OK G) {o : Nat} {c : Int} (hc : -2147483648 ≤ c ∧ c ≤ 2147483647) : z_Tr G mX2_isCriterion [.ref o, z_i c] (h) 0 (z_i (z_bl (0 ≤ c ∧ c < 4))) := by
  refine z_T_of hG pX2_isCriterion (Nat.le_of_ble_eq_true rfl) (ls0 := [(0, .ref o), (1, z_i c)]) rfl fun Y hY hg hmc hms hφ hψ => ?_
  subst hg
  refine z_iload hY eX2_isCriterion_0 1 rfl ?_
  refine z_iflt hY eX2_isCriterion_1 (by omega) (fun c1 => ?_) (fun c1 => ?_)
  · refine z_const hY eX2_isCriterion_13 ?_
    exact z_zreturn hY eX2_isCriterion_14 rfl (by omega) (by rw [hφ]; exact ⟨congrArg (fun q => some (z_i q)) (by first | rfl | omega | (simp only [z_bl]; split <;> omega)), rfl⟩) ⟨Nat.zero_le _, Nat.zero_le _⟩
  · refine z_iload hY eX2_isCriterion_4 1 rfl ?_
    refine z_const hY eX2_isCriterion_5 ?_
    refine z_icmpge hY eX2_isCriterion_6 (by omega) (fun c6 => ?_) (fun c6 => ?_)
    · refine z_const hY eX2_isCriterion_13 ?_
      exact z_zreturn hY eX2_isCriterion_14 rfl (by omega) (by rw [hφ]; exact ⟨congrArg (fun q => some (z_i q)) (by first | rfl | omega | (simp only [z_bl]; split <;> omega)), rfl⟩) ⟨Nat.zero_le _, Nat.zero_le _⟩
    · refine z_const hY eX2_isCriterion_9 ?_
      refine z_goto hY eX2_isCriterion_10 ?_
      exact z_zreturn hY eX2_isCriterion_14 rfl (by omega) (by rw [hφ]; exact ⟨congrArg (fun q => some (z_i q)) (by first | rfl | omega | (simp only [z_bl]; split <;> omega)), rfl⟩) ⟨Nat.zero_le _, Nat.zero_le _⟩
theorem o_valueFor {G : z_G} {D : Nat} {B : Nat → Int → Nat} {κ : c_K} {h : z_H} (hG : z_OK G) (hJ : cJ B κ) (hB : cB κ) (hV : cV κ) {o e c : Int} (ho : 0 ≤ o ∧ o ≤ 1) (he : -1 ≤ e ∧ e < κ 24 0 0) (hc : 0 ≤ c ∧ c < 4) : z_Tr G mX2_valueFor [.ref (B 4 o), .ref (B 20 e), z_i c] (cH D B κ h) 1 (z_i (cVl κ o e c)) := by
  obtain ⟨hn, hsz, hrw, hcu, htl, hth⟩ := id hV
  have hs0 := hsz 0 (by omega) (by omega)
  have hs1 := hsz 1 (by omega) (by omega)
  have hs2 := hsz 2 (by omega) (by omega)
  have hs3 := hsz 3 (by omega) (by omega)
  refine z_T_of hG pX2_valueFor (Nat.le_of_ble_eq_true rfl) (ls0 := [(0, .ref (B 4 o)), (1, .ref (B 20 e)), (2, z_i c)]) rfl fun Y hY hg hmc hms hφ hψ => ?_
  subst hg
  refine z_const hY eX2_valueFor_0 ?_
  refine z_istore hY eX2_valueFor_1 (ls' := [(3, z_i 0), (0, .ref (B 4 o)), (1, .ref (B 20 e)), (2, z_i c)]) rfl ?_
  refine z_const hY eX2_valueFor_2 ?_
  refine z_istore hY eX2_valueFor_3 (ls' := [(4, z_i 0), (3, z_i 0), (0, .ref (B 4 o)), (1, .ref (B 20 e)), (2, z_i c)]) rfl ?_
  refine z_iload hY eX2_valueFor_5 0 rfl ?_
  refine z_const hY eX2_valueFor_7 ?_
  refine z_icmpge hY eX2_valueFor_8 (by omega) (fun c => absurd c (by omega)) (fun _ => ?_)
  refine z_aload hY eX2_valueFor_11 2 rfl ?_
  refine z_iload hY eX2_valueFor_12 4 rfl ?_
  refine z_callVr (As := [z_i c]) (rest := []) (r := z_i (z_bl (0 ≤ c ∧ c < 4))) hY eX2_valueFor_13 (o_isCriterion hG (by omega)) (cH_at (t := 4) (i := o) hJ (by omega)) (by decide) (Nat.le_of_ble_eq_true rfl) ⟨Nat.zero_le _, Nat.zero_le _⟩ ?_
  refine z_ifeqb hY eX2_valueFor_16 (fun c16 => ?_) (fun c16 => ?_)
  · refine z_iload hY eX2_valueFor_46 1 rfl ?_
    exact z_ireturn hY eX2_valueFor_47 rfl (by rw [hφ]; first | (exfalso; omega) | exact ⟨congrArg (fun q => some (z_i q)) (by unfold cVl; omega), rfl⟩) ⟨Nat.zero_le _, Nat.zero_le _⟩
  · refine z_iload hY eX2_valueFor_19 1 rfl ?_
    refine z_aload hY eX2_valueFor_20 2 rfl ?_
    refine c_gf hY hJ eX2_valueFor_21 (t := 4) (i := o) (v := .ref (B 5 o)) (by omega) rfl rfl ?_
    refine z_iload hY eX2_valueFor_24 4 rfl ?_
    refine z_const hY eX2_valueFor_25 ?_
    refine z_imul hY eX2_valueFor_26 ?_
    refine z_top (b := 4 * c) (by omega) ?_
    refine z_iload hY eX2_valueFor_27 0 rfl ?_
    refine z_iadd hY eX2_valueFor_29 ?_
    refine z_top (b := 4 * c) (by omega) ?_
    have hb1 := hB 12 o (4 * c)
    refine c_ial hY hJ eX2_valueFor_30 (t := 5) (N := 16) (key := 12) (i := o) (x := κ 12 o (4 * c)) (by omega) rfl (by omega) rfl ?_
    refine z_aload hY eX2_valueFor_31 3 rfl ?_
    refine z_iload hY eX2_valueFor_32 0 rfl ?_
    refine z_callVr (As := [z_i 0]) (rest := [z_i (κ 12 o (4 * c)), z_i 0]) (r := z_i (κ 30 e 0)) hY eX2_valueFor_34 (e_scoreIn4 hG hJ hB hV (by omega) (by omega)) (cH_at (t := 20) (i := e) hJ (by omega)) (by decide) (Nat.le_of_ble_eq_true rfl) ⟨Nat.zero_le _, Nat.zero_le _⟩ ?_
    have hc2 := hB 30 e 0
    refine z_imul hY eX2_valueFor_37 ?_
    refine z_iadd hY eX2_valueFor_38 ?_
    refine z_top (b := (κ 12 o (4 * c)) * (κ 30 e 0)) (by omega) ?_
    refine z_istore hY eX2_valueFor_39 (ls' := [(3, z_i ((κ 12 o (4 * c)) * (κ 30 e 0))), (4, z_i 0), (0, .ref (B 4 o)), (1, .ref (B 20 e)), (2, z_i c)]) rfl ?_
    refine z_iinc hY eX2_valueFor_40 1 rfl (ls' := [(4, z_i (0 + 1)), (3, z_i ((κ 12 o (4 * c)) * (κ 30 e 0))), (0, .ref (B 4 o)), (1, .ref (B 20 e)), (2, z_i c)]) rfl ?_
    refine z_lq (ls' := [(4, z_i 1), (3, z_i ((κ 12 o (4 * c)) * (κ 30 e 0))), (0, .ref (B 4 o)), (1, .ref (B 20 e)), (2, z_i c)]) rfl ?_
    refine z_goto hY eX2_valueFor_43 ?_
    refine z_iload hY eX2_valueFor_5 0 rfl ?_
    refine z_const hY eX2_valueFor_7 ?_
    refine z_icmpge hY eX2_valueFor_8 (by omega) (fun c => absurd c (by omega)) (fun _ => ?_)
    refine z_aload hY eX2_valueFor_11 2 rfl ?_
    refine z_iload hY eX2_valueFor_12 4 rfl ?_
    refine z_callVr (As := [z_i c]) (rest := []) (r := z_i (z_bl (0 ≤ c ∧ c < 4))) hY eX2_valueFor_13 (o_isCriterion hG (by omega)) (cH_at (t := 4) (i := o) hJ (by omega)) (by decide) (Nat.le_of_ble_eq_true rfl) ⟨Nat.zero_le _, Nat.zero_le _⟩ ?_
    refine z_ifeqb hY eX2_valueFor_16 (fun c16 => ?_) (fun c16 => ?_)
    · refine z_iload hY eX2_valueFor_46 1 rfl ?_
      exact z_ireturn hY eX2_valueFor_47 rfl (by rw [hφ]; first | (exfalso; omega) | exact ⟨congrArg (fun q => some (z_i q)) (by unfold cVl; omega), rfl⟩) ⟨Nat.zero_le _, Nat.zero_le _⟩
    · refine z_iload hY eX2_valueFor_19 1 rfl ?_
      refine z_aload hY eX2_valueFor_20 2 rfl ?_
      refine c_gf hY hJ eX2_valueFor_21 (t := 4) (i := o) (v := .ref (B 5 o)) (by omega) rfl rfl ?_
      refine z_iload hY eX2_valueFor_24 4 rfl ?_
      refine z_const hY eX2_valueFor_25 ?_
      refine z_imul hY eX2_valueFor_26 ?_
      refine z_top (b := 4 * c) (by omega) ?_
      refine z_iload hY eX2_valueFor_27 0 rfl ?_
      refine z_iadd hY eX2_valueFor_29 ?_
      have hb3 := hB 12 o (4 * c + 1)
      refine c_ial hY hJ eX2_valueFor_30 (t := 5) (N := 16) (key := 12) (i := o) (x := κ 12 o (4 * c + 1)) (by omega) rfl (by omega) rfl ?_
      refine z_aload hY eX2_valueFor_31 3 rfl ?_
      refine z_iload hY eX2_valueFor_32 0 rfl ?_
      refine z_callVr (As := [z_i 1]) (rest := [z_i (κ 12 o (4 * c + 1)), z_i ((κ 12 o (4 * c)) * (κ 30 e 0))]) (r := z_i (κ 30 e 1)) hY eX2_valueFor_34 (e_scoreIn4 hG hJ hB hV (by omega) (by omega)) (cH_at (t := 20) (i := e) hJ (by omega)) (by decide) (Nat.le_of_ble_eq_true rfl) ⟨Nat.zero_le _, Nat.zero_le _⟩ ?_
      have hc4 := hB 30 e 1
      refine z_imul hY eX2_valueFor_37 ?_
      refine z_iadd hY eX2_valueFor_38 ?_
      refine z_istore hY eX2_valueFor_39 (ls' := [(3, z_i (((κ 12 o (4 * c)) * (κ 30 e 0)) + ((κ 12 o (4 * c + 1)) * (κ 30 e 1)))), (4, z_i 1), (0, .ref (B 4 o)), (1, .ref (B 20 e)), (2, z_i c)]) rfl ?_
      refine z_iinc hY eX2_valueFor_40 1 rfl (ls' := [(4, z_i (1 + 1)), (3, z_i (((κ 12 o (4 * c)) * (κ 30 e 0)) + ((κ 12 o (4 * c + 1)) * (κ 30 e 1)))), (0, .ref (B 4 o)), (1, .ref (B 20 e)), (2, z_i c)]) rfl ?_
      refine z_lq (ls' := [(4, z_i 2), (3, z_i (((κ 12 o (4 * c)) * (κ 30 e 0)) + ((κ 12 o (4 * c + 1)) * (κ 30 e 1)))), (0, .ref (B 4 o)), (1, .ref (B 20 e)), (2, z_i c)]) rfl ?_
      refine z_goto hY eX2_valueFor_43 ?_
      refine z_iload hY eX2_valueFor_5 0 rfl ?_
      refine z_const hY eX2_valueFor_7 ?_
      refine z_icmpge hY eX2_valueFor_8 (by omega) (fun c => absurd c (by omega)) (fun _ => ?_)
      refine z_aload hY eX2_valueFor_11 2 rfl ?_
      refine z_iload hY eX2_valueFor_12 4 rfl ?_
      refine z_callVr (As := [z_i c]) (rest := []) (r := z_i (z_bl (0 ≤ c ∧ c < 4))) hY eX2_valueFor_13 (o_isCriterion hG (by omega)) (cH_at (t := 4) (i := o) hJ (by omega)) (by decide) (Nat.le_of_ble_eq_true rfl) ⟨Nat.zero_le _, Nat.zero_le _⟩ ?_
      refine z_ifeqb hY eX2_valueFor_16 (fun c16 => ?_) (fun c16 => ?_)
      · refine z_iload hY eX2_valueFor_46 1 rfl ?_
        exact z_ireturn hY eX2_valueFor_47 rfl (by rw [hφ]; first | (exfalso; omega) | exact ⟨congrArg (fun q => some (z_i q)) (by unfold cVl; omega), rfl⟩) ⟨Nat.zero_le _, Nat.zero_le _⟩
      · refine z_iload hY eX2_valueFor_19 1 rfl ?_
        refine z_aload hY eX2_valueFor_20 2 rfl ?_
        refine c_gf hY hJ eX2_valueFor_21 (t := 4) (i := o) (v := .ref (B 5 o)) (by omega) rfl rfl ?_
        refine z_iload hY eX2_valueFor_24 4 rfl ?_
        refine z_const hY eX2_valueFor_25 ?_
        refine z_imul hY eX2_valueFor_26 ?_
        refine z_top (b := 4 * c) (by omega) ?_
        refine z_iload hY eX2_valueFor_27 0 rfl ?_
        refine z_iadd hY eX2_valueFor_29 ?_
        have hb5 := hB 12 o (4 * c + 2)
        refine c_ial hY hJ eX2_valueFor_30 (t := 5) (N := 16) (key := 12) (i := o) (x := κ 12 o (4 * c + 2)) (by omega) rfl (by omega) rfl ?_
        refine z_aload hY eX2_valueFor_31 3 rfl ?_
        refine z_iload hY eX2_valueFor_32 0 rfl ?_
        refine z_callVr (As := [z_i 2]) (rest := [z_i (κ 12 o (4 * c + 2)), z_i (((κ 12 o (4 * c)) * (κ 30 e 0)) + ((κ 12 o (4 * c + 1)) * (κ 30 e 1)))]) (r := z_i (κ 30 e 2)) hY eX2_valueFor_34 (e_scoreIn4 hG hJ hB hV (by omega) (by omega)) (cH_at (t := 20) (i := e) hJ (by omega)) (by decide) (Nat.le_of_ble_eq_true rfl) ⟨Nat.zero_le _, Nat.zero_le _⟩ ?_
        have hc6 := hB 30 e 2
        refine z_imul hY eX2_valueFor_37 ?_
        refine z_iadd hY eX2_valueFor_38 ?_
        refine z_istore hY eX2_valueFor_39 (ls' := [(3, z_i (((κ 12 o (4 * c)) * (κ 30 e 0)) + ((κ 12 o (4 * c + 1)) * (κ 30 e 1)) + ((κ 12 o (4 * c + 2)) * (κ 30 e 2)))), (4, z_i 2), (0, .ref (B 4 o)), (1, .ref (B 20 e)), (2, z_i c)]) rfl ?_
        refine z_iinc hY eX2_valueFor_40 1 rfl (ls' := [(4, z_i (2 + 1)), (3, z_i (((κ 12 o (4 * c)) * (κ 30 e 0)) + ((κ 12 o (4 * c + 1)) * (κ 30 e 1)) + ((κ 12 o (4 * c + 2)) * (κ 30 e 2)))), (0, .ref (B 4 o)), (1, .ref (B 20 e)), (2, z_i c)]) rfl ?_
        refine z_lq (ls' := [(4, z_i 3), (3, z_i (((κ 12 o (4 * c)) * (κ 30 e 0)) + ((κ 12 o (4 * c + 1)) * (κ 30 e 1)) + ((κ 12 o (4 * c + 2)) * (κ 30 e 2)))), (0, .ref (B 4 o)), (1, .ref (B 20 e)), (2, z_i c)]) rfl ?_
        refine z_goto hY eX2_valueFor_43 ?_
        refine z_iload hY eX2_valueFor_5 0 rfl ?_
        refine z_const hY eX2_valueFor_7 ?_
        refine z_icmpge hY eX2_valueFor_8 (by omega) (fun c => absurd c (by omega)) (fun _ => ?_)
        refine z_aload hY eX2_valueFor_11 2 rfl ?_
        refine z_iload hY eX2_valueFor_12 4 rfl ?_
        refine z_callVr (As := [z_i c]) (rest := []) (r := z_i (z_bl (0 ≤ c ∧ c < 4))) hY eX2_valueFor_13 (o_isCriterion hG (by omega)) (cH_at (t := 4) (i := o) hJ (by omega)) (by decide) (Nat.le_of_ble_eq_true rfl) ⟨Nat.zero_le _, Nat.zero_le _⟩ ?_
        refine z_ifeqb hY eX2_valueFor_16 (fun c16 => ?_) (fun c16 => ?_)
        · refine z_iload hY eX2_valueFor_46 1 rfl ?_
          exact z_ireturn hY eX2_valueFor_47 rfl (by rw [hφ]; first | (exfalso; omega) | exact ⟨congrArg (fun q => some (z_i q)) (by unfold cVl; omega), rfl⟩) ⟨Nat.zero_le _, Nat.zero_le _⟩
        · refine z_iload hY eX2_valueFor_19 1 rfl ?_
          refine z_aload hY eX2_valueFor_20 2 rfl ?_
          refine c_gf hY hJ eX2_valueFor_21 (t := 4) (i := o) (v := .ref (B 5 o)) (by omega) rfl rfl ?_
          refine z_iload hY eX2_valueFor_24 4 rfl ?_
          refine z_const hY eX2_valueFor_25 ?_
          refine z_imul hY eX2_valueFor_26 ?_
          refine z_top (b := 4 * c) (by omega) ?_
          refine z_iload hY eX2_valueFor_27 0 rfl ?_
          refine z_iadd hY eX2_valueFor_29 ?_
          have hb7 := hB 12 o (4 * c + 3)
          refine c_ial hY hJ eX2_valueFor_30 (t := 5) (N := 16) (key := 12) (i := o) (x := κ 12 o (4 * c + 3)) (by omega) rfl (by omega) rfl ?_
          refine z_aload hY eX2_valueFor_31 3 rfl ?_
          refine z_iload hY eX2_valueFor_32 0 rfl ?_
          refine z_callVr (As := [z_i 3]) (rest := [z_i (κ 12 o (4 * c + 3)), z_i (((κ 12 o (4 * c)) * (κ 30 e 0)) + ((κ 12 o (4 * c + 1)) * (κ 30 e 1)) + ((κ 12 o (4 * c + 2)) * (κ 30 e 2)))]) (r := z_i (κ 30 e 3)) hY eX2_valueFor_34 (e_scoreIn4 hG hJ hB hV (by omega) (by omega)) (cH_at (t := 20) (i := e) hJ (by omega)) (by decide) (Nat.le_of_ble_eq_true rfl) ⟨Nat.zero_le _, Nat.zero_le _⟩ ?_
          have hc8 := hB 30 e 3
          refine z_imul hY eX2_valueFor_37 ?_
          refine z_iadd hY eX2_valueFor_38 ?_
          refine z_istore hY eX2_valueFor_39 (ls' := [(3, z_i (((κ 12 o (4 * c)) * (κ 30 e 0)) + ((κ 12 o (4 * c + 1)) * (κ 30 e 1)) + ((κ 12 o (4 * c + 2)) * (κ 30 e 2)) + ((κ 12 o (4 * c + 3)) * (κ 30 e 3)))), (4, z_i 3), (0, .ref (B 4 o)), (1, .ref (B 20 e)), (2, z_i c)]) rfl ?_
          refine z_iinc hY eX2_valueFor_40 1 rfl (ls' := [(4, z_i (3 + 1)), (3, z_i (((κ 12 o (4 * c)) * (κ 30 e 0)) + ((κ 12 o (4 * c + 1)) * (κ 30 e 1)) + ((κ 12 o (4 * c + 2)) * (κ 30 e 2)) + ((κ 12 o (4 * c + 3)) * (κ 30 e 3)))), (0, .ref (B 4 o)), (1, .ref (B 20 e)), (2, z_i c)]) rfl ?_
          refine z_lq (ls' := [(4, z_i 4), (3, z_i (((κ 12 o (4 * c)) * (κ 30 e 0)) + ((κ 12 o (4 * c + 1)) * (κ 30 e 1)) + ((κ 12 o (4 * c + 2)) * (κ 30 e 2)) + ((κ 12 o (4 * c + 3)) * (κ 30 e 3)))), (0, .ref (B 4 o)), (1, .ref (B 20 e)), (2, z_i c)]) rfl ?_
          refine z_goto hY eX2_valueFor_43 ?_
          refine z_iload hY eX2_valueFor_5 0 rfl ?_
          refine z_const hY eX2_valueFor_7 ?_
          refine z_icmpge hY eX2_valueFor_8 (by omega) (fun _ => ?_) (fun c => absurd c (by omega))
          refine z_iload hY eX2_valueFor_46 1 rfl ?_
          exact z_ireturn hY eX2_valueFor_47 rfl (by rw [hφ]; first | (exfalso; omega) | exact ⟨congrArg (fun q => some (z_i q)) (by unfold cVl; omega), rfl⟩) ⟨Nat.zero_le _, Nat.zero_le _⟩
theorem t_byteAt {G : z_G} {D : Nat} {B : Nat → Int → Nat} {κ : c_K} {h : z_H} (hG : z_OK G) (hJ : cJ B κ) (hB : cB κ) (hV : cV κ) {i : Int} (hi : -2147483648 ≤ i ∧ i ≤ 2147483647) : z_Tr G mX6_byteAt [.ref (B 1 0), z_i i] (cH D B κ h) 0 (z_i (cBy κ i)) := by
  obtain ⟨hn, hsz, hrw, hcu, htl, hth⟩ := id hV
  have hs0 := hsz 0 (by omega) (by omega)
  have hs1 := hsz 1 (by omega) (by omega)
  have hs2 := hsz 2 (by omega) (by omega)
  have hs3 := hsz 3 (by omega) (by omega)
  refine z_T_of hG pX6_byteAt (Nat.le_of_ble_eq_true rfl) (ls0 := [(0, .ref (B 1 0)), (1, z_i i)]) rfl fun Y hY hg hmc hms hφ hψ => ?_
  subst hg
  refine z_iload hY eX6_byteAt_0 1 rfl ?_
  refine z_iflt hY eX6_byteAt_1 (by omega) (fun c1 => ?_) (fun c1 => ?_)
  · refine z_const hY eX6_byteAt_27 ?_
    exact z_ireturn hY eX6_byteAt_28 rfl (by rw [hφ]; exact ⟨congrArg (fun q => some (z_i q)) (by unfold cBy; (repeat' split) <;> omega), rfl⟩) ⟨Nat.zero_le _, Nat.zero_le _⟩
  · refine z_iload hY eX6_byteAt_4 1 rfl ?_
    refine z_aload hY eX6_byteAt_5 0 rfl ?_
    have hb1 := hB 5 0 0
    refine c_gf hY hJ eX6_byteAt_6 (t := 1) (i := 0) (v := z_i (κ 5 0 0)) (by omega) rfl rfl ?_
    refine z_icmpge hY eX6_byteAt_9 (by omega) (fun c9 => ?_) (fun c9 => ?_)
    · refine z_const hY eX6_byteAt_27 ?_
      exact z_ireturn hY eX6_byteAt_28 rfl (by rw [hφ]; exact ⟨congrArg (fun q => some (z_i q)) (by unfold cBy; (repeat' split) <;> omega), rfl⟩) ⟨Nat.zero_le _, Nat.zero_le _⟩
    · refine z_iload hY eX6_byteAt_12 1 rfl ?_
      refine z_const hY eX6_byteAt_13 ?_
      refine z_icmpge hY eX6_byteAt_15 (by omega) (fun c15 => ?_) (fun c15 => ?_)
      · refine z_const hY eX6_byteAt_27 ?_
        exact z_ireturn hY eX6_byteAt_28 rfl (by rw [hφ]; exact ⟨congrArg (fun q => some (z_i q)) (by unfold cBy; (repeat' split) <;> omega), rfl⟩) ⟨Nat.zero_le _, Nat.zero_le _⟩
      · refine z_aload hY eX6_byteAt_18 0 rfl ?_
        refine c_gf hY hJ eX6_byteAt_19 (t := 1) (i := 0) (v := .ref (B 2 0)) (by omega) rfl rfl ?_
        refine z_iload hY eX6_byteAt_22 1 rfl ?_
        have hb2 := hB 4 0 i
        refine c_ial hY hJ eX6_byteAt_23 (t := 2) (N := 100) (key := 4) (i := 0) (x := κ 4 0 i) (by omega) rfl (by omega) rfl ?_
        refine z_goto hY eX6_byteAt_24 ?_
        exact z_ireturn hY eX6_byteAt_28 rfl (by rw [hφ]; exact ⟨congrArg (fun q => some (z_i q)) (by unfold cBy; (repeat' split) <;> omega), rfl⟩) ⟨Nat.zero_le _, Nat.zero_le _⟩
theorem t_bytesIn {G : z_G} {h : z_H} (hG : z_OK G) {t : Nat} {v : Int} (hr : -2147483648 ≤ v ∧ v ≤ 2147483647) : z_Tr G mX6_bytesIn [.ref t, z_i v] (h) 0 (z_i (yBy v)) := by
  refine z_T_of hG pX6_bytesIn (Nat.le_of_ble_eq_true rfl) (ls0 := [(0, .ref t), (1, z_i v)]) rfl fun Y hY hg hmc hms hφ hψ => ?_
  subst hg
  refine z_const hY eX6_bytesIn_0 ?_
  refine z_istore hY eX6_bytesIn_1 (ls' := [(2, z_i 0), (0, .ref t), (1, z_i v)]) rfl ?_
  refine z_const hY eX6_bytesIn_2 ?_
  refine z_istore hY eX6_bytesIn_4 (ls' := [(3, z_i 24), (2, z_i 0), (0, .ref t), (1, z_i v)]) rfl ?_
  refine z_iload hY eX6_bytesIn_5 0 rfl ?_
  refine z_iflt hY eX6_bytesIn_6 (by omega) (fun c => absurd c (by omega)) (fun _ => ?_)
  refine z_iload hY eX6_bytesIn_9 1 rfl ?_
  refine z_iload hY eX6_bytesIn_10 3 rfl ?_
  refine z_iload hY eX6_bytesIn_11 0 rfl ?_
  refine z_iushr hY eX6_bytesIn_12 (D := 16777216) (by unfold z_sk; omega) ?_
  refine z_const hY eX6_bytesIn_13 ?_
  refine z_iand255 hY eX6_bytesIn_16 ?_
  refine z_top (b := v / 16777216 % 256) (z_byt_16777216 _) ?_
  refine z_ifeq hY eX6_bytesIn_17 (by omega) (fun c17 => ?_) (fun c17 => ?_)
  · refine z_const hY eX6_bytesIn_24 ?_
    refine z_iadd hY eX6_bytesIn_25 ?_
    refine z_top (b := 0) (by omega) ?_
    refine z_istore hY eX6_bytesIn_26 (ls' := [(2, z_i 0), (3, z_i 24), (0, .ref t), (1, z_i v)]) rfl ?_
    refine z_iinc hY eX6_bytesIn_27 1 rfl (ls' := [(3, z_i (24 + (-8))), (2, z_i 0), (0, .ref t), (1, z_i v)]) rfl ?_
    refine z_lq (ls' := [(3, z_i 16), (2, z_i 0), (0, .ref t), (1, z_i v)]) rfl ?_
    refine z_goto hY eX6_bytesIn_30 ?_
    refine z_iload hY eX6_bytesIn_5 0 rfl ?_
    refine z_iflt hY eX6_bytesIn_6 (by omega) (fun c => absurd c (by omega)) (fun _ => ?_)
    refine z_iload hY eX6_bytesIn_9 1 rfl ?_
    refine z_iload hY eX6_bytesIn_10 3 rfl ?_
    refine z_iload hY eX6_bytesIn_11 0 rfl ?_
    refine z_iushr hY eX6_bytesIn_12 (D := 65536) (by unfold z_sk; omega) ?_
    refine z_const hY eX6_bytesIn_13 ?_
    refine z_iand255 hY eX6_bytesIn_16 ?_
    refine z_top (b := v / 65536 % 256) (z_byt_65536 _) ?_
    refine z_ifeq hY eX6_bytesIn_17 (by omega) (fun c17 => ?_) (fun c17 => ?_)
    · refine z_const hY eX6_bytesIn_24 ?_
      refine z_iadd hY eX6_bytesIn_25 ?_
      refine z_top (b := 0) (by omega) ?_
      refine z_istore hY eX6_bytesIn_26 (ls' := [(2, z_i 0), (3, z_i 16), (0, .ref t), (1, z_i v)]) rfl ?_
      refine z_iinc hY eX6_bytesIn_27 1 rfl (ls' := [(3, z_i (16 + (-8))), (2, z_i 0), (0, .ref t), (1, z_i v)]) rfl ?_
      refine z_lq (ls' := [(3, z_i 8), (2, z_i 0), (0, .ref t), (1, z_i v)]) rfl ?_
      refine z_goto hY eX6_bytesIn_30 ?_
      refine z_iload hY eX6_bytesIn_5 0 rfl ?_
      refine z_iflt hY eX6_bytesIn_6 (by omega) (fun c => absurd c (by omega)) (fun _ => ?_)
      refine z_iload hY eX6_bytesIn_9 1 rfl ?_
      refine z_iload hY eX6_bytesIn_10 3 rfl ?_
      refine z_iload hY eX6_bytesIn_11 0 rfl ?_
      refine z_iushr hY eX6_bytesIn_12 (D := 256) (by unfold z_sk; omega) ?_
      refine z_const hY eX6_bytesIn_13 ?_
      refine z_iand255 hY eX6_bytesIn_16 ?_
      refine z_top (b := v / 256 % 256) (z_byt_256 _) ?_
      refine z_ifeq hY eX6_bytesIn_17 (by omega) (fun c17 => ?_) (fun c17 => ?_)
      · refine z_const hY eX6_bytesIn_24 ?_
        refine z_iadd hY eX6_bytesIn_25 ?_
        refine z_top (b := 0) (by omega) ?_
        refine z_istore hY eX6_bytesIn_26 (ls' := [(2, z_i 0), (3, z_i 8), (0, .ref t), (1, z_i v)]) rfl ?_
        refine z_iinc hY eX6_bytesIn_27 1 rfl (ls' := [(3, z_i (8 + (-8))), (2, z_i 0), (0, .ref t), (1, z_i v)]) rfl ?_
        refine z_lq (ls' := [(3, z_i 0), (2, z_i 0), (0, .ref t), (1, z_i v)]) rfl ?_
        refine z_goto hY eX6_bytesIn_30 ?_
        refine z_iload hY eX6_bytesIn_5 0 rfl ?_
        refine z_iflt hY eX6_bytesIn_6 (by omega) (fun c => absurd c (by omega)) (fun _ => ?_)
        refine z_iload hY eX6_bytesIn_9 1 rfl ?_
        refine z_iload hY eX6_bytesIn_10 3 rfl ?_
        refine z_iload hY eX6_bytesIn_11 0 rfl ?_
        refine z_iushr hY eX6_bytesIn_12 (D := 1) (by unfold z_sk; omega) ?_
        refine z_const hY eX6_bytesIn_13 ?_
        refine z_iand255 hY eX6_bytesIn_16 ?_
        refine z_top (b := v / 1 % 256) (z_byt_1 _) ?_
        refine z_ifeq hY eX6_bytesIn_17 (by omega) (fun c17 => ?_) (fun c17 => ?_)
        · refine z_const hY eX6_bytesIn_24 ?_
          refine z_iadd hY eX6_bytesIn_25 ?_
          refine z_top (b := 0) (by omega) ?_
          refine z_istore hY eX6_bytesIn_26 (ls' := [(2, z_i 0), (3, z_i 0), (0, .ref t), (1, z_i v)]) rfl ?_
          refine z_iinc hY eX6_bytesIn_27 1 rfl (ls' := [(3, z_i (0 + (-8))), (2, z_i 0), (0, .ref t), (1, z_i v)]) rfl ?_
          refine z_lq (ls' := [(3, z_i (-8)), (2, z_i 0), (0, .ref t), (1, z_i v)]) rfl ?_
          refine z_goto hY eX6_bytesIn_30 ?_
          refine z_iload hY eX6_bytesIn_5 0 rfl ?_
          refine z_iflt hY eX6_bytesIn_6 (by omega) (fun _ => ?_) (fun c => absurd c (by omega))
          refine z_iload hY eX6_bytesIn_33 1 rfl ?_
          exact z_ireturn hY eX6_bytesIn_34 rfl (by rw [hφ]; exact ⟨congrArg (fun q => some (z_i q)) (by unfold yBy; omega), rfl⟩) ⟨Nat.zero_le _, Nat.zero_le _⟩
        · refine z_const hY eX6_bytesIn_20 ?_
          refine z_goto hY eX6_bytesIn_21 ?_
          refine z_iadd hY eX6_bytesIn_25 ?_
          refine z_top (b := 1) (by omega) ?_
          refine z_istore hY eX6_bytesIn_26 (ls' := [(2, z_i 1), (3, z_i 0), (0, .ref t), (1, z_i v)]) rfl ?_
          refine z_iinc hY eX6_bytesIn_27 1 rfl (ls' := [(3, z_i (0 + (-8))), (2, z_i 1), (0, .ref t), (1, z_i v)]) rfl ?_
          refine z_lq (ls' := [(3, z_i (-8)), (2, z_i 1), (0, .ref t), (1, z_i v)]) rfl ?_
          refine z_goto hY eX6_bytesIn_30 ?_
          refine z_iload hY eX6_bytesIn_5 0 rfl ?_
          refine z_iflt hY eX6_bytesIn_6 (by omega) (fun _ => ?_) (fun c => absurd c (by omega))
          refine z_iload hY eX6_bytesIn_33 1 rfl ?_
          exact z_ireturn hY eX6_bytesIn_34 rfl (by rw [hφ]; exact ⟨congrArg (fun q => some (z_i q)) (by unfold yBy; omega), rfl⟩) ⟨Nat.zero_le _, Nat.zero_le _⟩
      · refine z_const hY eX6_bytesIn_20 ?_
        refine z_goto hY eX6_bytesIn_21 ?_
        refine z_iadd hY eX6_bytesIn_25 ?_
        refine z_top (b := 1) (by omega) ?_
        refine z_istore hY eX6_bytesIn_26 (ls' := [(2, z_i 1), (3, z_i 8), (0, .ref t), (1, z_i v)]) rfl ?_
        refine z_iinc hY eX6_bytesIn_27 1 rfl (ls' := [(3, z_i (8 + (-8))), (2, z_i 1), (0, .ref t), (1, z_i v)]) rfl ?_
        refine z_lq (ls' := [(3, z_i 0), (2, z_i 1), (0, .ref t), (1, z_i v)]) rfl ?_
        refine z_goto hY eX6_bytesIn_30 ?_
        refine z_iload hY eX6_bytesIn_5 0 rfl ?_
        refine z_iflt hY eX6_bytesIn_6 (by omega) (fun c => absurd c (by omega)) (fun _ => ?_)
        refine z_iload hY eX6_bytesIn_9 1 rfl ?_
        refine z_iload hY eX6_bytesIn_10 3 rfl ?_
        refine z_iload hY eX6_bytesIn_11 0 rfl ?_
        refine z_iushr hY eX6_bytesIn_12 (D := 1) (by unfold z_sk; omega) ?_
        refine z_const hY eX6_bytesIn_13 ?_
        refine z_iand255 hY eX6_bytesIn_16 ?_
        refine z_top (b := v / 1 % 256) (z_byt_1 _) ?_
        refine z_ifeq hY eX6_bytesIn_17 (by omega) (fun c17 => ?_) (fun c17 => ?_)
        · refine z_const hY eX6_bytesIn_24 ?_
          refine z_iadd hY eX6_bytesIn_25 ?_
          refine z_top (b := 1) (by omega) ?_
          refine z_istore hY eX6_bytesIn_26 (ls' := [(2, z_i 1), (3, z_i 0), (0, .ref t), (1, z_i v)]) rfl ?_
          refine z_iinc hY eX6_bytesIn_27 1 rfl (ls' := [(3, z_i (0 + (-8))), (2, z_i 1), (0, .ref t), (1, z_i v)]) rfl ?_
          refine z_lq (ls' := [(3, z_i (-8)), (2, z_i 1), (0, .ref t), (1, z_i v)]) rfl ?_
          refine z_goto hY eX6_bytesIn_30 ?_
          refine z_iload hY eX6_bytesIn_5 0 rfl ?_
          refine z_iflt hY eX6_bytesIn_6 (by omega) (fun _ => ?_) (fun c => absurd c (by omega))
          refine z_iload hY eX6_bytesIn_33 1 rfl ?_
          exact z_ireturn hY eX6_bytesIn_34 rfl (by rw [hφ]; exact ⟨congrArg (fun q => some (z_i q)) (by unfold yBy; omega), rfl⟩) ⟨Nat.zero_le _, Nat.zero_le _⟩
        · refine z_const hY eX6_bytesIn_20 ?_
          refine z_goto hY eX6_bytesIn_21 ?_
          refine z_iadd hY eX6_bytesIn_25 ?_
          refine z_top (b := 2) (by omega) ?_
          refine z_istore hY eX6_bytesIn_26 (ls' := [(2, z_i 2), (3, z_i 0), (0, .ref t), (1, z_i v)]) rfl ?_
          refine z_iinc hY eX6_bytesIn_27 1 rfl (ls' := [(3, z_i (0 + (-8))), (2, z_i 2), (0, .ref t), (1, z_i v)]) rfl ?_
          refine z_lq (ls' := [(3, z_i (-8)), (2, z_i 2), (0, .ref t), (1, z_i v)]) rfl ?_
          refine z_goto hY eX6_bytesIn_30 ?_
          refine z_iload hY eX6_bytesIn_5 0 rfl ?_
          refine z_iflt hY eX6_bytesIn_6 (by omega) (fun _ => ?_) (fun c => absurd c (by omega))
          refine z_iload hY eX6_bytesIn_33 1 rfl ?_
          exact z_ireturn hY eX6_bytesIn_34 rfl (by rw [hφ]; exact ⟨congrArg (fun q => some (z_i q)) (by unfold yBy; omega), rfl⟩) ⟨Nat.zero_le _, Nat.zero_le _⟩
    · refine z_const hY eX6_bytesIn_20 ?_
      refine z_goto hY eX6_bytesIn_21 ?_
      refine z_iadd hY eX6_bytesIn_25 ?_
      refine z_top (b := 1) (by omega) ?_
      refine z_istore hY eX6_bytesIn_26 (ls' := [(2, z_i 1), (3, z_i 16), (0, .ref t), (1, z_i v)]) rfl ?_
      refine z_iinc hY eX6_bytesIn_27 1 rfl (ls' := [(3, z_i (16 + (-8))), (2, z_i 1), (0, .ref t), (1, z_i v)]) rfl ?_
      refine z_lq (ls' := [(3, z_i 8), (2, z_i 1), (0, .ref t), (1, z_i v)]) rfl ?_
      refine z_goto hY eX6_bytesIn_30 ?_
      refine z_iload hY eX6_bytesIn_5 0 rfl ?_
      refine z_iflt hY eX6_bytesIn_6 (by omega) (fun c => absurd c (by omega)) (fun _ => ?_)
      refine z_iload hY eX6_bytesIn_9 1 rfl ?_
      refine z_iload hY eX6_bytesIn_10 3 rfl ?_
      refine z_iload hY eX6_bytesIn_11 0 rfl ?_
      refine z_iushr hY eX6_bytesIn_12 (D := 256) (by unfold z_sk; omega) ?_
      refine z_const hY eX6_bytesIn_13 ?_
      refine z_iand255 hY eX6_bytesIn_16 ?_
      refine z_top (b := v / 256 % 256) (z_byt_256 _) ?_
      refine z_ifeq hY eX6_bytesIn_17 (by omega) (fun c17 => ?_) (fun c17 => ?_)
      · refine z_const hY eX6_bytesIn_24 ?_
        refine z_iadd hY eX6_bytesIn_25 ?_
        refine z_top (b := 1) (by omega) ?_
        refine z_istore hY eX6_bytesIn_26 (ls' := [(2, z_i 1), (3, z_i 8), (0, .ref t), (1, z_i v)]) rfl ?_
        refine z_iinc hY eX6_bytesIn_27 1 rfl (ls' := [(3, z_i (8 + (-8))), (2, z_i 1), (0, .ref t), (1, z_i v)]) rfl ?_
        refine z_lq (ls' := [(3, z_i 0), (2, z_i 1), (0, .ref t), (1, z_i v)]) rfl ?_
        refine z_goto hY eX6_bytesIn_30 ?_
        refine z_iload hY eX6_bytesIn_5 0 rfl ?_
        refine z_iflt hY eX6_bytesIn_6 (by omega) (fun c => absurd c (by omega)) (fun _ => ?_)
        refine z_iload hY eX6_bytesIn_9 1 rfl ?_
        refine z_iload hY eX6_bytesIn_10 3 rfl ?_
        refine z_iload hY eX6_bytesIn_11 0 rfl ?_
        refine z_iushr hY eX6_bytesIn_12 (D := 1) (by unfold z_sk; omega) ?_
        refine z_const hY eX6_bytesIn_13 ?_
        refine z_iand255 hY eX6_bytesIn_16 ?_
        refine z_top (b := v / 1 % 256) (z_byt_1 _) ?_
        refine z_ifeq hY eX6_bytesIn_17 (by omega) (fun c17 => ?_) (fun c17 => ?_)
        · refine z_const hY eX6_bytesIn_24 ?_
          refine z_iadd hY eX6_bytesIn_25 ?_
          refine z_top (b := 1) (by omega) ?_
          refine z_istore hY eX6_bytesIn_26 (ls' := [(2, z_i 1), (3, z_i 0), (0, .ref t), (1, z_i v)]) rfl ?_
          refine z_iinc hY eX6_bytesIn_27 1 rfl (ls' := [(3, z_i (0 + (-8))), (2, z_i 1), (0, .ref t), (1, z_i v)]) rfl ?_
          refine z_lq (ls' := [(3, z_i (-8)), (2, z_i 1), (0, .ref t), (1, z_i v)]) rfl ?_
          refine z_goto hY eX6_bytesIn_30 ?_
          refine z_iload hY eX6_bytesIn_5 0 rfl ?_
          refine z_iflt hY eX6_bytesIn_6 (by omega) (fun _ => ?_) (fun c => absurd c (by omega))
          refine z_iload hY eX6_bytesIn_33 1 rfl ?_
          exact z_ireturn hY eX6_bytesIn_34 rfl (by rw [hφ]; exact ⟨congrArg (fun q => some (z_i q)) (by unfold yBy; omega), rfl⟩) ⟨Nat.zero_le _, Nat.zero_le _⟩
        · refine z_const hY eX6_bytesIn_20 ?_
          refine z_goto hY eX6_bytesIn_21 ?_
          refine z_iadd hY eX6_bytesIn_25 ?_
          refine z_top (b := 2) (by omega) ?_
          refine z_istore hY eX6_bytesIn_26 (ls' := [(2, z_i 2), (3, z_i 0), (0, .ref t), (1, z_i v)]) rfl ?_
          refine z_iinc hY eX6_bytesIn_27 1 rfl (ls' := [(3, z_i (0 + (-8))), (2, z_i 2), (0, .ref t), (1, z_i v)]) rfl ?_
          refine z_lq (ls' := [(3, z_i (-8)), (2, z_i 2), (0, .ref t), (1, z_i v)]) rfl ?_
          refine z_goto hY eX6_bytesIn_30 ?_
          refine z_iload hY eX6_bytesIn_5 0 rfl ?_
          refine z_iflt hY eX6_bytesIn_6 (by omega) (fun _ => ?_) (fun c => absurd c (by omega))
          refine z_iload hY eX6_bytesIn_33 1 rfl ?_
          exact z_ireturn hY eX6_bytesIn_34 rfl (by rw [hφ]; exact ⟨congrArg (fun q => some (z_i q)) (by unfold yBy; omega), rfl⟩) ⟨Nat.zero_le _, Nat.zero_le _⟩
      · refine z_const hY eX6_bytesIn_20 ?_
        refine z_goto hY eX6_bytesIn_21 ?_
        refine z_iadd hY eX6_bytesIn_25 ?_
        refine z_top (b := 2) (by omega) ?_
        refine z_istore hY eX6_bytesIn_26 (ls' := [(2, z_i 2), (3, z_i 8), (0, .ref t), (1, z_i v)]) rfl ?_
        refine z_iinc hY eX6_bytesIn_27 1 rfl (ls' := [(3, z_i (8 + (-8))), (2, z_i 2), (0, .ref t), (1, z_i v)]) rfl ?_
        refine z_lq (ls' := [(3, z_i 0), (2, z_i 2), (0, .ref t), (1, z_i v)]) rfl ?_
        refine z_goto hY eX6_bytesIn_30 ?_
        refine z_iload hY eX6_bytesIn_5 0 rfl ?_
        refine z_iflt hY eX6_bytesIn_6 (by omega) (fun c => absurd c (by omega)) (fun _ => ?_)
        refine z_iload hY eX6_bytesIn_9 1 rfl ?_
        refine z_iload hY eX6_bytesIn_10 3 rfl ?_
        refine z_iload hY eX6_bytesIn_11 0 rfl ?_
        refine z_iushr hY eX6_bytesIn_12 (D := 1) (by unfold z_sk; omega) ?_
        refine z_const hY eX6_bytesIn_13 ?_
        refine z_iand255 hY eX6_bytesIn_16 ?_
        refine z_top (b := v / 1 % 256) (z_byt_1 _) ?_
        refine z_ifeq hY eX6_bytesIn_17 (by omega) (fun c17 => ?_) (fun c17 => ?_)
        · refine z_const hY eX6_bytesIn_24 ?_
          refine z_iadd hY eX6_bytesIn_25 ?_
          refine z_top (b := 2) (by omega) ?_
          refine z_istore hY eX6_bytesIn_26 (ls' := [(2, z_i 2), (3, z_i 0), (0, .ref t), (1, z_i v)]) rfl ?_
          refine z_iinc hY eX6_bytesIn_27 1 rfl (ls' := [(3, z_i (0 + (-8))), (2, z_i 2), (0, .ref t), (1, z_i v)]) rfl ?_
          refine z_lq (ls' := [(3, z_i (-8)), (2, z_i 2), (0, .ref t), (1, z_i v)]) rfl ?_
          refine z_goto hY eX6_bytesIn_30 ?_
          refine z_iload hY eX6_bytesIn_5 0 rfl ?_
          refine z_iflt hY eX6_bytesIn_6 (by omega) (fun _ => ?_) (fun c => absurd c (by omega))
          refine z_iload hY eX6_bytesIn_33 1 rfl ?_
          exact z_ireturn hY eX6_bytesIn_34 rfl (by rw [hφ]; exact ⟨congrArg (fun q => some (z_i q)) (by unfold yBy; omega), rfl⟩) ⟨Nat.zero_le _, Nat.zero_le _⟩
        · refine z_const hY eX6_bytesIn_20 ?_
          refine z_goto hY eX6_bytesIn_21 ?_
          refine z_iadd hY eX6_bytesIn_25 ?_
          refine z_top (b := 3) (by omega) ?_
          refine z_istore hY eX6_bytesIn_26 (ls' := [(2, z_i 3), (3, z_i 0), (0, .ref t), (1, z_i v)]) rfl ?_
          refine z_iinc hY eX6_bytesIn_27 1 rfl (ls' := [(3, z_i (0 + (-8))), (2, z_i 3), (0, .ref t), (1, z_i v)]) rfl ?_
          refine z_lq (ls' := [(3, z_i (-8)), (2, z_i 3), (0, .ref t), (1, z_i v)]) rfl ?_
          refine z_goto hY eX6_bytesIn_30 ?_
          refine z_iload hY eX6_bytesIn_5 0 rfl ?_
          refine z_iflt hY eX6_bytesIn_6 (by omega) (fun _ => ?_) (fun c => absurd c (by omega))
          refine z_iload hY eX6_bytesIn_33 1 rfl ?_
          exact z_ireturn hY eX6_bytesIn_34 rfl (by rw [hφ]; exact ⟨congrArg (fun q => some (z_i q)) (by unfold yBy; omega), rfl⟩) ⟨Nat.zero_le _, Nat.zero_le _⟩
  · refine z_const hY eX6_bytesIn_20 ?_
    refine z_goto hY eX6_bytesIn_21 ?_
    refine z_iadd hY eX6_bytesIn_25 ?_
    refine z_top (b := 1) (by omega) ?_
    refine z_istore hY eX6_bytesIn_26 (ls' := [(2, z_i 1), (3, z_i 24), (0, .ref t), (1, z_i v)]) rfl ?_
    refine z_iinc hY eX6_bytesIn_27 1 rfl (ls' := [(3, z_i (24 + (-8))), (2, z_i 1), (0, .ref t), (1, z_i v)]) rfl ?_
    refine z_lq (ls' := [(3, z_i 16), (2, z_i 1), (0, .ref t), (1, z_i v)]) rfl ?_
    refine z_goto hY eX6_bytesIn_30 ?_
    refine z_iload hY eX6_bytesIn_5 0 rfl ?_
    refine z_iflt hY eX6_bytesIn_6 (by omega) (fun c => absurd c (by omega)) (fun _ => ?_)
    refine z_iload hY eX6_bytesIn_9 1 rfl ?_
    refine z_iload hY eX6_bytesIn_10 3 rfl ?_
    refine z_iload hY eX6_bytesIn_11 0 rfl ?_
    refine z_iushr hY eX6_bytesIn_12 (D := 65536) (by unfold z_sk; omega) ?_
    refine z_const hY eX6_bytesIn_13 ?_
    refine z_iand255 hY eX6_bytesIn_16 ?_
    refine z_top (b := v / 65536 % 256) (z_byt_65536 _) ?_
    refine z_ifeq hY eX6_bytesIn_17 (by omega) (fun c17 => ?_) (fun c17 => ?_)
    · refine z_const hY eX6_bytesIn_24 ?_
      refine z_iadd hY eX6_bytesIn_25 ?_
      refine z_top (b := 1) (by omega) ?_
      refine z_istore hY eX6_bytesIn_26 (ls' := [(2, z_i 1), (3, z_i 16), (0, .ref t), (1, z_i v)]) rfl ?_
      refine z_iinc hY eX6_bytesIn_27 1 rfl (ls' := [(3, z_i (16 + (-8))), (2, z_i 1), (0, .ref t), (1, z_i v)]) rfl ?_
      refine z_lq (ls' := [(3, z_i 8), (2, z_i 1), (0, .ref t), (1, z_i v)]) rfl ?_
      refine z_goto hY eX6_bytesIn_30 ?_
      refine z_iload hY eX6_bytesIn_5 0 rfl ?_
      refine z_iflt hY eX6_bytesIn_6 (by omega) (fun c => absurd c (by omega)) (fun _ => ?_)
      refine z_iload hY eX6_bytesIn_9 1 rfl ?_
      refine z_iload hY eX6_bytesIn_10 3 rfl ?_
      refine z_iload hY eX6_bytesIn_11 0 rfl ?_
      refine z_iushr hY eX6_bytesIn_12 (D := 256) (by unfold z_sk; omega) ?_
      refine z_const hY eX6_bytesIn_13 ?_
      refine z_iand255 hY eX6_bytesIn_16 ?_
      refine z_top (b := v / 256 % 256) (z_byt_256 _) ?_
      refine z_ifeq hY eX6_bytesIn_17 (by omega) (fun c17 => ?_) (fun c17 => ?_)
      · refine z_const hY eX6_bytesIn_24 ?_
        refine z_iadd hY eX6_bytesIn_25 ?_
        refine z_top (b := 1) (by omega) ?_
        refine z_istore hY eX6_bytesIn_26 (ls' := [(2, z_i 1), (3, z_i 8), (0, .ref t), (1, z_i v)]) rfl ?_
        refine z_iinc hY eX6_bytesIn_27 1 rfl (ls' := [(3, z_i (8 + (-8))), (2, z_i 1), (0, .ref t), (1, z_i v)]) rfl ?_
        refine z_lq (ls' := [(3, z_i 0), (2, z_i 1), (0, .ref t), (1, z_i v)]) rfl ?_
        refine z_goto hY eX6_bytesIn_30 ?_
        refine z_iload hY eX6_bytesIn_5 0 rfl ?_
        refine z_iflt hY eX6_bytesIn_6 (by omega) (fun c => absurd c (by omega)) (fun _ => ?_)
        refine z_iload hY eX6_bytesIn_9 1 rfl ?_
        refine z_iload hY eX6_bytesIn_10 3 rfl ?_
        refine z_iload hY eX6_bytesIn_11 0 rfl ?_
        refine z_iushr hY eX6_bytesIn_12 (D := 1) (by unfold z_sk; omega) ?_
        refine z_const hY eX6_bytesIn_13 ?_
        refine z_iand255 hY eX6_bytesIn_16 ?_
        refine z_top (b := v / 1 % 256) (z_byt_1 _) ?_
        refine z_ifeq hY eX6_bytesIn_17 (by omega) (fun c17 => ?_) (fun c17 => ?_)
        · refine z_const hY eX6_bytesIn_24 ?_
          refine z_iadd hY eX6_bytesIn_25 ?_
          refine z_top (b := 1) (by omega) ?_
          refine z_istore hY eX6_bytesIn_26 (ls' := [(2, z_i 1), (3, z_i 0), (0, .ref t), (1, z_i v)]) rfl ?_
          refine z_iinc hY eX6_bytesIn_27 1 rfl (ls' := [(3, z_i (0 + (-8))), (2, z_i 1), (0, .ref t), (1, z_i v)]) rfl ?_
          refine z_lq (ls' := [(3, z_i (-8)), (2, z_i 1), (0, .ref t), (1, z_i v)]) rfl ?_
          refine z_goto hY eX6_bytesIn_30 ?_
          refine z_iload hY eX6_bytesIn_5 0 rfl ?_
          refine z_iflt hY eX6_bytesIn_6 (by omega) (fun _ => ?_) (fun c => absurd c (by omega))
          refine z_iload hY eX6_bytesIn_33 1 rfl ?_
          exact z_ireturn hY eX6_bytesIn_34 rfl (by rw [hφ]; exact ⟨congrArg (fun q => some (z_i q)) (by unfold yBy; omega), rfl⟩) ⟨Nat.zero_le _, Nat.zero_le _⟩
        · refine z_const hY eX6_bytesIn_20 ?_
          refine z_goto hY eX6_bytesIn_21 ?_
          refine z_iadd hY eX6_bytesIn_25 ?_
          refine z_top (b := 2) (by omega) ?_
          refine z_istore hY eX6_bytesIn_26 (ls' := [(2, z_i 2), (3, z_i 0), (0, .ref t), (1, z_i v)]) rfl ?_
          refine z_iinc hY eX6_bytesIn_27 1 rfl (ls' := [(3, z_i (0 + (-8))), (2, z_i 2), (0, .ref t), (1, z_i v)]) rfl ?_
          refine z_lq (ls' := [(3, z_i (-8)), (2, z_i 2), (0, .ref t), (1, z_i v)]) rfl ?_
          refine z_goto hY eX6_bytesIn_30 ?_
          refine z_iload hY eX6_bytesIn_5 0 rfl ?_
          refine z_iflt hY eX6_bytesIn_6 (by omega) (fun _ => ?_) (fun c => absurd c (by omega))
          refine z_iload hY eX6_bytesIn_33 1 rfl ?_
          exact z_ireturn hY eX6_bytesIn_34 rfl (by rw [hφ]; exact ⟨congrArg (fun q => some (z_i q)) (by unfold yBy; omega), rfl⟩) ⟨Nat.zero_le _, Nat.zero_le _⟩
      · refine z_const hY eX6_bytesIn_20 ?_
        refine z_goto hY eX6_bytesIn_21 ?_
        refine z_iadd hY eX6_bytesIn_25 ?_
        refine z_top (b := 2) (by omega) ?_
        refine z_istore hY eX6_bytesIn_26 (ls' := [(2, z_i 2), (3, z_i 8), (0, .ref t), (1, z_i v)]) rfl ?_
        refine z_iinc hY eX6_bytesIn_27 1 rfl (ls' := [(3, z_i (8 + (-8))), (2, z_i 2), (0, .ref t), (1, z_i v)]) rfl ?_
        refine z_lq (ls' := [(3, z_i 0), (2, z_i 2), (0, .ref t), (1, z_i v)]) rfl ?_
        refine z_goto hY eX6_bytesIn_30 ?_
        refine z_iload hY eX6_bytesIn_5 0 rfl ?_
        refine z_iflt hY eX6_bytesIn_6 (by omega) (fun c => absurd c (by omega)) (fun _ => ?_)
        refine z_iload hY eX6_bytesIn_9 1 rfl ?_
        refine z_iload hY eX6_bytesIn_10 3 rfl ?_
        refine z_iload hY eX6_bytesIn_11 0 rfl ?_
        refine z_iushr hY eX6_bytesIn_12 (D := 1) (by unfold z_sk; omega) ?_
        refine z_const hY eX6_bytesIn_13 ?_
        refine z_iand255 hY eX6_bytesIn_16 ?_
        refine z_top (b := v / 1 % 256) (z_byt_1 _) ?_
        refine z_ifeq hY eX6_bytesIn_17 (by omega) (fun c17 => ?_) (fun c17 => ?_)
        · refine z_const hY eX6_bytesIn_24 ?_
          refine z_iadd hY eX6_bytesIn_25 ?_
          refine z_top (b := 2) (by omega) ?_
          refine z_istore hY eX6_bytesIn_26 (ls' := [(2, z_i 2), (3, z_i 0), (0, .ref t), (1, z_i v)]) rfl ?_
          refine z_iinc hY eX6_bytesIn_27 1 rfl (ls' := [(3, z_i (0 + (-8))), (2, z_i 2), (0, .ref t), (1, z_i v)]) rfl ?_
          refine z_lq (ls' := [(3, z_i (-8)), (2, z_i 2), (0, .ref t), (1, z_i v)]) rfl ?_
          refine z_goto hY eX6_bytesIn_30 ?_
          refine z_iload hY eX6_bytesIn_5 0 rfl ?_
          refine z_iflt hY eX6_bytesIn_6 (by omega) (fun _ => ?_) (fun c => absurd c (by omega))
          refine z_iload hY eX6_bytesIn_33 1 rfl ?_
          exact z_ireturn hY eX6_bytesIn_34 rfl (by rw [hφ]; exact ⟨congrArg (fun q => some (z_i q)) (by unfold yBy; omega), rfl⟩) ⟨Nat.zero_le _, Nat.zero_le _⟩
        · refine z_const hY eX6_bytesIn_20 ?_
          refine z_goto hY eX6_bytesIn_21 ?_
          refine z_iadd hY eX6_bytesIn_25 ?_
          refine z_top (b := 3) (by omega) ?_
          refine z_istore hY eX6_bytesIn_26 (ls' := [(2, z_i 3), (3, z_i 0), (0, .ref t), (1, z_i v)]) rfl ?_
          refine z_iinc hY eX6_bytesIn_27 1 rfl (ls' := [(3, z_i (0 + (-8))), (2, z_i 3), (0, .ref t), (1, z_i v)]) rfl ?_
          refine z_lq (ls' := [(3, z_i (-8)), (2, z_i 3), (0, .ref t), (1, z_i v)]) rfl ?_
          refine z_goto hY eX6_bytesIn_30 ?_
          refine z_iload hY eX6_bytesIn_5 0 rfl ?_
          refine z_iflt hY eX6_bytesIn_6 (by omega) (fun _ => ?_) (fun c => absurd c (by omega))
          refine z_iload hY eX6_bytesIn_33 1 rfl ?_
          exact z_ireturn hY eX6_bytesIn_34 rfl (by rw [hφ]; exact ⟨congrArg (fun q => some (z_i q)) (by unfold yBy; omega), rfl⟩) ⟨Nat.zero_le _, Nat.zero_le _⟩
    · refine z_const hY eX6_bytesIn_20 ?_
      refine z_goto hY eX6_bytesIn_21 ?_
      refine z_iadd hY eX6_bytesIn_25 ?_
      refine z_top (b := 2) (by omega) ?_
      refine z_istore hY eX6_bytesIn_26 (ls' := [(2, z_i 2), (3, z_i 16), (0, .ref t), (1, z_i v)]) rfl ?_
      refine z_iinc hY eX6_bytesIn_27 1 rfl (ls' := [(3, z_i (16 + (-8))), (2, z_i 2), (0, .ref t), (1, z_i v)]) rfl ?_
      refine z_lq (ls' := [(3, z_i 8), (2, z_i 2), (0, .ref t), (1, z_i v)]) rfl ?_
      refine z_goto hY eX6_bytesIn_30 ?_
      refine z_iload hY eX6_bytesIn_5 0 rfl ?_
      refine z_iflt hY eX6_bytesIn_6 (by omega) (fun c => absurd c (by omega)) (fun _ => ?_)
      refine z_iload hY eX6_bytesIn_9 1 rfl ?_
      refine z_iload hY eX6_bytesIn_10 3 rfl ?_
      refine z_iload hY eX6_bytesIn_11 0 rfl ?_
      refine z_iushr hY eX6_bytesIn_12 (D := 256) (by unfold z_sk; omega) ?_
      refine z_const hY eX6_bytesIn_13 ?_
      refine z_iand255 hY eX6_bytesIn_16 ?_
      refine z_top (b := v / 256 % 256) (z_byt_256 _) ?_
      refine z_ifeq hY eX6_bytesIn_17 (by omega) (fun c17 => ?_) (fun c17 => ?_)
      · refine z_const hY eX6_bytesIn_24 ?_
        refine z_iadd hY eX6_bytesIn_25 ?_
        refine z_top (b := 2) (by omega) ?_
        refine z_istore hY eX6_bytesIn_26 (ls' := [(2, z_i 2), (3, z_i 8), (0, .ref t), (1, z_i v)]) rfl ?_
        refine z_iinc hY eX6_bytesIn_27 1 rfl (ls' := [(3, z_i (8 + (-8))), (2, z_i 2), (0, .ref t), (1, z_i v)]) rfl ?_
        refine z_lq (ls' := [(3, z_i 0), (2, z_i 2), (0, .ref t), (1, z_i v)]) rfl ?_
        refine z_goto hY eX6_bytesIn_30 ?_
        refine z_iload hY eX6_bytesIn_5 0 rfl ?_
        refine z_iflt hY eX6_bytesIn_6 (by omega) (fun c => absurd c (by omega)) (fun _ => ?_)
        refine z_iload hY eX6_bytesIn_9 1 rfl ?_
        refine z_iload hY eX6_bytesIn_10 3 rfl ?_
        refine z_iload hY eX6_bytesIn_11 0 rfl ?_
        refine z_iushr hY eX6_bytesIn_12 (D := 1) (by unfold z_sk; omega) ?_
        refine z_const hY eX6_bytesIn_13 ?_
        refine z_iand255 hY eX6_bytesIn_16 ?_
        refine z_top (b := v / 1 % 256) (z_byt_1 _) ?_
        refine z_ifeq hY eX6_bytesIn_17 (by omega) (fun c17 => ?_) (fun c17 => ?_)
        · refine z_const hY eX6_bytesIn_24 ?_
          refine z_iadd hY eX6_bytesIn_25 ?_
          refine z_top (b := 2) (by omega) ?_
          refine z_istore hY eX6_bytesIn_26 (ls' := [(2, z_i 2), (3, z_i 0), (0, .ref t), (1, z_i v)]) rfl ?_
          refine z_iinc hY eX6_bytesIn_27 1 rfl (ls' := [(3, z_i (0 + (-8))), (2, z_i 2), (0, .ref t), (1, z_i v)]) rfl ?_
          refine z_lq (ls' := [(3, z_i (-8)), (2, z_i 2), (0, .ref t), (1, z_i v)]) rfl ?_
          refine z_goto hY eX6_bytesIn_30 ?_
          refine z_iload hY eX6_bytesIn_5 0 rfl ?_
          refine z_iflt hY eX6_bytesIn_6 (by omega) (fun _ => ?_) (fun c => absurd c (by omega))
          refine z_iload hY eX6_bytesIn_33 1 rfl ?_
          exact z_ireturn hY eX6_bytesIn_34 rfl (by rw [hφ]; exact ⟨congrArg (fun q => some (z_i q)) (by unfold yBy; omega), rfl⟩) ⟨Nat.zero_le _, Nat.zero_le _⟩
        · refine z_const hY eX6_bytesIn_20 ?_
          refine z_goto hY eX6_bytesIn_21 ?_
          refine z_iadd hY eX6_bytesIn_25 ?_
          refine z_top (b := 3) (by omega) ?_
          refine z_istore hY eX6_bytesIn_26 (ls' := [(2, z_i 3), (3, z_i 0), (0, .ref t), (1, z_i v)]) rfl ?_
          refine z_iinc hY eX6_bytesIn_27 1 rfl (ls' := [(3, z_i (0 + (-8))), (2, z_i 3), (0, .ref t), (1, z_i v)]) rfl ?_
          refine z_lq (ls' := [(3, z_i (-8)), (2, z_i 3), (0, .ref t), (1, z_i v)]) rfl ?_
          refine z_goto hY eX6_bytesIn_30 ?_
          refine z_iload hY eX6_bytesIn_5 0 rfl ?_
          refine z_iflt hY eX6_bytesIn_6 (by omega) (fun _ => ?_) (fun c => absurd c (by omega))
          refine z_iload hY eX6_bytesIn_33 1 rfl ?_
          exact z_ireturn hY eX6_bytesIn_34 rfl (by rw [hφ]; exact ⟨congrArg (fun q => some (z_i q)) (by unfold yBy; omega), rfl⟩) ⟨Nat.zero_le _, Nat.zero_le _⟩
      · refine z_const hY eX6_bytesIn_20 ?_
        refine z_goto hY eX6_bytesIn_21 ?_
        refine z_iadd hY eX6_bytesIn_25 ?_
        refine z_top (b := 3) (by omega) ?_
        refine z_istore hY eX6_bytesIn_26 (ls' := [(2, z_i 3), (3, z_i 8), (0, .ref t), (1, z_i v)]) rfl ?_
        refine z_iinc hY eX6_bytesIn_27 1 rfl (ls' := [(3, z_i (8 + (-8))), (2, z_i 3), (0, .ref t), (1, z_i v)]) rfl ?_
        refine z_lq (ls' := [(3, z_i 0), (2, z_i 3), (0, .ref t), (1, z_i v)]) rfl ?_
        refine z_goto hY eX6_bytesIn_30 ?_
        refine z_iload hY eX6_bytesIn_5 0 rfl ?_
        refine z_iflt hY eX6_bytesIn_6 (by omega) (fun c => absurd c (by omega)) (fun _ => ?_)
        refine z_iload hY eX6_bytesIn_9 1 rfl ?_
        refine z_iload hY eX6_bytesIn_10 3 rfl ?_
        refine z_iload hY eX6_bytesIn_11 0 rfl ?_
        refine z_iushr hY eX6_bytesIn_12 (D := 1) (by unfold z_sk; omega) ?_
        refine z_const hY eX6_bytesIn_13 ?_
        refine z_iand255 hY eX6_bytesIn_16 ?_
        refine z_top (b := v / 1 % 256) (z_byt_1 _) ?_
        refine z_ifeq hY eX6_bytesIn_17 (by omega) (fun c17 => ?_) (fun c17 => ?_)
        · refine z_const hY eX6_bytesIn_24 ?_
          refine z_iadd hY eX6_bytesIn_25 ?_
          refine z_top (b := 3) (by omega) ?_
          refine z_istore hY eX6_bytesIn_26 (ls' := [(2, z_i 3), (3, z_i 0), (0, .ref t), (1, z_i v)]) rfl ?_
          refine z_iinc hY eX6_bytesIn_27 1 rfl (ls' := [(3, z_i (0 + (-8))), (2, z_i 3), (0, .ref t), (1, z_i v)]) rfl ?_
          refine z_lq (ls' := [(3, z_i (-8)), (2, z_i 3), (0, .ref t), (1, z_i v)]) rfl ?_
          refine z_goto hY eX6_bytesIn_30 ?_
          refine z_iload hY eX6_bytesIn_5 0 rfl ?_
          refine z_iflt hY eX6_bytesIn_6 (by omega) (fun _ => ?_) (fun c => absurd c (by omega))
          refine z_iload hY eX6_bytesIn_33 1 rfl ?_
          exact z_ireturn hY eX6_bytesIn_34 rfl (by rw [hφ]; exact ⟨congrArg (fun q => some (z_i q)) (by unfold yBy; omega), rfl⟩) ⟨Nat.zero_le _, Nat.zero_le _⟩
        · refine z_const hY eX6_bytesIn_20 ?_
          refine z_goto hY eX6_bytesIn_21 ?_
          refine z_iadd hY eX6_bytesIn_25 ?_
          refine z_top (b := 4) (by omega) ?_
          refine z_istore hY eX6_bytesIn_26 (ls' := [(2, z_i 4), (3, z_i 0), (0, .ref t), (1, z_i v)]) rfl ?_
          refine z_iinc hY eX6_bytesIn_27 1 rfl (ls' := [(3, z_i (0 + (-8))), (2, z_i 4), (0, .ref t), (1, z_i v)]) rfl ?_
          refine z_lq (ls' := [(3, z_i (-8)), (2, z_i 4), (0, .ref t), (1, z_i v)]) rfl ?_
          refine z_goto hY eX6_bytesIn_30 ?_
          refine z_iload hY eX6_bytesIn_5 0 rfl ?_
          refine z_iflt hY eX6_bytesIn_6 (by omega) (fun _ => ?_) (fun c => absurd c (by omega))
          refine z_iload hY eX6_bytesIn_33 1 rfl ?_
          exact z_ireturn hY eX6_bytesIn_34 rfl (by rw [hφ]; exact ⟨congrArg (fun q => some (z_i q)) (by unfold yBy; omega), rfl⟩) ⟨Nat.zero_le _, Nat.zero_le _⟩
theorem e_putScore {G : z_G} {D : Nat} {B : Nat → Int → Nat} {κ : c_K} {h : z_H} (hG : z_OK G) (hJ : cJ B κ) (hB : cB κ) (hV : cV κ) {e k v : Int} (he : -1 ≤ e ∧ e < κ 24 0 0) (hk : 0 ≤ k ∧ k < 4) : z_T G mX0_putScore [.ref (B 20 e), z_i k, z_i v] (cH D B κ h) 0 0 0 (fun v' h' => v' = none ∧ h' = cH D B (k_u κ 30 e k v) h) (z_no) := by
  obtain ⟨hn, hsz, hrw, hcu, htl, hth⟩ := id hV
  have hs0 := hsz 0 (by omega) (by omega)
  have hs1 := hsz 1 (by omega) (by omega)
  have hs2 := hsz 2 (by omega) (by omega)
  have hs3 := hsz 3 (by omega) (by omega)
  refine z_T_of hG pX0_putScore (Nat.le_of_ble_eq_true rfl) (ls0 := [(0, .ref (B 20 e)), (1, z_i k), (2, z_i v)]) rfl fun Y hY hg hmc hms hφ hψ => ?_
  subst hg
  refine z_iload hY eX0_putScore_0 1 rfl ?_
  refine z_iflt hY eX0_putScore_1 (by omega) (fun c => by exfalso; omega) (fun c1 => ?_)
  refine z_iload hY eX0_putScore_4 1 rfl ?_
  refine z_const hY eX0_putScore_5 ?_
  refine z_icmpge hY eX0_putScore_6 (by omega) (fun c => by exfalso; omega) (fun c6 => ?_)
  refine z_aload hY eX0_putScore_9 0 rfl ?_
  refine c_gf hY hJ eX0_putScore_10 (t := 20) (i := e) (v := .ref (B 21 e)) (by omega) rfl rfl ?_
  refine z_iload hY eX0_putScore_13 1 rfl ?_
  refine z_iload hY eX0_putScore_14 2 rfl ?_
  refine c_ias hY hJ eX0_putScore_15 (t := 21) (N := 4) (key := 30) (i := e) (by decide) rfl (by omega) (fun _ => rfl) (by omega) ?_
  exact z_return hY eX0_putScore_16 rfl (by rw [hφ]; exact ⟨rfl, rfl⟩) ⟨Nat.zero_le _, Nat.zero_le _⟩
theorem o_judge {G : z_G} {D : Nat} {B : Nat → Int → Nat} {κ : c_K} {h : z_H} (hG : z_OK G) (hJ : cJ B κ) (hB : cB κ) (hV : cV κ) {o e : Int} (ho : 0 ≤ o ∧ o ≤ 1) (he : -1 ≤ e ∧ e < κ 24 0 0) (hm : ∀ j, -2147483648 ≤ κ 14 o j * cVl κ o e j ∧ κ 14 o j * cVl κ o e j ≤ 2147483647) : z_T G mX2_judge [.ref (B 4 o), .ref (B 20 e)] (cH D B κ h) 2 0 0 (fun v h' => v = none ∧ h' = cH D B (k_r κ 31 e (fun j => if 0 ≤ j ∧ j < 4 then κ 14 o j * cVl κ o e j else κ 31 e j)) h) (z_no) := by
  obtain ⟨hn, hsz, hrw, hcu, htl, hth⟩ := id hV
  have hs0 := hsz 0 (by omega) (by omega)
  have hs1 := hsz 1 (by omega) (by omega)
  have hs2 := hsz 2 (by omega) (by omega)
  have hs3 := hsz 3 (by omega) (by omega)
  refine z_T_of hG pX2_judge (Nat.le_of_ble_eq_true rfl) (ls0 := [(0, .ref (B 4 o)), (1, .ref (B 20 e))]) rfl fun Y hY hg hmc hms hφ hψ => ?_
  subst hg
  refine z_const hY eX2_judge_0 ?_
  refine z_istore hY eX2_judge_1 (ls' := [(2, z_i 0), (0, .ref (B 4 o)), (1, .ref (B 20 e))]) rfl ?_
  refine z_sub [1, 2, 0] (ls' := [(0, .ref (B 4 o)), (1, .ref (B 20 e)), (2, z_i 0)]) rfl ?_
  have lp2 : ∀ (fu : Nat) (c : Int), (4 - c).toNat < fu → (0 ≤ c ∧ c ≤ 4) → z_W Y 2 [(0, .ref (B 4 o)), (1, .ref (B 20 e)), (2, z_i c)] [] (cH D B (k_r κ 31 e (fun j => if 0 ≤ j ∧ j < c then κ 14 o j * cVl κ o e j else κ 31 e j)) h) 0 0 := by
    intro fu
    induction fu with
    | zero => intro c hf; exact absurd hf (Nat.not_lt_zero _)
    | succ fu ih2 =>
      intro c hf h0
      have hBj : cB (k_r κ 31 e (fun j => if 0 ≤ j ∧ j < c then κ 14 o j * cVl κ o e j else κ 31 e j)) := cB_r hB (fun j => by split; exact hm j; exact hB _ _ _)
      have hVj : cV (k_r κ 31 e (fun j => if 0 ≤ j ∧ j < c then κ 14 o j * cVl κ o e j else κ 31 e j)) := cV_r hV (by decide)
      refine z_iload hY eX2_judge_2 2 rfl ?_
      refine z_const hY eX2_judge_3 ?_
      refine z_icmpge hY eX2_judge_4 (by omega) (fun c4 => ?_) (fun c4 => ?_)
      · exact z_return hY eX2_judge_32 rfl (by rw [hφ]; exact ⟨rfl, by rw [show c = 4 by omega]⟩) ⟨Nat.zero_le _, Nat.zero_le _⟩
      · refine z_aload hY eX2_judge_7 1 rfl ?_
        refine c_gfN hY (cJ_r (by decide) hJ) eX2_judge_8 (t := 20) (i := e) (v := .ref (B 22 e)) ((cL_r (by decide) _ _).mpr (by omega)) rfl rfl ?_
        refine z_iload hY eX2_judge_11 2 rfl ?_
        refine z_aload hY eX2_judge_12 0 rfl ?_
        refine c_gf hY (cJ_r (by decide) hJ) eX2_judge_13 (t := 4) (i := o) (v := .ref (B 6 o)) ((cL_r (by decide) _ _).mpr (by omega)) rfl rfl ?_
        refine z_iload hY eX2_judge_16 2 rfl ?_
        have hb1 := hB 14 o c
        refine c_ial hY (cJ_r (by decide) hJ) eX2_judge_17 (t := 6) (N := 4) (key := 14) (i := o) (x := κ 14 o c) ((cL_r (by decide) _ _).mpr (by omega)) rfl (by omega) (by simp [k_u, k_r]) ?_
        refine z_aload hY eX2_judge_18 0 rfl ?_
        refine z_aload hY eX2_judge_19 1 rfl ?_
        refine z_iload hY eX2_judge_20 2 rfl ?_
        refine z_callVr (As := [.ref (B 20 e), z_i c]) (rest := [z_i (κ 14 o c), z_i c, .ref (B 22 e)]) (r := z_i (cVl κ o e c)) hY eX2_judge_21 ((show cVl (k_r κ 31 e (fun j => if 0 ≤ j ∧ j < c then κ 14 o j * cVl κ o e j else κ 31 e j)) o e c = cVl κ o e c from rfl) ▸ o_valueFor (κ := k_r κ 31 e (fun j => if 0 ≤ j ∧ j < c then κ 14 o j * cVl κ o e j else κ 31 e j)) hG (cJ_r (by decide) hJ) hBj hVj (by omega) (show -1 ≤ e ∧ e < κ 24 0 0 from he) (by omega)) (cH_at (t := 4) (i := o) (cJ_r (by decide) hJ) ((cL_r (by decide) _ _).mpr (by omega))) (by decide) (Nat.le_of_ble_eq_true rfl) ⟨Nat.zero_le _, Nat.zero_le _⟩ ?_
        refine z_imul hY eX2_judge_24 ?_
        refine c_ias hY (cJ_r (by decide) hJ) eX2_judge_25 (t := 22) (N := 4) (key := 31) (i := e) (by decide) rfl ((cL_r (by decide) _ _).mpr (by omega)) (fun _ => rfl) (by omega) ?_
        refine z_iinc hY eX2_judge_26 2 rfl (ls' := [(2, z_i (c + 1)), (0, .ref (B 4 o)), (1, .ref (B 20 e))]) rfl ?_
        refine z_goto hY eX2_judge_29 ?_
        refine z_sub [1, 2, 0] (ls' := [(0, .ref (B 4 o)), (1, .ref (B 20 e)), (2, z_i (c + 1))]) rfl ?_
        refine z_heq (congrArg (fun q => cH D B q h) (show k_u (k_r κ 31 e (fun j => if 0 ≤ j ∧ j < c then κ 14 o j * cVl κ o e j else κ 31 e j)) 31 e c ((κ 14 o c) * (cVl κ o e c)) = k_r κ 31 e (fun j => if 0 ≤ j ∧ j < (c + 1) then κ 14 o j * cVl κ o e j else κ 31 e j) from (k_r_u (if_pos (by omega)) (fun j hj => by show ite _ _ _ = ite _ _ _; split <;> split <;> first | rfl | (exfalso; omega))))) ?_
        exact ih2 (c + 1) (by omega) (by omega)
  refine z_heq (congrArg (fun q => cH D B q h) (show κ = k_r κ 31 e (fun j => if 0 ≤ j ∧ j < 0 then κ 14 o j * cVl κ o e j else κ 31 e j) from (k_r_id (fun j => if_neg (by omega))))) ?_
  exact lp2 _ 0 (Nat.lt_succ_self _) (by omega)
end C2
