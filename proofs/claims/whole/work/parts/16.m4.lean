/-! THE MODEL's methods that change it (laid by wip/whole/gen/gm4.py). -/
section M4
def z_ur (σ : z_S) (k : Nat) (f : Int → Int) : z_S := fun k' => if k' = k then f else σ k'
theorem z_ur_at {σ : z_S} {k : Nat} {f : Int → Int} : z_ur σ k f k = f := if_pos rfl
theorem z_ur_ne {σ : z_S} {k k' : Nat} {f : Int → Int} (h : k' ≠ k) : z_ur σ k f k' = σ k' := if_neg h
theorem z_ur_u {σ : z_S} {k : Nat} {f g : Int → Int} {i v : Int} (h1 : g i = v) (h2 : ∀ j, j ≠ i → g j = f j) : z_u (z_ur σ k f) k i v = z_ur σ k g := by
  funext k' j
  unfold z_u z_ur
  by_cases hk : k' = k
  · rw [if_pos hk, if_pos hk, if_pos hk]
    by_cases hj : j = i
    · rw [if_pos hj, hj, h1]
    · rw [if_neg hj, h2 j hj]
  · rw [if_neg hk, if_neg hk, if_neg hk]
theorem z_ur_id {σ : z_S} {k : Nat} {f : Int → Int} (h : ∀ i, f i = σ k i) : σ = z_ur σ k f := by
  funext k' j
  unfold z_ur
  by_cases hk : k' = k
  · rw [if_pos hk, hk, h]
  · rw [if_neg hk]
theorem z_u_u {σ : z_S} {k : Nat} {i v w : Int} : z_u (z_u σ k i v) k i w = z_u σ k i w := by
  funext k' j
  unfold z_u
  by_cases hk : k' = k
  · rw [if_pos hk, if_pos hk, if_pos hk]
    by_cases hj : j = i
    · rw [if_pos hj, if_pos hj]
    · rw [if_neg hj, if_neg hj, if_neg hj]
  · rw [if_neg hk, if_neg hk, if_neg hk]
theorem z_u_same {σ : z_S} {k : Nat} {i v : Int} (h : σ k i = v) : z_u σ k i v = σ := by
  funext k' j
  unfold z_u
  by_cases hk : k' = k
  · rw [if_pos hk]
    by_cases hj : j = i
    · rw [if_pos hj, hk, hj, h]
    · rw [if_neg hj, hk]
  · rw [if_neg hk]
theorem mB_u {σ : z_S} (hB : mB σ) {k : Nat} {i v : Int} (hv : -1000000 ≤ v ∧ v ≤ 1000000) : mB (z_u σ k i v) := by
  intro k' j
  unfold z_u
  split
  · split
    · exact hv
    · rename_i e _; exact hB _ _
  · exact hB _ _
theorem mV_14 {σ : z_S} (hV : mV σ) {i v : Int} (hv : -100000 ≤ v ∧ v ≤ 100000) : mV (z_u σ 14 i v) := by
  refine ⟨hV.1, fun j => ?_, hV.2.2⟩
  rw [z_u_eq]
  unfold z_up
  split
  · exact hv
  · exact hV.2.1 j
theorem mV_18 {σ : z_S} (hV : mV σ) {i v : Int} (hv : v = 0 ∨ v = 1) : mV (z_u σ 18 i v) := by
  refine ⟨hV.1, hV.2.1, hV.2.2.1, hV.2.2.2.1, fun j => ?_, hV.2.2.2.2.2⟩
  rw [z_u_eq]
  unfold z_up
  split
  · exact hv
  · exact hV.2.2.2.2.1 j
def yBe (σ : z_S) (e k v : Int) : z_S := if k = 0 ∧ σ 14 (4 * e + k) ≠ v then z_u (z_u (z_u σ 14 (4 * e + k) v) 20 0 (σ 20 0 + 1)) 16 e (σ 20 0 + 1) else z_u σ 14 (4 * e + k) v
theorem yBe_at {σ : z_S} {e k v : Int} : yBe σ e k v 14 (4 * e + k) = v := by
  unfold yBe
  split
  · rw [z_u_ne (by decide), z_u_ne (by decide)]; exact z_u_at
  · exact z_u_at
def yCo (σ : z_S) (g : Int) : z_S := z_u (z_u (z_u (z_u (z_u (z_u σ 19 0 (σ 19 0 + 1)) 18 (σ 19 0) 1) 15 (σ 19 0) g) 22 (σ 19 0) (-1)) 20 0 (σ 20 0 + 1)) 16 (σ 19 0) (σ 20 0 + 1)
def yLv (σ : z_S) (e : Int) : z_S := if lp σ e = -1 then z_u σ 18 e 0 else z_ur (z_u (z_u σ 18 e 0) 25 0 (σ 25 0 - 1)) 21 (fun i => if lp σ e - 1 ≤ i ∧ i < σ 25 0 - 1 then σ 21 (i + 1) else σ 21 i)
def yEn (σ : z_S) (e : Int) : z_S := z_u (z_u (z_u (z_u σ 21 (σ 25 0) e) 25 0 (σ 25 0 + 1)) 22 e (σ 30 0)) 23 e (-1)
def yCh (σ : z_S) (e o w : Int) : z_S := if w = 0 then z_u (z_u σ 23 e (σ 30 0)) 23 o (σ 30 0) else z_u (z_ur (z_u (z_u σ 23 e (σ 30 0)) 23 o (σ 30 0)) 21 (fun i => if lp σ o - 1 < i ∧ i ≤ lp σ e - 1 then σ 21 (i - 1) else σ 21 i)) 21 (lp σ o - 1) e

theorem m_comesToHave {G : z_G} {A : Nat → Nat} {σ : z_S} {h : z_H} (hG : z_OK G) (hA : mI A) {e m : Int} (he : 0 ≤ e ∧ e < 30) (hm : σ 20 0 = m) : z_T G mX8_comesToHave [.ref (A 40), z_i e] (mH A σ h) 0 0 0 (fun v h' => v = none ∧ h' = mH A (z_u (z_u σ 20 0 (m + 1)) 16 e (m + 1)) h) (z_no) := by
  refine z_T_of hG pX8_comesToHave (Nat.le_of_ble_eq_true rfl) (ls0 := [(0, .ref (A 40)), (1, z_i e)]) rfl fun Y hY hg hmc hms hφ hψ => ?_
  subst hg
  subst hm
  refine z_aload hY eX8_comesToHave_0 0 rfl ?_
  refine z_dup hY eX8_comesToHave_1 rfl ?_
  refine m_gf hY hA eX8_comesToHave_2 (v := z_i (σ 20 0)) rfl ?_
  refine z_const hY eX8_comesToHave_5 ?_
  refine z_iadd hY eX8_comesToHave_6 ?_
  refine m_pf hY hA eX8_comesToHave_7 (by decide) ?_
  refine z_aload hY eX8_comesToHave_10 0 rfl ?_
  refine m_gf hY hA eX8_comesToHave_11 (v := .ref (A 16)) rfl ?_
  refine z_iload hY eX8_comesToHave_14 1 rfl ?_
  refine z_aload hY eX8_comesToHave_15 0 rfl ?_
  refine m_gf hY hA eX8_comesToHave_16 (v := z_i ((σ 20 0) + 1)) (by simp [mF, z_u, z_ur]) ?_
  refine m_ias hY hA eX8_comesToHave_19 (j := 16) (N := 30) (by decide) (fun _ => rfl) (by omega) ?_
  exact z_return hY eX8_comesToHave_20 rfl (by rw [hφ]; exact ⟨rfl, rfl⟩) ⟨Nat.zero_le _, Nat.zero_le _⟩
theorem m_becomes {G : z_G} {A : Nat → Nat} {σ : z_S} {h : z_H} (hG : z_OK G) (hA : mI A) (hB : mB σ) {e k w : Int} (he : 0 ≤ e ∧ e < 30) (hk : 0 ≤ k ∧ k < 4) (hw : -1000000 ≤ w ∧ w ≤ 1000000) : z_T G mX8_becomes [.ref (A 40), z_i e, z_i k, z_i w] (mH A σ h) 1 0 0 (fun v h' => v = some (z_i (σ 14 (4 * e + k))) ∧ h' = mH A (yBe σ e k w) h) (z_no) := by
  refine z_T_of hG pX8_becomes (Nat.le_of_ble_eq_true rfl) (ls0 := [(0, .ref (A 40)), (1, z_i e), (2, z_i k), (3, z_i w)]) rfl fun Y hY hg hmc hms hφ hψ => ?_
  subst hg
  refine z_aload hY eX8_becomes_0 0 rfl ?_
  refine m_gf hY hA eX8_becomes_1 (v := .ref (A 14)) rfl ?_
  refine z_const hY eX8_becomes_4 ?_
  refine z_iload hY eX8_becomes_5 1 rfl ?_
  refine z_imul hY eX8_becomes_6 ?_
  refine z_iload hY eX8_becomes_7 2 rfl ?_
  refine z_iadd hY eX8_becomes_8 ?_
  have hb1 := hB 14 (4 * e + k)
  refine m_ial hY hA eX8_becomes_9 (j := 14) (N := 120) (x := σ 14 (4 * e + k)) (by decide) rfl (by omega) rfl ?_
  refine z_istore hY eX8_becomes_10 (ls' := [(4, z_i (σ 14 (4 * e + k))), (0, .ref (A 40)), (1, z_i e), (2, z_i k), (3, z_i w)]) rfl ?_
  refine z_aload hY eX8_becomes_12 1 rfl ?_
  refine m_gf hY hA eX8_becomes_13 (v := .ref (A 14)) rfl ?_
  refine z_const hY eX8_becomes_16 ?_
  refine z_iload hY eX8_becomes_17 2 rfl ?_
  refine z_imul hY eX8_becomes_18 ?_
  refine z_iload hY eX8_becomes_19 3 rfl ?_
  refine z_iadd hY eX8_becomes_20 ?_
  refine z_iload hY eX8_becomes_21 4 rfl ?_
  refine m_ias hY hA eX8_becomes_22 (j := 14) (N := 120) (by decide) (fun _ => rfl) (by omega) ?_
  refine z_iload hY eX8_becomes_23 3 rfl ?_
  refine z_ifne hY eX8_becomes_24 (by omega) (fun c24 => ?_) (fun c24 => ?_)
  · refine z_iload hY eX8_becomes_38 0 rfl ?_
    exact z_ireturn hY eX8_becomes_40 rfl (by rw [hφ]; exact ⟨rfl, by unfold yBe; first | rw [if_pos (by omega)] | rw [if_neg (by omega)]⟩) ⟨Nat.zero_le _, Nat.zero_le _⟩
  · refine z_iload hY eX8_becomes_27 0 rfl ?_
    refine z_iload hY eX8_becomes_29 4 rfl ?_
    refine z_icmpeq hY eX8_becomes_30 (by omega) (fun c30 => ?_) (fun c30 => ?_)
    · refine z_iload hY eX8_becomes_38 0 rfl ?_
      exact z_ireturn hY eX8_becomes_40 rfl (by rw [hφ]; exact ⟨rfl, by unfold yBe; first | rw [if_pos (by omega)] | rw [if_neg (by omega)]⟩) ⟨Nat.zero_le _, Nat.zero_le _⟩
    · refine z_aload hY eX8_becomes_33 1 rfl ?_
      refine z_iload hY eX8_becomes_34 2 rfl ?_
      have hb2 := hB 20 0
      refine z_callV (As := [z_i e]) (rest := []) hY eX8_becomes_35 (m_comesToHave hG hA (e := e) (m := (σ 20 0)) (by omega) (by simp [z_u, z_ur])) (mH_at hA (k := 40) (by decide)) (by decide) (Nat.le_of_ble_eq_true rfl) ⟨Nat.zero_le _, Nat.zero_le _⟩ (fun _ _ q => q.elim) (fun v3 h3 q3 => ?_)
      obtain ⟨rfl, rfl⟩ := q3
      refine z_iload hY eX8_becomes_38 0 rfl ?_
      exact z_ireturn hY eX8_becomes_40 rfl (by rw [hφ]; exact ⟨rfl, by unfold yBe; first | rw [if_pos (by omega)] | rw [if_neg (by omega)]⟩) ⟨Nat.zero_le _, Nat.zero_le _⟩
def S_clearTape (σ : z_S)  (c r : Int) (ρ : z_S) : Prop := c = 0 ∧ r = σ 2 0 ∧ ρ = z_u σ 2 0 0
theorem p_clearTape {G : z_G} {A : Nat → Nat} {σ τ : z_S} {h : z_H} (hτ : z_u σ 0 0 0 = τ) (hG : z_OK G) (hA : mI A) (hB : mB τ) (hV : mV τ) : z_T G mX8_clearTape [.ref (A 40)] (mH A σ h) 1 0 0 (fun v h' => ∃ (c r : Int) (ρ : z_S), v = some (z_i r) ∧ h' = mH A ρ h ∧ S_clearTape τ  c r ρ) (z_no) := by
  have h00 : τ 0 0 = 0 := by rw [← hτ]; rfl
  obtain ⟨hf, hsc, hcm, hcr, hth, hgr, hlm, hld, hlo, hro, htm, hre, hpa, htp, hgp⟩ := id hV
  refine z_T_of hG pX8_clearTape (Nat.le_of_ble_eq_true rfl) (ls0 := [(0, .ref (A 40))]) rfl fun Y hY hg hmc hms hφ hψ => ?_
  subst hg
  refine z_aload hY eX8_clearTape_0 0 rfl ?_
  refine z_const hY eX8_clearTape_1 ?_
  refine m_pf hY hA eX8_clearTape_2 (by decide) ?_
  rw [hτ]
  refine z_aload hY eX8_clearTape_5 0 rfl ?_
  have hb1 := hB 2 0
  refine m_gf hY hA eX8_clearTape_6 (v := z_i (τ 2 0)) rfl ?_
  refine z_istore hY eX8_clearTape_9 (ls' := [(1, z_i (τ 2 0)), (0, .ref (A 40))]) rfl ?_
  refine z_aload hY eX8_clearTape_10 1 rfl ?_
  refine z_const hY eX8_clearTape_11 ?_
  refine m_pf hY hA eX8_clearTape_12 (by decide) ?_
  refine z_iload hY eX8_clearTape_15 0 rfl ?_
  exact z_ireturn hY eX8_clearTape_16 rfl (by rw [hφ]; exact ⟨0, _, _, rfl, rfl, by unfold S_clearTape; (repeat' split) <;> first | exact ⟨rfl, rfl, rfl⟩ | exact ⟨rfl, by omega, rfl⟩ | exact ⟨rfl, rfl⟩ | (exfalso; omega)⟩) ⟨Nat.zero_le _, Nat.zero_le _⟩
def S_come (σ : z_S) (g : Int) (c r : Int) (ρ : z_S) : Prop := if 0 ≤ g ∧ g ≤ 4 then (if σ 19 0 < 30 then c = 0 ∧ r = σ 19 0 ∧ ρ = yCo σ g else c = 2 ∧ ρ = z_u σ 0 0 2) else c = 1 ∧ ρ = z_u σ 0 0 1
theorem p_come {G : z_G} {A : Nat → Nat} {σ τ : z_S} {h : z_H} (hτ : z_u σ 0 0 0 = τ) (hG : z_OK G) (hA : mI A) (hB : mB τ) (hV : mV τ) {g : Int} (hr : -2147483648 ≤ g ∧ g ≤ 2147483647) : z_T G mX8_come [.ref (A 40), z_i g] (mH A σ h) 2 0 0 (fun v h' => ∃ (c r : Int) (ρ : z_S), v = some (z_i r) ∧ h' = mH A ρ h ∧ S_come τ g c r ρ) (z_no) := by
  have h00 : τ 0 0 = 0 := by rw [← hτ]; rfl
  obtain ⟨hf, hsc, hcm, hcr, hth, hgr, hlm, hld, hlo, hro, htm, hre, hpa, htp, hgp⟩ := id hV
  refine z_T_of hG pX8_come (Nat.le_of_ble_eq_true rfl) (ls0 := [(0, .ref (A 40)), (1, z_i g)]) rfl fun Y hY hg hmc hms hφ hψ => ?_
  subst hg
  refine z_aload hY eX8_come_0 0 rfl ?_
  refine z_const hY eX8_come_1 ?_
  refine m_pf hY hA eX8_come_2 (by decide) ?_
  rw [hτ]
  refine z_aload hY eX8_come_5 0 rfl ?_
  refine z_iload hY eX8_come_6 1 rfl ?_
  refine z_const hY eX8_come_7 ?_
  refine z_const hY eX8_come_8 ?_
  refine z_callSr (As := [z_i g, z_i 0, z_i 4]) (rest := [.ref (A 40)]) (r := z_i (z_bl (0 ≤ g ∧ g ≤ 4))) hY eX8_come_9 (m_in hG (by omega)) (by decide) (Nat.le_of_ble_eq_true rfl) ⟨Nat.zero_le _, Nat.zero_le _⟩ ?_
  refine z_const hY eX8_come_12 ?_
  have hgb := z_bl01 (0 ≤ g ∧ g ≤ 4)
  by_cases g1 : 0 ≤ g ∧ g ≤ 4
  · refine z_callVr (As := [z_i (z_bl (0 ≤ g ∧ g ≤ 4)), z_i 1]) (rest := []) (r := z_i 0) hY eX8_come_13 (m_fails_t hG hA hB h00 (g := (z_bl (0 ≤ g ∧ g ≤ 4))) (c := 1) (by rw [z_bl_t g1]; omega) (by omega)) (mH_at hA (k := 40) (by decide)) (by decide) (Nat.le_of_ble_eq_true rfl) ⟨Nat.zero_le _, Nat.zero_le _⟩ ?_
    refine z_ifne hY eX8_come_16 (by omega) (fun c => absurd c (by omega)) (fun _ => ?_)
    refine z_aload hY eX8_come_19 0 rfl ?_
    refine z_aload hY eX8_come_20 0 rfl ?_
    have hb2 := hB 19 0
    refine m_gf hY hA eX8_come_21 (v := z_i (τ 19 0)) rfl ?_
    refine z_const hY eX8_come_24 ?_
    refine z_icmpge hY eX8_come_26 (by omega) (fun c26 => ?_) (fun c26 => ?_)
    · refine z_const hY eX8_come_33 ?_
      refine z_const hY eX8_come_34 ?_
      refine z_callV (As := [z_i 0, z_i 2]) (rest := []) hY eX8_come_35 (m_fails_f hG hA hB h00 (g := 0) (c := 2) (by omega) (by omega)) (mH_at hA (k := 40) (by decide)) (by decide) (Nat.le_of_ble_eq_true rfl) ⟨Nat.zero_le _, Nat.zero_le _⟩ (fun _ _ q => q.elim) (fun v3 h3 q3 => ?_)
      obtain ⟨rfl, rfl⟩ := q3
      refine z_ifeq hY eX8_come_38 (by omega) (fun c => absurd c (by omega)) (fun _ => ?_)
      refine z_const hY eX8_come_41 ?_
      exact z_ireturn hY eX8_come_42 rfl (by rw [hφ]; exact ⟨2, _, _, rfl, rfl, by unfold S_come; (repeat' split) <;> first | exact ⟨rfl, rfl, rfl⟩ | exact ⟨rfl, by omega, rfl⟩ | exact ⟨rfl, rfl⟩ | (exfalso; omega)⟩) ⟨Nat.zero_le _, Nat.zero_le _⟩
    · refine z_const hY eX8_come_29 ?_
      refine z_goto hY eX8_come_30 ?_
      refine z_const hY eX8_come_34 ?_
      refine z_callVr (As := [z_i 1, z_i 2]) (rest := []) (r := z_i 0) hY eX8_come_35 (m_fails_t hG hA hB h00 (g := 1) (c := 2) (by omega) (by omega)) (mH_at hA (k := 40) (by decide)) (by decide) (Nat.le_of_ble_eq_true rfl) ⟨Nat.zero_le _, Nat.zero_le _⟩ ?_
      refine z_ifeq hY eX8_come_38 (by omega) (fun _ => ?_) (fun c => absurd c (by omega))
      refine z_aload hY eX8_come_43 0 rfl ?_
      refine m_gf hY hA eX8_come_44 (v := z_i (τ 19 0)) rfl ?_
      refine z_istore hY eX8_come_47 (ls' := [(2, z_i (τ 19 0)), (0, .ref (A 40)), (1, z_i g)]) rfl ?_
      refine z_aload hY eX8_come_48 1 rfl ?_
      refine z_dup hY eX8_come_49 rfl ?_
      refine m_gf hY hA eX8_come_50 (v := z_i (τ 19 0)) rfl ?_
      refine z_const hY eX8_come_53 ?_
      refine z_iadd hY eX8_come_54 ?_
      refine m_pf hY hA eX8_come_55 (by decide) ?_
      refine z_aload hY eX8_come_58 1 rfl ?_
      refine m_gf hY hA eX8_come_59 (v := .ref (A 18)) rfl ?_
      refine z_iload hY eX8_come_62 0 rfl ?_
      refine z_const hY eX8_come_63 ?_
      refine m_bas hY hA eX8_come_64 (j := 18) (N := 30) (by decide) (fun _ => rfl) (by omega) (by first | omega | exact z_bl01 _) ?_
      refine z_aload hY eX8_come_65 1 rfl ?_
      refine m_gf hY hA eX8_come_66 (v := .ref (A 15)) rfl ?_
      refine z_iload hY eX8_come_69 0 rfl ?_
      refine z_iload hY eX8_come_70 2 rfl ?_
      refine m_ias hY hA eX8_come_71 (j := 15) (N := 30) (by decide) (fun _ => rfl) (by omega) ?_
      refine z_aload hY eX8_come_72 1 rfl ?_
      refine m_gf hY hA eX8_come_73 (v := .ref (A 22)) rfl ?_
      refine z_iload hY eX8_come_76 0 rfl ?_
      refine z_const hY eX8_come_77 ?_
      refine m_ias hY hA eX8_come_78 (j := 22) (N := 30) (by decide) (fun _ => rfl) (by omega) ?_
      refine z_aload hY eX8_come_79 1 rfl ?_
      refine z_iload hY eX8_come_80 0 rfl ?_
      have hb4 := hB 20 0
      refine z_callV (As := [z_i (τ 19 0)]) (rest := []) hY eX8_come_81 (m_comesToHave hG hA (e := (τ 19 0)) (m := (τ 20 0)) (by omega) (by simp [z_u, z_ur])) (mH_at hA (k := 40) (by decide)) (by decide) (Nat.le_of_ble_eq_true rfl) ⟨Nat.zero_le _, Nat.zero_le _⟩ (fun _ _ q => q.elim) (fun v5 h5 q5 => ?_)
      obtain ⟨rfl, rfl⟩ := q5
      refine z_iload hY eX8_come_84 0 rfl ?_
      exact z_ireturn hY eX8_come_85 rfl (by rw [hφ]; exact ⟨0, _, _, rfl, rfl, by unfold S_come; (repeat' split) <;> first | exact ⟨rfl, rfl, rfl⟩ | exact ⟨rfl, by omega, rfl⟩ | exact ⟨rfl, rfl⟩ | (exfalso; omega)⟩) ⟨Nat.zero_le _, Nat.zero_le _⟩
  · refine z_callV (As := [z_i (z_bl (0 ≤ g ∧ g ≤ 4)), z_i 1]) (rest := []) hY eX8_come_13 (m_fails_f hG hA hB h00 (g := (z_bl (0 ≤ g ∧ g ≤ 4))) (c := 1) (z_bl_f g1) (by omega)) (mH_at hA (k := 40) (by decide)) (by decide) (Nat.le_of_ble_eq_true rfl) ⟨Nat.zero_le _, Nat.zero_le _⟩ (fun _ _ q => q.elim) (fun v6 h6 q6 => ?_)
    obtain ⟨rfl, rfl⟩ := q6
    refine z_ifne hY eX8_come_16 (by omega) (fun _ => ?_) (fun c => absurd c (by omega))
    refine z_const hY eX8_come_41 ?_
    exact z_ireturn hY eX8_come_42 rfl (by rw [hφ]; exact ⟨1, _, _, rfl, rfl, by unfold S_come; (repeat' split) <;> first | exact ⟨rfl, rfl, rfl⟩ | exact ⟨rfl, by omega, rfl⟩ | exact ⟨rfl, rfl⟩ | (exfalso; omega)⟩) ⟨Nat.zero_le _, Nat.zero_le _⟩
def S_score (σ : z_S) (e k m : Int) (c r : Int) (ρ : z_S) : Prop := if pr σ e then (if 0 ≤ k ∧ k ≤ 3 then (if -100000 ≤ σ 14 (4 * e + k) + m ∧ σ 14 (4 * e + k) + m ≤ 100000 then c = 0 ∧ r = σ 14 (4 * e + k) + m ∧ ρ = yBe σ e k (σ 14 (4 * e + k) + m) else c = 2 ∧ ρ = z_u σ 0 0 2) else c = 2 ∧ ρ = z_u σ 0 0 2) else c = 1 ∧ ρ = z_u σ 0 0 1
theorem p_score {G : z_G} {A : Nat → Nat} {σ τ : z_S} {h : z_H} (hτ : z_u σ 0 0 0 = τ) (hG : z_OK G) (hA : mI A) (hB : mB τ) (hV : mV τ) {e k m : Int} (hr : -2147483648 ≤ e ∧ e ≤ 2147483647 ∧ -2147483648 ≤ k ∧ k ≤ 2147483647 ∧ -2147483648 ≤ m ∧ m ≤ 2147483647) : z_T G mX8_score [.ref (A 40), z_i e, z_i k, z_i m] (mH A σ h) 3 0 0 (fun v h' => ∃ (c r : Int) (ρ : z_S), v = some (z_i r) ∧ h' = mH A ρ h ∧ S_score τ e k m c r ρ) (z_no) := by
  have h00 : τ 0 0 = 0 := by rw [← hτ]; rfl
  obtain ⟨hf, hsc, hcm, hcr, hth, hgr, hlm, hld, hlo, hro, htm, hre, hpa, htp, hgp⟩ := id hV
  refine z_T_of hG pX8_score (Nat.le_of_ble_eq_true rfl) (ls0 := [(0, .ref (A 40)), (1, z_i e), (2, z_i k), (3, z_i m)]) rfl fun Y hY hg hmc hms hφ hψ => ?_
  subst hg
  refine z_aload hY eX8_score_0 0 rfl ?_
  refine z_const hY eX8_score_1 ?_
  refine m_pf hY hA eX8_score_2 (by decide) ?_
  rw [hτ]
  refine z_aload hY eX8_score_5 0 rfl ?_
  refine z_iload hY eX8_score_6 1 rfl ?_
  refine z_iload hY eX8_score_7 2 rfl ?_
  by_cases g1 : pr τ e
  · by_cases g2 : 0 ≤ k ∧ k ≤ 3
    · refine z_callVr (As := [z_i e, z_i k]) (rest := []) (r := z_i 0) hY eX8_score_8 (m_noK_t hG hA hB hV h00 (by omega) g1 g2) (mH_at hA (k := 40) (by decide)) (by decide) (Nat.le_of_ble_eq_true rfl) ⟨Nat.zero_le _, Nat.zero_le _⟩ ?_
      refine z_ifne hY eX8_score_11 (by omega) (fun c => absurd c (by omega)) (fun _ => ?_)
      refine z_aload hY eX8_score_14 0 rfl ?_
      refine z_aload hY eX8_score_15 0 rfl ?_
      refine m_gf hY hA eX8_score_16 (v := .ref (A 14)) rfl ?_
      refine z_const hY eX8_score_19 ?_
      refine z_iload hY eX8_score_20 1 rfl ?_
      refine z_imul hY eX8_score_21 ?_
      refine z_iload hY eX8_score_22 2 rfl ?_
      refine z_iadd hY eX8_score_23 ?_
      have hb3 := hB 14 (4 * e + k)
      refine m_ial hY hA eX8_score_24 (j := 14) (N := 120) (x := τ 14 (4 * e + k)) (by decide) rfl (by omega) rfl ?_
      refine z_i2l hY eX8_score_25 (by omega) ?_
      refine z_iload hY eX8_score_26 3 rfl ?_
      refine z_i2l hY eX8_score_27 (by omega) ?_
      refine z_ladd hY eX8_score_28 ?_
      refine z_callSr (As := [z_l ((τ 14 (4 * e + k)) + m)]) (rest := [.ref (A 40)]) (r := z_i (z_bl (-100000 ≤ ((τ 14 (4 * e + k)) + m) ∧ ((τ 14 (4 * e + k)) + m) ≤ 100000))) hY eX8_score_29 (m_isScore hG (by omega)) (by decide) (Nat.le_of_ble_eq_true rfl) ⟨Nat.zero_le _, Nat.zero_le _⟩ ?_
      refine z_const hY eX8_score_32 ?_
      have hgb := z_bl01 (-100000 ≤ ((τ 14 (4 * e + k)) + m) ∧ ((τ 14 (4 * e + k)) + m) ≤ 100000)
      by_cases g4 : -100000 ≤ ((τ 14 (4 * e + k)) + m) ∧ ((τ 14 (4 * e + k)) + m) ≤ 100000
      · refine z_callVr (As := [z_i (z_bl (-100000 ≤ ((τ 14 (4 * e + k)) + m) ∧ ((τ 14 (4 * e + k)) + m) ≤ 100000)), z_i 2]) (rest := []) (r := z_i 0) hY eX8_score_33 (m_fails_t hG hA hB h00 (g := (z_bl (-100000 ≤ ((τ 14 (4 * e + k)) + m) ∧ ((τ 14 (4 * e + k)) + m) ≤ 100000))) (c := 2) (by rw [z_bl_t g4]; omega) (by omega)) (mH_at hA (k := 40) (by decide)) (by decide) (Nat.le_of_ble_eq_true rfl) ⟨Nat.zero_le _, Nat.zero_le _⟩ ?_
        refine z_ifeq hY eX8_score_36 (by omega) (fun _ => ?_) (fun c => absurd c (by omega))
        refine z_aload hY eX8_score_41 0 rfl ?_
        refine z_iload hY eX8_score_42 1 rfl ?_
        refine z_iload hY eX8_score_43 2 rfl ?_
        refine z_aload hY eX8_score_44 0 rfl ?_
        refine m_gf hY hA eX8_score_45 (v := .ref (A 14)) rfl ?_
        refine z_const hY eX8_score_48 ?_
        refine z_iload hY eX8_score_49 1 rfl ?_
        refine z_imul hY eX8_score_50 ?_
        refine z_iload hY eX8_score_51 2 rfl ?_
        refine z_iadd hY eX8_score_52 ?_
        refine m_ial hY hA eX8_score_53 (j := 14) (N := 120) (x := τ 14 (4 * e + k)) (by decide) rfl (by omega) rfl ?_
        refine z_iload hY eX8_score_54 3 rfl ?_
        refine z_iadd hY eX8_score_55 ?_
        refine z_callV (As := [z_i e, z_i k, z_i ((τ 14 (4 * e + k)) + m)]) (rest := []) hY eX8_score_56 (m_becomes hG hA hB (by omega) (by omega) (by omega)) (mH_at hA (k := 40) (by decide)) (by decide) (Nat.le_of_ble_eq_true rfl) ⟨Nat.zero_le _, Nat.zero_le _⟩ (fun _ _ q => q.elim) (fun v5 h5 q5 => ?_)
        obtain ⟨rfl, rfl⟩ := q5
        refine z_pop hY eX8_score_59 rfl ?_
        refine z_aload hY eX8_score_60 0 rfl ?_
        refine m_gf hY hA eX8_score_61 (v := .ref (A 14)) rfl ?_
        refine z_const hY eX8_score_64 ?_
        refine z_iload hY eX8_score_65 1 rfl ?_
        refine z_imul hY eX8_score_66 ?_
        refine z_iload hY eX8_score_67 2 rfl ?_
        refine z_iadd hY eX8_score_68 ?_
        refine m_ial hY hA eX8_score_69 (j := 14) (N := 120) (x := (τ 14 (4 * e + k) + m)) (by decide) rfl (by omega) yBe_at ?_
        exact z_ireturn hY eX8_score_70 rfl (by rw [hφ]; exact ⟨0, _, _, rfl, rfl, by unfold S_score; (repeat' split) <;> first | exact ⟨rfl, rfl, rfl⟩ | exact ⟨rfl, by omega, rfl⟩ | exact ⟨rfl, rfl⟩ | (exfalso; omega)⟩) ⟨Nat.zero_le _, Nat.zero_le _⟩
      · refine z_callV (As := [z_i (z_bl (-100000 ≤ ((τ 14 (4 * e + k)) + m) ∧ ((τ 14 (4 * e + k)) + m) ≤ 100000)), z_i 2]) (rest := []) hY eX8_score_33 (m_fails_f hG hA hB h00 (g := (z_bl (-100000 ≤ ((τ 14 (4 * e + k)) + m) ∧ ((τ 14 (4 * e + k)) + m) ≤ 100000))) (c := 2) (z_bl_f g4) (by omega)) (mH_at hA (k := 40) (by decide)) (by decide) (Nat.le_of_ble_eq_true rfl) ⟨Nat.zero_le _, Nat.zero_le _⟩ (fun _ _ q => q.elim) (fun v6 h6 q6 => ?_)
        obtain ⟨rfl, rfl⟩ := q6
        refine z_ifeq hY eX8_score_36 (by omega) (fun c => absurd c (by omega)) (fun _ => ?_)
        refine z_const hY eX8_score_39 ?_
        exact z_ireturn hY eX8_score_40 rfl (by rw [hφ]; exact ⟨2, _, _, rfl, rfl, by unfold S_score; (repeat' split) <;> first | exact ⟨rfl, rfl, rfl⟩ | exact ⟨rfl, by omega, rfl⟩ | exact ⟨rfl, rfl⟩ | (exfalso; omega)⟩) ⟨Nat.zero_le _, Nat.zero_le _⟩
    · refine z_callV (As := [z_i e, z_i k]) (rest := []) hY eX8_score_8 (m_noK_2 hG hA hB hV h00 (by omega) g1 g2) (mH_at hA (k := 40) (by decide)) (by decide) (Nat.le_of_ble_eq_true rfl) ⟨Nat.zero_le _, Nat.zero_le _⟩ (fun _ _ q => q.elim) (fun v7 h7 q7 => ?_)
      obtain ⟨rfl, rfl⟩ := q7
      refine z_ifne hY eX8_score_11 (by omega) (fun _ => ?_) (fun c => absurd c (by omega))
      refine z_const hY eX8_score_39 ?_
      exact z_ireturn hY eX8_score_40 rfl (by rw [hφ]; exact ⟨2, _, _, rfl, rfl, by unfold S_score; (repeat' split) <;> first | exact ⟨rfl, rfl, rfl⟩ | exact ⟨rfl, by omega, rfl⟩ | exact ⟨rfl, rfl⟩ | (exfalso; omega)⟩) ⟨Nat.zero_le _, Nat.zero_le _⟩
  · refine z_callV (As := [z_i e, z_i k]) (rest := []) hY eX8_score_8 (m_noK_1 hG hA hB hV h00 (by omega) g1) (mH_at hA (k := 40) (by decide)) (by decide) (Nat.le_of_ble_eq_true rfl) ⟨Nat.zero_le _, Nat.zero_le _⟩ (fun _ _ q => q.elim) (fun v8 h8 q8 => ?_)
    obtain ⟨rfl, rfl⟩ := q8
    refine z_ifne hY eX8_score_11 (by omega) (fun _ => ?_) (fun c => absurd c (by omega))
    refine z_const hY eX8_score_39 ?_
    exact z_ireturn hY eX8_score_40 rfl (by rw [hφ]; exact ⟨1, _, _, rfl, rfl, by unfold S_score; (repeat' split) <;> first | exact ⟨rfl, rfl, rfl⟩ | exact ⟨rfl, by omega, rfl⟩ | exact ⟨rfl, rfl⟩ | (exfalso; omega)⟩) ⟨Nat.zero_le _, Nat.zero_le _⟩
def S_setScore (σ : z_S) (e k w : Int) (c r : Int) (ρ : z_S) : Prop := if pr σ e then (if 0 ≤ k ∧ k ≤ 3 then (if -100000 ≤ w ∧ w ≤ 100000 then c = 0 ∧ r = σ 14 (4 * e + k) ∧ ρ = yBe σ e k w else c = 2 ∧ ρ = z_u σ 0 0 2) else c = 2 ∧ ρ = z_u σ 0 0 2) else c = 1 ∧ ρ = z_u σ 0 0 1
theorem p_setScore {G : z_G} {A : Nat → Nat} {σ τ : z_S} {h : z_H} (hτ : z_u σ 0 0 0 = τ) (hG : z_OK G) (hA : mI A) (hB : mB τ) (hV : mV τ) {e k w : Int} (hr : -2147483648 ≤ e ∧ e ≤ 2147483647 ∧ -2147483648 ≤ k ∧ k ≤ 2147483647 ∧ -2147483648 ≤ w ∧ w ≤ 2147483647) : z_T G mX8_setScore [.ref (A 40), z_i e, z_i k, z_i w] (mH A σ h) 3 0 0 (fun v h' => ∃ (c r : Int) (ρ : z_S), v = some (z_i r) ∧ h' = mH A ρ h ∧ S_setScore τ e k w c r ρ) (z_no) := by
  have h00 : τ 0 0 = 0 := by rw [← hτ]; rfl
  obtain ⟨hf, hsc, hcm, hcr, hth, hgr, hlm, hld, hlo, hro, htm, hre, hpa, htp, hgp⟩ := id hV
  refine z_T_of hG pX8_setScore (Nat.le_of_ble_eq_true rfl) (ls0 := [(0, .ref (A 40)), (1, z_i e), (2, z_i k), (3, z_i w)]) rfl fun Y hY hg hmc hms hφ hψ => ?_
  subst hg
  refine z_aload hY eX8_setScore_0 0 rfl ?_
  refine z_const hY eX8_setScore_1 ?_
  refine m_pf hY hA eX8_setScore_2 (by decide) ?_
  rw [hτ]
  refine z_aload hY eX8_setScore_5 0 rfl ?_
  refine z_iload hY eX8_setScore_6 1 rfl ?_
  refine z_iload hY eX8_setScore_7 2 rfl ?_
  by_cases g1 : pr τ e
  · by_cases g2 : 0 ≤ k ∧ k ≤ 3
    · refine z_callVr (As := [z_i e, z_i k]) (rest := []) (r := z_i 0) hY eX8_setScore_8 (m_noK_t hG hA hB hV h00 (by omega) g1 g2) (mH_at hA (k := 40) (by decide)) (by decide) (Nat.le_of_ble_eq_true rfl) ⟨Nat.zero_le _, Nat.zero_le _⟩ ?_
      refine z_ifne hY eX8_setScore_11 (by omega) (fun c => absurd c (by omega)) (fun _ => ?_)
      refine z_aload hY eX8_setScore_14 0 rfl ?_
      refine z_iload hY eX8_setScore_15 3 rfl ?_
      refine z_i2l hY eX8_setScore_16 (by omega) ?_
      refine z_callSr (As := [z_l w]) (rest := [.ref (A 40)]) (r := z_i (z_bl (-100000 ≤ w ∧ w ≤ 100000))) hY eX8_setScore_17 (m_isScore hG (by omega)) (by decide) (Nat.le_of_ble_eq_true rfl) ⟨Nat.zero_le _, Nat.zero_le _⟩ ?_
      refine z_const hY eX8_setScore_20 ?_
      have hgb := z_bl01 (-100000 ≤ w ∧ w ≤ 100000)
      by_cases g3 : -100000 ≤ w ∧ w ≤ 100000
      · refine z_callVr (As := [z_i (z_bl (-100000 ≤ w ∧ w ≤ 100000)), z_i 2]) (rest := []) (r := z_i 0) hY eX8_setScore_21 (m_fails_t hG hA hB h00 (g := (z_bl (-100000 ≤ w ∧ w ≤ 100000))) (c := 2) (by rw [z_bl_t g3]; omega) (by omega)) (mH_at hA (k := 40) (by decide)) (by decide) (Nat.le_of_ble_eq_true rfl) ⟨Nat.zero_le _, Nat.zero_le _⟩ ?_
        refine z_ifeq hY eX8_setScore_24 (by omega) (fun _ => ?_) (fun c => absurd c (by omega))
        refine z_aload hY eX8_setScore_31 0 rfl ?_
        refine z_iload hY eX8_setScore_32 1 rfl ?_
        refine z_iload hY eX8_setScore_33 2 rfl ?_
        refine z_iload hY eX8_setScore_34 3 rfl ?_
        refine z_callV (As := [z_i e, z_i k, z_i w]) (rest := []) hY eX8_setScore_35 (m_becomes hG hA hB (by omega) (by omega) (by omega)) (mH_at hA (k := 40) (by decide)) (by decide) (Nat.le_of_ble_eq_true rfl) ⟨Nat.zero_le _, Nat.zero_le _⟩ (fun _ _ q => q.elim) (fun v4 h4 q4 => ?_)
        obtain ⟨rfl, rfl⟩ := q4
        exact z_ireturn hY eX8_setScore_38 rfl (by rw [hφ]; exact ⟨0, _, _, rfl, rfl, by unfold S_setScore; (repeat' split) <;> first | exact ⟨rfl, rfl, rfl⟩ | exact ⟨rfl, by omega, rfl⟩ | exact ⟨rfl, rfl⟩ | (exfalso; omega)⟩) ⟨Nat.zero_le _, Nat.zero_le _⟩
      · refine z_callV (As := [z_i (z_bl (-100000 ≤ w ∧ w ≤ 100000)), z_i 2]) (rest := []) hY eX8_setScore_21 (m_fails_f hG hA hB h00 (g := (z_bl (-100000 ≤ w ∧ w ≤ 100000))) (c := 2) (z_bl_f g3) (by omega)) (mH_at hA (k := 40) (by decide)) (by decide) (Nat.le_of_ble_eq_true rfl) ⟨Nat.zero_le _, Nat.zero_le _⟩ (fun _ _ q => q.elim) (fun v5 h5 q5 => ?_)
        obtain ⟨rfl, rfl⟩ := q5
        refine z_ifeq hY eX8_setScore_24 (by omega) (fun c => absurd c (by omega)) (fun _ => ?_)
        refine z_const hY eX8_setScore_27 ?_
        refine z_goto hY eX8_setScore_28 ?_
        exact z_ireturn hY eX8_setScore_38 rfl (by rw [hφ]; exact ⟨2, _, _, rfl, rfl, by unfold S_setScore; (repeat' split) <;> first | exact ⟨rfl, rfl, rfl⟩ | exact ⟨rfl, by omega, rfl⟩ | exact ⟨rfl, rfl⟩ | (exfalso; omega)⟩) ⟨Nat.zero_le _, Nat.zero_le _⟩
    · refine z_callV (As := [z_i e, z_i k]) (rest := []) hY eX8_setScore_8 (m_noK_2 hG hA hB hV h00 (by omega) g1 g2) (mH_at hA (k := 40) (by decide)) (by decide) (Nat.le_of_ble_eq_true rfl) ⟨Nat.zero_le _, Nat.zero_le _⟩ (fun _ _ q => q.elim) (fun v6 h6 q6 => ?_)
      obtain ⟨rfl, rfl⟩ := q6
      refine z_ifne hY eX8_setScore_11 (by omega) (fun _ => ?_) (fun c => absurd c (by omega))
      refine z_const hY eX8_setScore_27 ?_
      refine z_goto hY eX8_setScore_28 ?_
      exact z_ireturn hY eX8_setScore_38 rfl (by rw [hφ]; exact ⟨2, _, _, rfl, rfl, by unfold S_setScore; (repeat' split) <;> first | exact ⟨rfl, rfl, rfl⟩ | exact ⟨rfl, by omega, rfl⟩ | exact ⟨rfl, rfl⟩ | (exfalso; omega)⟩) ⟨Nat.zero_le _, Nat.zero_le _⟩
  · refine z_callV (As := [z_i e, z_i k]) (rest := []) hY eX8_setScore_8 (m_noK_1 hG hA hB hV h00 (by omega) g1) (mH_at hA (k := 40) (by decide)) (by decide) (Nat.le_of_ble_eq_true rfl) ⟨Nat.zero_le _, Nat.zero_le _⟩ (fun _ _ q => q.elim) (fun v7 h7 q7 => ?_)
    obtain ⟨rfl, rfl⟩ := q7
    refine z_ifne hY eX8_setScore_11 (by omega) (fun _ => ?_) (fun c => absurd c (by omega))
    refine z_const hY eX8_setScore_27 ?_
    refine z_goto hY eX8_setScore_28 ?_
    exact z_ireturn hY eX8_setScore_38 rfl (by rw [hφ]; exact ⟨1, _, _, rfl, rfl, by unfold S_setScore; (repeat' split) <;> first | exact ⟨rfl, rfl, rfl⟩ | exact ⟨rfl, by omega, rfl⟩ | exact ⟨rfl, rfl⟩ | (exfalso; omega)⟩) ⟨Nat.zero_le _, Nat.zero_le _⟩
def S_setReach (σ : z_S) (q : Int) (c r : Int) (ρ : z_S) : Prop := if 1 ≤ q ∧ q ≤ 5 then c = 0 ∧ r = σ 26 0 ∧ ρ = z_u σ 26 0 q else c = 1 ∧ ρ = z_u σ 0 0 1
theorem p_setReach {G : z_G} {A : Nat → Nat} {σ τ : z_S} {h : z_H} (hτ : z_u σ 0 0 0 = τ) (hG : z_OK G) (hA : mI A) (hB : mB τ) (hV : mV τ) {q : Int} (hr : -2147483648 ≤ q ∧ q ≤ 2147483647) : z_T G mX8_setReach [.ref (A 40), z_i q] (mH A σ h) 2 0 0 (fun v h' => ∃ (c r : Int) (ρ : z_S), v = some (z_i r) ∧ h' = mH A ρ h ∧ S_setReach τ q c r ρ) (z_no) := by
  have h00 : τ 0 0 = 0 := by rw [← hτ]; rfl
  obtain ⟨hf, hsc, hcm, hcr, hth, hgr, hlm, hld, hlo, hro, htm, hre, hpa, htp, hgp⟩ := id hV
  refine z_T_of hG pX8_setReach (Nat.le_of_ble_eq_true rfl) (ls0 := [(0, .ref (A 40)), (1, z_i q)]) rfl fun Y hY hg hmc hms hφ hψ => ?_
  subst hg
  refine z_aload hY eX8_setReach_0 0 rfl ?_
  refine z_const hY eX8_setReach_1 ?_
  refine m_pf hY hA eX8_setReach_2 (by decide) ?_
  rw [hτ]
  refine z_aload hY eX8_setReach_5 0 rfl ?_
  refine z_iload hY eX8_setReach_6 1 rfl ?_
  refine z_const hY eX8_setReach_7 ?_
  refine z_const hY eX8_setReach_8 ?_
  refine z_callSr (As := [z_i q, z_i 1, z_i 5]) (rest := [.ref (A 40)]) (r := z_i (z_bl (1 ≤ q ∧ q ≤ 5))) hY eX8_setReach_9 (m_in hG (by omega)) (by decide) (Nat.le_of_ble_eq_true rfl) ⟨Nat.zero_le _, Nat.zero_le _⟩ ?_
  refine z_const hY eX8_setReach_12 ?_
  have hgb := z_bl01 (1 ≤ q ∧ q ≤ 5)
  by_cases g1 : 1 ≤ q ∧ q ≤ 5
  · refine z_callVr (As := [z_i (z_bl (1 ≤ q ∧ q ≤ 5)), z_i 1]) (rest := []) (r := z_i 0) hY eX8_setReach_13 (m_fails_t hG hA hB h00 (g := (z_bl (1 ≤ q ∧ q ≤ 5))) (c := 1) (by rw [z_bl_t g1]; omega) (by omega)) (mH_at hA (k := 40) (by decide)) (by decide) (Nat.le_of_ble_eq_true rfl) ⟨Nat.zero_le _, Nat.zero_le _⟩ ?_
    refine z_ifeq hY eX8_setReach_16 (by omega) (fun _ => ?_) (fun c => absurd c (by omega))
    refine z_aload hY eX8_setReach_21 0 rfl ?_
    have hb2 := hB 26 0
    refine m_gf hY hA eX8_setReach_22 (v := z_i (τ 26 0)) rfl ?_
    refine z_istore hY eX8_setReach_25 (ls' := [(2, z_i (τ 26 0)), (0, .ref (A 40)), (1, z_i q)]) rfl ?_
    refine z_aload hY eX8_setReach_26 1 rfl ?_
    refine z_iload hY eX8_setReach_27 2 rfl ?_
    refine m_pf hY hA eX8_setReach_28 (by decide) ?_
    refine z_iload hY eX8_setReach_31 0 rfl ?_
    exact z_ireturn hY eX8_setReach_32 rfl (by rw [hφ]; exact ⟨0, _, _, rfl, rfl, by unfold S_setReach; (repeat' split) <;> first | exact ⟨rfl, rfl, rfl⟩ | exact ⟨rfl, by omega, rfl⟩ | exact ⟨rfl, rfl⟩ | (exfalso; omega)⟩) ⟨Nat.zero_le _, Nat.zero_le _⟩
  · refine z_callV (As := [z_i (z_bl (1 ≤ q ∧ q ≤ 5)), z_i 1]) (rest := []) hY eX8_setReach_13 (m_fails_f hG hA hB h00 (g := (z_bl (1 ≤ q ∧ q ≤ 5))) (c := 1) (z_bl_f g1) (by omega)) (mH_at hA (k := 40) (by decide)) (by decide) (Nat.le_of_ble_eq_true rfl) ⟨Nat.zero_le _, Nat.zero_le _⟩ (fun _ _ q => q.elim) (fun v3 h3 q3 => ?_)
    obtain ⟨rfl, rfl⟩ := q3
    refine z_ifeq hY eX8_setReach_16 (by omega) (fun c => absurd c (by omega)) (fun _ => ?_)
    refine z_const hY eX8_setReach_19 ?_
    exact z_ireturn hY eX8_setReach_20 rfl (by rw [hφ]; exact ⟨1, _, _, rfl, rfl, by unfold S_setReach; (repeat' split) <;> first | exact ⟨rfl, rfl, rfl⟩ | exact ⟨rfl, by omega, rfl⟩ | exact ⟨rfl, rfl⟩ | (exfalso; omega)⟩) ⟨Nat.zero_le _, Nat.zero_le _⟩
def S_setPatience (σ : z_S) (q : Int) (c r : Int) (ρ : z_S) : Prop := if 1 ≤ q ∧ q ≤ 9 then c = 0 ∧ r = σ 27 0 ∧ ρ = z_u σ 27 0 q else c = 1 ∧ ρ = z_u σ 0 0 1
theorem p_setPatience {G : z_G} {A : Nat → Nat} {σ τ : z_S} {h : z_H} (hτ : z_u σ 0 0 0 = τ) (hG : z_OK G) (hA : mI A) (hB : mB τ) (hV : mV τ) {q : Int} (hr : -2147483648 ≤ q ∧ q ≤ 2147483647) : z_T G mX8_setPatience [.ref (A 40), z_i q] (mH A σ h) 2 0 0 (fun v h' => ∃ (c r : Int) (ρ : z_S), v = some (z_i r) ∧ h' = mH A ρ h ∧ S_setPatience τ q c r ρ) (z_no) := by
  have h00 : τ 0 0 = 0 := by rw [← hτ]; rfl
  obtain ⟨hf, hsc, hcm, hcr, hth, hgr, hlm, hld, hlo, hro, htm, hre, hpa, htp, hgp⟩ := id hV
  refine z_T_of hG pX8_setPatience (Nat.le_of_ble_eq_true rfl) (ls0 := [(0, .ref (A 40)), (1, z_i q)]) rfl fun Y hY hg hmc hms hφ hψ => ?_
  subst hg
  refine z_aload hY eX8_setPatience_0 0 rfl ?_
  refine z_const hY eX8_setPatience_1 ?_
  refine m_pf hY hA eX8_setPatience_2 (by decide) ?_
  rw [hτ]
  refine z_aload hY eX8_setPatience_5 0 rfl ?_
  refine z_iload hY eX8_setPatience_6 1 rfl ?_
  refine z_const hY eX8_setPatience_7 ?_
  refine z_const hY eX8_setPatience_8 ?_
  refine z_callSr (As := [z_i q, z_i 1, z_i 9]) (rest := [.ref (A 40)]) (r := z_i (z_bl (1 ≤ q ∧ q ≤ 9))) hY eX8_setPatience_10 (m_in hG (by omega)) (by decide) (Nat.le_of_ble_eq_true rfl) ⟨Nat.zero_le _, Nat.zero_le _⟩ ?_
  refine z_const hY eX8_setPatience_13 ?_
  have hgb := z_bl01 (1 ≤ q ∧ q ≤ 9)
  by_cases g1 : 1 ≤ q ∧ q ≤ 9
  · refine z_callVr (As := [z_i (z_bl (1 ≤ q ∧ q ≤ 9)), z_i 1]) (rest := []) (r := z_i 0) hY eX8_setPatience_14 (m_fails_t hG hA hB h00 (g := (z_bl (1 ≤ q ∧ q ≤ 9))) (c := 1) (by rw [z_bl_t g1]; omega) (by omega)) (mH_at hA (k := 40) (by decide)) (by decide) (Nat.le_of_ble_eq_true rfl) ⟨Nat.zero_le _, Nat.zero_le _⟩ ?_
    refine z_ifeq hY eX8_setPatience_17 (by omega) (fun _ => ?_) (fun c => absurd c (by omega))
    refine z_aload hY eX8_setPatience_22 0 rfl ?_
    have hb2 := hB 27 0
    refine m_gf hY hA eX8_setPatience_23 (v := z_i (τ 27 0)) rfl ?_
    refine z_istore hY eX8_setPatience_26 (ls' := [(2, z_i (τ 27 0)), (0, .ref (A 40)), (1, z_i q)]) rfl ?_
    refine z_aload hY eX8_setPatience_27 1 rfl ?_
    refine z_iload hY eX8_setPatience_28 2 rfl ?_
    refine m_pf hY hA eX8_setPatience_29 (by decide) ?_
    refine z_iload hY eX8_setPatience_32 0 rfl ?_
    exact z_ireturn hY eX8_setPatience_33 rfl (by rw [hφ]; exact ⟨0, _, _, rfl, rfl, by unfold S_setPatience; (repeat' split) <;> first | exact ⟨rfl, rfl, rfl⟩ | exact ⟨rfl, by omega, rfl⟩ | exact ⟨rfl, rfl⟩ | (exfalso; omega)⟩) ⟨Nat.zero_le _, Nat.zero_le _⟩
  · refine z_callV (As := [z_i (z_bl (1 ≤ q ∧ q ≤ 9)), z_i 1]) (rest := []) hY eX8_setPatience_14 (m_fails_f hG hA hB h00 (g := (z_bl (1 ≤ q ∧ q ≤ 9))) (c := 1) (z_bl_f g1) (by omega)) (mH_at hA (k := 40) (by decide)) (by decide) (Nat.le_of_ble_eq_true rfl) ⟨Nat.zero_le _, Nat.zero_le _⟩ (fun _ _ q => q.elim) (fun v3 h3 q3 => ?_)
    obtain ⟨rfl, rfl⟩ := q3
    refine z_ifeq hY eX8_setPatience_17 (by omega) (fun c => absurd c (by omega)) (fun _ => ?_)
    refine z_const hY eX8_setPatience_20 ?_
    exact z_ireturn hY eX8_setPatience_21 rfl (by rw [hφ]; exact ⟨1, _, _, rfl, rfl, by unfold S_setPatience; (repeat' split) <;> first | exact ⟨rfl, rfl, rfl⟩ | exact ⟨rfl, by omega, rfl⟩ | exact ⟨rfl, rfl⟩ | (exfalso; omega)⟩) ⟨Nat.zero_le _, Nat.zero_le _⟩
def S_leave (σ : z_S) (e : Int) (c r : Int) (ρ : z_S) : Prop := if pr σ e then c = 0 ∧ r = pl σ e ∧ ρ = yLv σ e else c = 1 ∧ ρ = z_u σ 0 0 1
theorem p_leave {G : z_G} {A : Nat → Nat} {σ τ : z_S} {h : z_H} (hτ : z_u σ 0 0 0 = τ) (hG : z_OK G) (hA : mI A) (hB : mB τ) (hV : mV τ) {e : Int} (hr : -2147483648 ≤ e ∧ e ≤ 2147483647) : z_T G mX8_leave [.ref (A 40), z_i e] (mH A σ h) 5 0 0 (fun v h' => ∃ (c r : Int) (ρ : z_S), v = some (z_i r) ∧ h' = mH A ρ h ∧ S_leave τ e c r ρ) (z_no) := by
  have h00 : τ 0 0 = 0 := by rw [← hτ]; rfl
  obtain ⟨hf, hsc, hcm, hcr, hth, hgr, hlm, hld, hlo, hro, htm, hre, hpa, htp, hgp⟩ := id hV
  refine z_T_of hG pX8_leave (Nat.le_of_ble_eq_true rfl) (ls0 := [(0, .ref (A 40)), (1, z_i e)]) rfl fun Y hY hg hmc hms hφ hψ => ?_
  subst hg
  refine z_aload hY eX8_leave_0 0 rfl ?_
  refine z_const hY eX8_leave_1 ?_
  refine m_pf hY hA eX8_leave_2 (by decide) ?_
  rw [hτ]
  refine z_aload hY eX8_leave_5 0 rfl ?_
  refine z_iload hY eX8_leave_6 1 rfl ?_
  by_cases g1 : pr τ e
  · refine z_callVr (As := [z_i e]) (rest := []) (r := z_i 0) hY eX8_leave_7 (m_noE_t hG hA hB hV h00 (by omega) g1) (mH_at hA (k := 40) (by decide)) (by decide) (Nat.le_of_ble_eq_true rfl) ⟨Nat.zero_le _, Nat.zero_le _⟩ ?_
    refine z_ifeq hY eX8_leave_10 (by omega) (fun _ => ?_) (fun c => absurd c (by omega))
    refine z_aload hY eX8_leave_15 0 rfl ?_
    refine z_iload hY eX8_leave_16 1 rfl ?_
    refine z_callVr (As := [z_i e]) (rest := []) (r := z_i (pl τ e)) hY eX8_leave_17 (m_placeOf hG hA hB hV (by omega)) (mH_at hA (k := 40) (by decide)) (by decide) (Nat.le_of_ble_eq_true rfl) ⟨Nat.zero_le _, Nat.zero_le _⟩ ?_
    have hc2 := pl_b hV (e := e) (by omega)
    refine z_istore hY eX8_leave_20 (ls' := [(2, z_i (pl τ e)), (0, .ref (A 40)), (1, z_i e)]) rfl ?_
    refine z_aload hY eX8_leave_21 1 rfl ?_
    refine m_gf hY hA eX8_leave_22 (v := .ref (A 18)) rfl ?_
    refine z_iload hY eX8_leave_25 2 rfl ?_
    refine z_const hY eX8_leave_26 ?_
    refine m_bas hY hA eX8_leave_27 (j := 18) (N := 30) (by decide) (fun _ => rfl) (by omega) (by first | omega | exact z_bl01 _) ?_
    refine z_aload hY eX8_leave_28 1 rfl ?_
    refine z_iload hY eX8_leave_29 2 rfl ?_
    have hB1 : mB (z_u τ 18 e 0) := mB_u hB (by omega)
    have hV1 : mV (z_u τ 18 e 0) := mV_18 hV (by omega)
    refine z_callVr (As := [z_i e]) (rest := []) (r := z_i (lp τ e)) hY eX8_leave_30 (m_ladderPlaceOf hG hA hB1 hV1 (by omega)) (mH_at hA (k := 40) (by decide)) (by decide) (Nat.le_of_ble_eq_true rfl) ⟨Nat.zero_le _, Nat.zero_le _⟩ ?_
    have hlb := lp_b hV (e := e)
    refine z_istore hY eX8_leave_33 (ls' := [(3, z_i (lp τ e)), (2, z_i (pl τ e)), (0, .ref (A 40)), (1, z_i e)]) rfl ?_
    refine z_iload hY eX8_leave_34 0 rfl ?_
    refine z_const hY eX8_leave_35 ?_
    refine z_icmpne hY eX8_leave_36 (by omega) (fun c36 => ?_) (fun c36 => ?_)
    · refine z_aload hY eX8_leave_41 2 rfl ?_
      refine z_dup hY eX8_leave_42 rfl ?_
      have hb3 := hB 25 0
      refine m_gf hY hA eX8_leave_43 (v := z_i (τ 25 0)) (by simp [mF, z_u, z_ur]) ?_
      refine z_const hY eX8_leave_46 ?_
      refine z_isub hY eX8_leave_47 ?_
      refine m_pf hY hA eX8_leave_48 (by decide) ?_
      refine z_iload hY eX8_leave_51 0 rfl ?_
      refine z_const hY eX8_leave_52 ?_
      refine z_isub hY eX8_leave_53 ?_
      refine z_istore hY eX8_leave_54 (ls' := [(4, z_i ((lp τ e) - 1)), (3, z_i (lp τ e)), (2, z_i (pl τ e)), (0, .ref (A 40)), (1, z_i e)]) rfl ?_
      refine z_sub [3, 2, 0] (ls' := [(0, .ref (A 40)), (2, z_i (pl τ e)), (4, z_i ((lp τ e) - 1))]) rfl ?_
      have lp56 : ∀ (fu : Nat) (k : Int), (τ 25 0 - k).toNat < fu → lp τ e - 1 ≤ k ∧ k ≤ τ 25 0 - 1 → z_W Y 56 [(0, .ref (A 40)), (2, z_i (pl τ e)), (4, z_i k)] [] (mH A (z_ur (z_u (z_u τ 18 e 0) 25 0 (τ 25 0 - 1)) 21 (fun i => if lp τ e - 1 ≤ i ∧ i < k then τ 21 (i + 1) else τ 21 i)) h) 0 0 := by
        intro fu
        induction fu with
        | zero => intro k hf; exact absurd hf (Nat.not_lt_zero _)
        | succ fu ih56 =>
          intro k hf h0
          refine z_iload hY eX8_leave_56 2 rfl ?_
          refine z_aload hY eX8_leave_58 0 rfl ?_
          refine m_gf hY hA eX8_leave_59 (v := z_i (τ 25 0 - 1)) (by simp [mF, z_u, z_ur]) ?_
          refine z_icmpge hY eX8_leave_62 (by omega) (fun c62 => ?_) (fun c62 => ?_)
          · obtain rfl : k = τ 25 0 - 1 := by omega
            refine z_iload hY eX8_leave_87 1 rfl ?_
            exact z_ireturn hY eX8_leave_88 rfl (by rw [hφ]; exact ⟨0, _, _, rfl, rfl, by unfold S_leave; rw [if_pos (by omega)]; exact ⟨rfl, rfl, (if_neg (by omega)).symm⟩⟩) ⟨Nat.zero_le _, Nat.zero_le _⟩
          · refine z_aload hY eX8_leave_65 0 rfl ?_
            refine m_gf hY hA eX8_leave_66 (v := .ref (A 21)) rfl ?_
            refine z_iload hY eX8_leave_69 2 rfl ?_
            refine z_aload hY eX8_leave_71 0 rfl ?_
            refine m_gf hY hA eX8_leave_72 (v := .ref (A 21)) rfl ?_
            refine z_iload hY eX8_leave_75 2 rfl ?_
            refine z_const hY eX8_leave_77 ?_
            refine z_iadd hY eX8_leave_78 ?_
            refine m_ial hY hA eX8_leave_79 (j := 21) (N := 30) (x := τ 21 (k + 1)) (by decide) rfl (by omega) (by rw [z_ur_at]; exact if_neg (by omega)) ?_
            refine m_ias hY hA eX8_leave_80 (j := 21) (N := 30) (by decide) (fun _ => rfl) (by omega) ?_
            refine z_iinc hY eX8_leave_81 2 rfl (ls' := [(4, z_i (k + 1)), (0, .ref (A 40)), (2, z_i (pl τ e))]) rfl ?_
            refine z_goto hY eX8_leave_84 ?_
            refine z_sub [1, 2, 0] (ls' := [(0, .ref (A 40)), (2, z_i (pl τ e)), (4, z_i (k + 1))]) rfl ?_
            refine z_heq (congrArg (fun q => mH A q h) (show z_u (z_ur (z_u (z_u τ 18 e 0) 25 0 (τ 25 0 - 1)) 21 (fun i => if lp τ e - 1 ≤ i ∧ i < k then τ 21 (i + 1) else τ 21 i)) 21 k (τ 21 (k + 1)) = z_ur (z_u (z_u τ 18 e 0) 25 0 (τ 25 0 - 1)) 21 (fun i => if lp τ e - 1 ≤ i ∧ i < (k + 1) then τ 21 (i + 1) else τ 21 i) from (z_ur_u (if_pos (by omega)) (fun j hj => by show ite _ _ _ = ite _ _ _; split <;> split <;> first | rfl | (exfalso; omega))))) ?_
            exact ih56 (k + 1) (by omega) (by omega)
      refine z_heq (congrArg (fun q => mH A q h) (show z_u (z_u τ 18 e 0) 25 0 ((τ 25 0) - 1) = z_ur (z_u (z_u τ 18 e 0) 25 0 (τ 25 0 - 1)) 21 (fun i => if lp τ e - 1 ≤ i ∧ i < ((lp τ e) - 1) then τ 21 (i + 1) else τ 21 i) from (z_ur_id (fun i => if_neg (by omega))))) ?_
      exact lp56 _ ((lp τ e) - 1) (Nat.lt_succ_self _) (by omega)
    · refine z_iload hY eX8_leave_39 1 rfl ?_
      exact z_ireturn hY eX8_leave_40 rfl (by rw [hφ]; exact ⟨0, _, _, rfl, rfl, by unfold S_leave; rw [if_pos (by omega)]; exact ⟨rfl, rfl, (if_pos (by omega)).symm⟩⟩) ⟨Nat.zero_le _, Nat.zero_le _⟩
  · refine z_callV (As := [z_i e]) (rest := []) hY eX8_leave_7 (m_noE_f hG hA hB hV h00 (by omega) g1) (mH_at hA (k := 40) (by decide)) (by decide) (Nat.le_of_ble_eq_true rfl) ⟨Nat.zero_le _, Nat.zero_le _⟩ (fun _ _ q => q.elim) (fun v4 h4 q4 => ?_)
    obtain ⟨rfl, rfl⟩ := q4
    refine z_ifeq hY eX8_leave_10 (by omega) (fun c => absurd c (by omega)) (fun _ => ?_)
    refine z_const hY eX8_leave_13 ?_
    exact z_ireturn hY eX8_leave_14 rfl (by rw [hφ]; exact ⟨1, _, _, rfl, rfl, by unfold S_leave; (repeat' split) <;> first | exact ⟨rfl, rfl, rfl⟩ | exact ⟨rfl, by omega, rfl⟩ | exact ⟨rfl, rfl⟩ | (exfalso; omega)⟩) ⟨Nat.zero_le _, Nat.zero_le _⟩
def S_enter (σ : z_S) (e : Int) (c r : Int) (ρ : z_S) : Prop := if pr σ e then (if lp σ e = -1 then c = 0 ∧ r = σ 25 0 + 1 ∧ ρ = yEn σ e else c = 2 ∧ ρ = z_u σ 0 0 2) else c = 1 ∧ ρ = z_u σ 0 0 1
theorem p_enter {G : z_G} {A : Nat → Nat} {σ τ : z_S} {h : z_H} (hτ : z_u σ 0 0 0 = τ) (hG : z_OK G) (hA : mI A) (hB : mB τ) (hV : mV τ) {e : Int} (hr : -2147483648 ≤ e ∧ e ≤ 2147483647) (hlx : pr τ e → lp τ e = -1 → τ 25 0 < 30) : z_T G mX8_enter [.ref (A 40), z_i e] (mH A σ h) 3 0 0 (fun v h' => ∃ (c r : Int) (ρ : z_S), v = some (z_i r) ∧ h' = mH A ρ h ∧ S_enter τ e c r ρ) (z_no) := by
  have h00 : τ 0 0 = 0 := by rw [← hτ]; rfl
  obtain ⟨hf, hsc, hcm, hcr, hth, hgr, hlm, hld, hlo, hro, htm, hre, hpa, htp, hgp⟩ := id hV
  refine z_T_of hG pX8_enter (Nat.le_of_ble_eq_true rfl) (ls0 := [(0, .ref (A 40)), (1, z_i e)]) rfl fun Y hY hg hmc hms hφ hψ => ?_
  subst hg
  refine z_aload hY eX8_enter_0 0 rfl ?_
  refine z_const hY eX8_enter_1 ?_
  refine m_pf hY hA eX8_enter_2 (by decide) ?_
  rw [hτ]
  refine z_aload hY eX8_enter_5 0 rfl ?_
  refine z_iload hY eX8_enter_6 1 rfl ?_
  by_cases g1 : pr τ e
  · refine z_callVr (As := [z_i e]) (rest := []) (r := z_i 0) hY eX8_enter_7 (m_noE_t hG hA hB hV h00 (by omega) g1) (mH_at hA (k := 40) (by decide)) (by decide) (Nat.le_of_ble_eq_true rfl) ⟨Nat.zero_le _, Nat.zero_le _⟩ ?_
    refine z_ifne hY eX8_enter_10 (by omega) (fun c => absurd c (by omega)) (fun _ => ?_)
    refine z_aload hY eX8_enter_13 0 rfl ?_
    refine z_aload hY eX8_enter_14 0 rfl ?_
    refine z_iload hY eX8_enter_15 1 rfl ?_
    refine z_callVr (As := [z_i e]) (rest := [.ref (A 40)]) (r := z_i (lp τ e)) hY eX8_enter_16 (m_ladderPlaceOf hG hA hB hV (by omega)) (mH_at hA (k := 40) (by decide)) (by decide) (Nat.le_of_ble_eq_true rfl) ⟨Nat.zero_le _, Nat.zero_le _⟩ ?_
    have hc2 := lp_b hV (e := e)
    refine z_const hY eX8_enter_19 ?_
    refine z_icmpne hY eX8_enter_20 (by omega) (fun c20 => ?_) (fun c20 => ?_)
    · refine z_const hY eX8_enter_27 ?_
      refine z_const hY eX8_enter_28 ?_
      refine z_callV (As := [z_i 0, z_i 2]) (rest := []) hY eX8_enter_29 (m_fails_f hG hA hB h00 (g := 0) (c := 2) (by omega) (by omega)) (mH_at hA (k := 40) (by decide)) (by decide) (Nat.le_of_ble_eq_true rfl) ⟨Nat.zero_le _, Nat.zero_le _⟩ (fun _ _ q => q.elim) (fun v3 h3 q3 => ?_)
      obtain ⟨rfl, rfl⟩ := q3
      refine z_ifeq hY eX8_enter_32 (by omega) (fun c => absurd c (by omega)) (fun _ => ?_)
      refine z_const hY eX8_enter_35 ?_
      exact z_ireturn hY eX8_enter_36 rfl (by rw [hφ]; exact ⟨2, _, _, rfl, rfl, by unfold S_enter; (repeat' split) <;> first | exact ⟨rfl, rfl, rfl⟩ | exact ⟨rfl, by omega, rfl⟩ | exact ⟨rfl, rfl⟩ | (exfalso; omega)⟩) ⟨Nat.zero_le _, Nat.zero_le _⟩
    · refine z_const hY eX8_enter_23 ?_
      refine z_goto hY eX8_enter_24 ?_
      refine z_const hY eX8_enter_28 ?_
      refine z_callVr (As := [z_i 1, z_i 2]) (rest := []) (r := z_i 0) hY eX8_enter_29 (m_fails_t hG hA hB h00 (g := 1) (c := 2) (by omega) (by omega)) (mH_at hA (k := 40) (by decide)) (by decide) (Nat.le_of_ble_eq_true rfl) ⟨Nat.zero_le _, Nat.zero_le _⟩ ?_
      refine z_ifeq hY eX8_enter_32 (by omega) (fun _ => ?_) (fun c => absurd c (by omega))
      have hlm1 : τ 25 0 < 30 := hlx (by omega) (by omega)
      refine z_aload hY eX8_enter_37 0 rfl ?_
      refine m_gf hY hA eX8_enter_38 (v := .ref (A 21)) rfl ?_
      refine z_aload hY eX8_enter_41 0 rfl ?_
      have hb4 := hB 25 0
      refine m_gf hY hA eX8_enter_42 (v := z_i (τ 25 0)) rfl ?_
      refine z_iload hY eX8_enter_45 1 rfl ?_
      refine m_ias hY hA eX8_enter_46 (j := 21) (N := 30) (by decide) (fun _ => rfl) (by omega) ?_
      refine z_aload hY eX8_enter_47 0 rfl ?_
      refine z_dup hY eX8_enter_48 rfl ?_
      refine m_gf hY hA eX8_enter_49 (v := z_i (τ 25 0)) (by simp [mF, z_u, z_ur]) ?_
      refine z_const hY eX8_enter_52 ?_
      refine z_iadd hY eX8_enter_53 ?_
      refine m_pf hY hA eX8_enter_54 (by decide) ?_
      refine z_aload hY eX8_enter_57 0 rfl ?_
      refine m_gf hY hA eX8_enter_58 (v := .ref (A 22)) rfl ?_
      refine z_iload hY eX8_enter_61 1 rfl ?_
      refine z_aload hY eX8_enter_62 0 rfl ?_
      have hb5 := hB 30 0
      refine m_gf hY hA eX8_enter_63 (v := z_i (τ 30 0)) (by simp [mF, z_u, z_ur]) ?_
      refine m_ias hY hA eX8_enter_66 (j := 22) (N := 30) (by decide) (fun _ => rfl) (by omega) ?_
      refine z_aload hY eX8_enter_67 0 rfl ?_
      refine m_gf hY hA eX8_enter_68 (v := .ref (A 23)) rfl ?_
      refine z_iload hY eX8_enter_71 1 rfl ?_
      refine z_const hY eX8_enter_72 ?_
      refine m_ias hY hA eX8_enter_73 (j := 23) (N := 30) (by decide) (fun _ => rfl) (by omega) ?_
      refine z_aload hY eX8_enter_74 0 rfl ?_
      refine m_gf hY hA eX8_enter_75 (v := z_i ((τ 25 0) + 1)) (by simp [mF, z_u, z_ur]) ?_
      exact z_ireturn hY eX8_enter_78 rfl (by rw [hφ]; exact ⟨0, _, _, rfl, rfl, by unfold S_enter; (repeat' split) <;> first | exact ⟨rfl, rfl, rfl⟩ | exact ⟨rfl, by omega, rfl⟩ | exact ⟨rfl, rfl⟩ | (exfalso; omega)⟩) ⟨Nat.zero_le _, Nat.zero_le _⟩
  · refine z_callV (As := [z_i e]) (rest := []) hY eX8_enter_7 (m_noE_f hG hA hB hV h00 (by omega) g1) (mH_at hA (k := 40) (by decide)) (by decide) (Nat.le_of_ble_eq_true rfl) ⟨Nat.zero_le _, Nat.zero_le _⟩ (fun _ _ q => q.elim) (fun v6 h6 q6 => ?_)
    obtain ⟨rfl, rfl⟩ := q6
    refine z_ifne hY eX8_enter_10 (by omega) (fun _ => ?_) (fun c => absurd c (by omega))
    refine z_const hY eX8_enter_35 ?_
    exact z_ireturn hY eX8_enter_36 rfl (by rw [hφ]; exact ⟨1, _, _, rfl, rfl, by unfold S_enter; (repeat' split) <;> first | exact ⟨rfl, rfl, rfl⟩ | exact ⟨rfl, by omega, rfl⟩ | exact ⟨rfl, rfl⟩ | (exfalso; omega)⟩) ⟨Nat.zero_le _, Nat.zero_le _⟩
def S_challenge (σ : z_S) (e o w : Int) (c r : Int) (ρ : z_S) : Prop := if pr σ e ∧ pr σ o then (if lp σ e ≠ -1 ∧ lp σ o ≠ -1 ∧ lp σ o < lp σ e ∧ lp σ e - lp σ o ≤ σ 26 0 then c = 0 ∧ r = (if w = 0 then lp σ e else lp σ o) ∧ ρ = yCh σ e o w else c = 2 ∧ ρ = z_u σ 0 0 2) else c = 1 ∧ ρ = z_u σ 0 0 1
theorem p_challenge {G : z_G} {A : Nat → Nat} {σ τ : z_S} {h : z_H} (hτ : z_u σ 0 0 0 = τ) (hG : z_OK G) (hA : mI A) (hB : mB τ) (hV : mV τ) {e o w : Int} (hr : -2147483648 ≤ e ∧ e ≤ 2147483647 ∧ -2147483648 ≤ o ∧ o ≤ 2147483647 ∧ -2147483648 ≤ w ∧ w ≤ 2147483647) : z_T G mX8_challenge [.ref (A 40), z_i e, z_i o, z_i w] (mH A σ h) 2 0 0 (fun v h' => ∃ (c r : Int) (ρ : z_S), v = some (z_i r) ∧ h' = mH A ρ h ∧ S_challenge τ e o w c r ρ) (z_no) := by
  have h00 : τ 0 0 = 0 := by rw [← hτ]; rfl
  obtain ⟨hf, hsc, hcm, hcr, hth, hgr, hlm, hld, hlo, hro, htm, hre, hpa, htp, hgp⟩ := id hV
  refine z_T_of hG pX8_challenge (Nat.le_of_ble_eq_true rfl) (ls0 := [(0, .ref (A 40)), (1, z_i e), (2, z_i o), (3, z_i w)]) rfl fun Y hY hg hmc hms hφ hψ => ?_
  subst hg
  refine z_aload hY eX8_challenge_0 0 rfl ?_
  refine z_const hY eX8_challenge_1 ?_
  refine m_pf hY hA eX8_challenge_2 (by decide) ?_
  rw [hτ]
  refine z_aload hY eX8_challenge_5 0 rfl ?_
  refine z_iload hY eX8_challenge_6 1 rfl ?_
  by_cases g1 : pr τ e
  · refine z_callVr (As := [z_i e]) (rest := []) (r := z_i 0) hY eX8_challenge_7 (m_noE_t hG hA hB hV h00 (by omega) g1) (mH_at hA (k := 40) (by decide)) (by decide) (Nat.le_of_ble_eq_true rfl) ⟨Nat.zero_le _, Nat.zero_le _⟩ ?_
    refine z_ifne hY eX8_challenge_10 (by omega) (fun c => absurd c (by omega)) (fun _ => ?_)
    refine z_aload hY eX8_challenge_13 0 rfl ?_
    refine z_iload hY eX8_challenge_14 2 rfl ?_
    by_cases g2 : pr τ o
    · refine z_callVr (As := [z_i o]) (rest := []) (r := z_i 0) hY eX8_challenge_15 (m_noE_t hG hA hB hV h00 (by omega) g2) (mH_at hA (k := 40) (by decide)) (by decide) (Nat.le_of_ble_eq_true rfl) ⟨Nat.zero_le _, Nat.zero_le _⟩ ?_
      refine z_ifeq hY eX8_challenge_18 (by omega) (fun _ => ?_) (fun c => absurd c (by omega))
      refine z_aload hY eX8_challenge_23 0 rfl ?_
      refine z_iload hY eX8_challenge_24 1 rfl ?_
      refine z_callVr (As := [z_i e]) (rest := []) (r := z_i (lp τ e)) hY eX8_challenge_25 (m_ladderPlaceOf hG hA hB hV (by omega)) (mH_at hA (k := 40) (by decide)) (by decide) (Nat.le_of_ble_eq_true rfl) ⟨Nat.zero_le _, Nat.zero_le _⟩ ?_
      have hc3 := lp_b hV (e := e)
      refine z_istore hY eX8_challenge_28 (ls' := [(4, z_i (lp τ e)), (0, .ref (A 40)), (1, z_i e), (2, z_i o), (3, z_i w)]) rfl ?_
      refine z_aload hY eX8_challenge_30 1 rfl ?_
      refine z_iload hY eX8_challenge_31 3 rfl ?_
      refine z_callVr (As := [z_i o]) (rest := []) (r := z_i (lp τ o)) hY eX8_challenge_32 (m_ladderPlaceOf hG hA hB hV (by omega)) (mH_at hA (k := 40) (by decide)) (by decide) (Nat.le_of_ble_eq_true rfl) ⟨Nat.zero_le _, Nat.zero_le _⟩ ?_
      have hc4 := lp_b hV (e := o)
      refine z_istore hY eX8_challenge_35 (ls' := [(5, z_i (lp τ o)), (4, z_i (lp τ e)), (0, .ref (A 40)), (1, z_i e), (2, z_i o), (3, z_i w)]) rfl ?_
      refine z_aload hY eX8_challenge_37 2 rfl ?_
      refine z_iload hY eX8_challenge_38 1 rfl ?_
      refine z_const hY eX8_challenge_40 ?_
      refine z_icmpeq hY eX8_challenge_41 (by omega) (fun c41 => ?_) (fun c41 => ?_)
      · refine z_const hY eX8_challenge_73 ?_
        refine z_const hY eX8_challenge_74 ?_
        refine z_callV (As := [z_i 0, z_i 2]) (rest := []) hY eX8_challenge_75 (m_fails_f hG hA hB h00 (g := 0) (c := 2) (by omega) (by omega)) (mH_at hA (k := 40) (by decide)) (by decide) (Nat.le_of_ble_eq_true rfl) ⟨Nat.zero_le _, Nat.zero_le _⟩ (fun _ _ q => q.elim) (fun v5 h5 q5 => ?_)
        obtain ⟨rfl, rfl⟩ := q5
        refine z_ifeq hY eX8_challenge_78 (by omega) (fun c => absurd c (by omega)) (fun _ => ?_)
        refine z_const hY eX8_challenge_81 ?_
        exact z_ireturn hY eX8_challenge_82 rfl (by rw [hφ]; exact ⟨2, _, _, rfl, rfl, by unfold S_challenge; (repeat' split) <;> first | exact ⟨rfl, rfl, rfl⟩ | exact ⟨rfl, by omega, rfl⟩ | exact ⟨rfl, rfl⟩ | (exfalso; omega)⟩) ⟨Nat.zero_le _, Nat.zero_le _⟩
      · refine z_iload hY eX8_challenge_44 0 rfl ?_
        refine z_const hY eX8_challenge_46 ?_
        refine z_icmpeq hY eX8_challenge_47 (by omega) (fun c47 => ?_) (fun c47 => ?_)
        · refine z_const hY eX8_challenge_73 ?_
          refine z_const hY eX8_challenge_74 ?_
          refine z_callV (As := [z_i 0, z_i 2]) (rest := []) hY eX8_challenge_75 (m_fails_f hG hA hB h00 (g := 0) (c := 2) (by omega) (by omega)) (mH_at hA (k := 40) (by decide)) (by decide) (Nat.le_of_ble_eq_true rfl) ⟨Nat.zero_le _, Nat.zero_le _⟩ (fun _ _ q => q.elim) (fun v6 h6 q6 => ?_)
          obtain ⟨rfl, rfl⟩ := q6
          refine z_ifeq hY eX8_challenge_78 (by omega) (fun c => absurd c (by omega)) (fun _ => ?_)
          refine z_const hY eX8_challenge_81 ?_
          exact z_ireturn hY eX8_challenge_82 rfl (by rw [hφ]; exact ⟨2, _, _, rfl, rfl, by unfold S_challenge; (repeat' split) <;> first | exact ⟨rfl, rfl, rfl⟩ | exact ⟨rfl, by omega, rfl⟩ | exact ⟨rfl, rfl⟩ | (exfalso; omega)⟩) ⟨Nat.zero_le _, Nat.zero_le _⟩
        · refine z_iload hY eX8_challenge_50 0 rfl ?_
          refine z_iload hY eX8_challenge_52 1 rfl ?_
          refine z_icmpge hY eX8_challenge_54 (by omega) (fun c54 => ?_) (fun c54 => ?_)
          · refine z_const hY eX8_challenge_73 ?_
            refine z_const hY eX8_challenge_74 ?_
            refine z_callV (As := [z_i 0, z_i 2]) (rest := []) hY eX8_challenge_75 (m_fails_f hG hA hB h00 (g := 0) (c := 2) (by omega) (by omega)) (mH_at hA (k := 40) (by decide)) (by decide) (Nat.le_of_ble_eq_true rfl) ⟨Nat.zero_le _, Nat.zero_le _⟩ (fun _ _ q => q.elim) (fun v7 h7 q7 => ?_)
            obtain ⟨rfl, rfl⟩ := q7
            refine z_ifeq hY eX8_challenge_78 (by omega) (fun c => absurd c (by omega)) (fun _ => ?_)
            refine z_const hY eX8_challenge_81 ?_
            exact z_ireturn hY eX8_challenge_82 rfl (by rw [hφ]; exact ⟨2, _, _, rfl, rfl, by unfold S_challenge; (repeat' split) <;> first | exact ⟨rfl, rfl, rfl⟩ | exact ⟨rfl, by omega, rfl⟩ | exact ⟨rfl, rfl⟩ | (exfalso; omega)⟩) ⟨Nat.zero_le _, Nat.zero_le _⟩
          · refine z_iload hY eX8_challenge_57 1 rfl ?_
            refine z_iload hY eX8_challenge_59 0 rfl ?_
            refine z_isub hY eX8_challenge_61 ?_
            refine z_aload hY eX8_challenge_62 2 rfl ?_
            have hb8 := hB 26 0
            refine m_gf hY hA eX8_challenge_63 (v := z_i (τ 26 0)) rfl ?_
            refine z_icmpgt hY eX8_challenge_66 (by omega) (fun c66 => ?_) (fun c66 => ?_)
            · refine z_const hY eX8_challenge_73 ?_
              refine z_const hY eX8_challenge_74 ?_
              refine z_callV (As := [z_i 0, z_i 2]) (rest := []) hY eX8_challenge_75 (m_fails_f hG hA hB h00 (g := 0) (c := 2) (by omega) (by omega)) (mH_at hA (k := 40) (by decide)) (by decide) (Nat.le_of_ble_eq_true rfl) ⟨Nat.zero_le _, Nat.zero_le _⟩ (fun _ _ q => q.elim) (fun v9 h9 q9 => ?_)
              obtain ⟨rfl, rfl⟩ := q9
              refine z_ifeq hY eX8_challenge_78 (by omega) (fun c => absurd c (by omega)) (fun _ => ?_)
              refine z_const hY eX8_challenge_81 ?_
              exact z_ireturn hY eX8_challenge_82 rfl (by rw [hφ]; exact ⟨2, _, _, rfl, rfl, by unfold S_challenge; (repeat' split) <;> first | exact ⟨rfl, rfl, rfl⟩ | exact ⟨rfl, by omega, rfl⟩ | exact ⟨rfl, rfl⟩ | (exfalso; omega)⟩) ⟨Nat.zero_le _, Nat.zero_le _⟩
            · refine z_const hY eX8_challenge_69 ?_
              refine z_goto hY eX8_challenge_70 ?_
              refine z_const hY eX8_challenge_74 ?_
              refine z_callVr (As := [z_i 1, z_i 2]) (rest := []) (r := z_i 0) hY eX8_challenge_75 (m_fails_t hG hA hB h00 (g := 1) (c := 2) (by omega) (by omega)) (mH_at hA (k := 40) (by decide)) (by decide) (Nat.le_of_ble_eq_true rfl) ⟨Nat.zero_le _, Nat.zero_le _⟩ ?_
              refine z_ifeq hY eX8_challenge_78 (by omega) (fun _ => ?_) (fun c => absurd c (by omega))
              refine z_aload hY eX8_challenge_83 2 rfl ?_
              refine m_gf hY hA eX8_challenge_84 (v := .ref (A 23)) rfl ?_
              refine z_iload hY eX8_challenge_87 3 rfl ?_
              refine z_aload hY eX8_challenge_88 2 rfl ?_
              have hb10 := hB 30 0
              refine m_gf hY hA eX8_challenge_89 (v := z_i (τ 30 0)) rfl ?_
              refine m_ias hY hA eX8_challenge_92 (j := 23) (N := 30) (by decide) (fun _ => rfl) (by omega) ?_
              refine z_aload hY eX8_challenge_93 2 rfl ?_
              refine m_gf hY hA eX8_challenge_94 (v := .ref (A 23)) rfl ?_
              refine z_iload hY eX8_challenge_97 4 rfl ?_
              refine z_aload hY eX8_challenge_98 2 rfl ?_
              refine m_gf hY hA eX8_challenge_99 (v := z_i (τ 30 0)) (by simp [mF, z_u, z_ur]) ?_
              refine m_ias hY hA eX8_challenge_102 (j := 23) (N := 30) (by decide) (fun _ => rfl) (by omega) ?_
              refine z_iload hY eX8_challenge_103 5 rfl ?_
              refine z_ifne hY eX8_challenge_104 (by omega) (fun c104 => ?_) (fun c104 => ?_)
              · refine z_iload hY eX8_challenge_110 1 rfl ?_
                refine z_const hY eX8_challenge_112 ?_
                refine z_isub hY eX8_challenge_113 ?_
                refine z_istore hY eX8_challenge_114 (ls' := [(6, z_i ((lp τ e) - 1)), (5, z_i (lp τ o)), (4, z_i (lp τ e)), (0, .ref (A 40)), (1, z_i e), (2, z_i o), (3, z_i w)]) rfl ?_
                refine z_sub [3, 4, 5, 1, 0] (ls' := [(0, .ref (A 40)), (1, z_i e), (2, z_i o), (5, z_i (lp τ o)), (6, z_i ((lp τ e) - 1))]) rfl ?_
                have lp116 : ∀ (fu : Nat) (k : Int), (k - lp τ o + 2).toNat < fu → lp τ o - 1 ≤ k ∧ k ≤ lp τ e - 1 → z_W Y 116 [(0, .ref (A 40)), (1, z_i e), (2, z_i o), (5, z_i (lp τ o)), (6, z_i k)] [] (mH A (z_ur (z_u (z_u τ 23 e (τ 30 0)) 23 o (τ 30 0)) 21 (fun i => if k < i ∧ i ≤ lp τ e - 1 then τ 21 (i - 1) else τ 21 i)) h) 0 0 := by
                  intro fu
                  induction fu with
                  | zero => intro k hf; exact absurd hf (Nat.not_lt_zero _)
                  | succ fu ih116 =>
                    intro k hf h0
                    refine z_iload hY eX8_challenge_116 4 rfl ?_
                    refine z_iload hY eX8_challenge_118 3 rfl ?_
                    refine z_const hY eX8_challenge_120 ?_
                    refine z_isub hY eX8_challenge_121 ?_
                    refine z_icmple hY eX8_challenge_122 (by omega) (fun c122 => ?_) (fun c122 => ?_)
                    · obtain rfl : k = lp τ o - 1 := by omega
                      refine z_aload hY eX8_challenge_147 0 rfl ?_
                      refine m_gf hY hA eX8_challenge_148 (v := .ref (A 21)) rfl ?_
                      refine z_iload hY eX8_challenge_151 3 rfl ?_
                      refine z_const hY eX8_challenge_153 ?_
                      refine z_isub hY eX8_challenge_154 ?_
                      refine z_iload hY eX8_challenge_155 1 rfl ?_
                      refine m_ias hY hA eX8_challenge_156 (j := 21) (N := 30) (by decide) (fun _ => rfl) (by omega) ?_
                      refine z_iload hY eX8_challenge_157 3 rfl ?_
                      exact z_ireturn hY eX8_challenge_159 rfl (by rw [hφ]; exact ⟨0, _, _, rfl, rfl, by unfold S_challenge; rw [if_pos (by omega), if_pos (by omega), if_neg (by omega)]; exact ⟨rfl, rfl, (if_neg (by omega)).symm⟩⟩) ⟨Nat.zero_le _, Nat.zero_le _⟩
                    · refine z_aload hY eX8_challenge_125 0 rfl ?_
                      refine m_gf hY hA eX8_challenge_126 (v := .ref (A 21)) rfl ?_
                      refine z_iload hY eX8_challenge_129 4 rfl ?_
                      refine z_aload hY eX8_challenge_131 0 rfl ?_
                      refine m_gf hY hA eX8_challenge_132 (v := .ref (A 21)) rfl ?_
                      refine z_iload hY eX8_challenge_135 4 rfl ?_
                      refine z_const hY eX8_challenge_137 ?_
                      refine z_isub hY eX8_challenge_138 ?_
                      refine m_ial hY hA eX8_challenge_139 (j := 21) (N := 30) (x := τ 21 (k - 1)) (by decide) rfl (by omega) (by rw [z_ur_at]; exact if_neg (by omega)) ?_
                      refine m_ias hY hA eX8_challenge_140 (j := 21) (N := 30) (by decide) (fun _ => rfl) (by omega) ?_
                      refine z_iinc hY eX8_challenge_141 4 rfl (ls' := [(6, z_i (k + (-1))), (0, .ref (A 40)), (1, z_i e), (2, z_i o), (5, z_i (lp τ o))]) rfl ?_
                      refine z_lq (ls' := [(6, z_i (k - 1)), (0, .ref (A 40)), (1, z_i e), (2, z_i o), (5, z_i (lp τ o))]) (by rw [show (k + (-1) : Int) = k - 1 by omega]) ?_
                      refine z_goto hY eX8_challenge_144 ?_
                      refine z_sub [1, 2, 3, 4, 0] (ls' := [(0, .ref (A 40)), (1, z_i e), (2, z_i o), (5, z_i (lp τ o)), (6, z_i (k - 1))]) rfl ?_
                      refine z_heq (congrArg (fun q => mH A q h) (show z_u (z_ur (z_u (z_u τ 23 e (τ 30 0)) 23 o (τ 30 0)) 21 (fun i => if k < i ∧ i ≤ lp τ e - 1 then τ 21 (i - 1) else τ 21 i)) 21 k (τ 21 (k - 1)) = z_ur (z_u (z_u τ 23 e (τ 30 0)) 23 o (τ 30 0)) 21 (fun i => if (k - 1) < i ∧ i ≤ lp τ e - 1 then τ 21 (i - 1) else τ 21 i) from (z_ur_u (if_pos (by omega)) (fun j hj => by show ite _ _ _ = ite _ _ _; split <;> split <;> first | rfl | (exfalso; omega))))) ?_
                      exact ih116 (k - 1) (by omega) (by omega)
                refine z_heq (congrArg (fun q => mH A q h) (show z_u (z_u τ 23 e (τ 30 0)) 23 o (τ 30 0) = z_ur (z_u (z_u τ 23 e (τ 30 0)) 23 o (τ 30 0)) 21 (fun i => if ((lp τ e) - 1) < i ∧ i ≤ lp τ e - 1 then τ 21 (i - 1) else τ 21 i) from (z_ur_id (fun i => if_neg (by omega))))) ?_
                exact lp116 _ ((lp τ e) - 1) (Nat.lt_succ_self _) (by omega)
              · refine z_iload hY eX8_challenge_107 1 rfl ?_
                exact z_ireturn hY eX8_challenge_109 rfl (by rw [hφ]; exact ⟨0, _, _, rfl, rfl, by unfold S_challenge; rw [if_pos (by omega), if_pos (by omega), if_pos (by omega)]; exact ⟨rfl, rfl, (if_pos (by omega)).symm⟩⟩) ⟨Nat.zero_le _, Nat.zero_le _⟩
    · refine z_callV (As := [z_i o]) (rest := []) hY eX8_challenge_15 (m_noE_f hG hA hB hV h00 (by omega) g2) (mH_at hA (k := 40) (by decide)) (by decide) (Nat.le_of_ble_eq_true rfl) ⟨Nat.zero_le _, Nat.zero_le _⟩ (fun _ _ q => q.elim) (fun v11 h11 q11 => ?_)
      obtain ⟨rfl, rfl⟩ := q11
      refine z_ifeq hY eX8_challenge_18 (by omega) (fun c => absurd c (by omega)) (fun _ => ?_)
      refine z_const hY eX8_challenge_21 ?_
      exact z_ireturn hY eX8_challenge_22 rfl (by rw [hφ]; exact ⟨1, _, _, rfl, rfl, by unfold S_challenge; (repeat' split) <;> first | exact ⟨rfl, rfl, rfl⟩ | exact ⟨rfl, by omega, rfl⟩ | exact ⟨rfl, rfl⟩ | (exfalso; omega)⟩) ⟨Nat.zero_le _, Nat.zero_le _⟩
  · refine z_callV (As := [z_i e]) (rest := []) hY eX8_challenge_7 (m_noE_f hG hA hB hV h00 (by omega) g1) (mH_at hA (k := 40) (by decide)) (by decide) (Nat.le_of_ble_eq_true rfl) ⟨Nat.zero_le _, Nat.zero_le _⟩ (fun _ _ q => q.elim) (fun v12 h12 q12 => ?_)
    obtain ⟨rfl, rfl⟩ := q12
    refine z_ifne hY eX8_challenge_10 (by omega) (fun _ => ?_) (fun c => absurd c (by omega))
    refine z_const hY eX8_challenge_21 ?_
    exact z_ireturn hY eX8_challenge_22 rfl (by rw [hφ]; exact ⟨1, _, _, rfl, rfl, by unfold S_challenge; (repeat' split) <;> first | exact ⟨rfl, rfl, rfl⟩ | exact ⟨rfl, by omega, rfl⟩ | exact ⟨rfl, rfl⟩ | (exfalso; omega)⟩) ⟨Nat.zero_le _, Nat.zero_le _⟩
end M4
