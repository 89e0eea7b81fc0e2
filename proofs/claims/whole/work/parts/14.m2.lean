/-! THE MODEL's public methods that read (laid by wip/whole/gen/gm2.py). -/
section M2
theorem z_u_id {τ : z_S} (h : τ 0 0 = 0) : z_u τ 0 0 0 = τ := by
  funext k i
  unfold z_u
  split
  · split
    · rename_i h1 h2; rw [h1, h2, h]
    · rfl
  · rfl
def z_fo (f : Int → Int → Int) (a : Int) : Nat → Int
  | 0 => a
  | n + 1 => f (z_fo f a n) n
def z_fl (f : Int → Int → Int) (a o : Int) : Int := z_fo f a o.toNat
theorem z_fl0 {f : Int → Int → Int} {a o : Int} (h : o ≤ 0) : z_fl f a o = a := by
  unfold z_fl
  rw [Int.toNat_of_nonpos h]
  rfl
theorem z_flS {f : Int → Int → Int} {a o : Int} (h : 0 ≤ o) : z_fl f a (o + 1) = f (z_fl f a o) o := by
  unfold z_fl
  rw [show (o + 1).toNat = o.toNat + 1 by omega]
  show f (z_fo f a o.toNat) (o.toNat : Int) = _
  rw [Int.toNat_of_nonneg h]

theorem m_fails_t {G : z_G} {A : Nat → Nat} {σ : z_S} {h : z_H} (hG : z_OK G) (hA : mI A) (hB : mB σ) (h00 : σ 0 0 = 0) {g c : Int} (hg1 : g ≠ 0) (hr : -2147483648 ≤ g ∧ g ≤ 2147483647) : z_Tr G mX8_fails [.ref (A 40), z_i g, z_i c] (mH A σ h) 0 (z_i 0) := by
  refine z_T_of hG pX8_fails (Nat.le_of_ble_eq_true rfl) (ls0 := [(0, .ref (A 40)), (1, z_i g), (2, z_i c)]) rfl fun Y hY hg hmc hms hφ hψ => ?_
  subst hg
  refine z_iload hY eX8_fails_0 1 rfl ?_
  refine z_ifne hY eX8_fails_1 (by omega) (fun c1 => ?_) (fun c1 => ?_)
  · refine z_aload hY eX8_fails_16 0 rfl ?_
    have hb1 := hB 0 0
    refine m_gf hY hA eX8_fails_17 (v := z_i (σ 0 0)) rfl ?_
    refine z_ifeq hY eX8_fails_20 (by omega) (fun c20 => ?_) (fun c20 => ?_)
    · refine z_const hY eX8_fails_27 ?_
      exact z_zreturn hY eX8_fails_28 rfl (by omega) (by rw [hφ]; first | exact ⟨congrArg (fun q => some (z_i q)) (by omega), rfl⟩ | (exfalso; omega)) ⟨Nat.zero_le _, Nat.zero_le _⟩
    · refine z_const hY eX8_fails_23 ?_
      refine z_goto hY eX8_fails_24 ?_
      exact z_zreturn hY eX8_fails_28 rfl (by omega) (by rw [hφ]; first | exact ⟨congrArg (fun q => some (z_i q)) (by omega), rfl⟩ | (exfalso; omega)) ⟨Nat.zero_le _, Nat.zero_le _⟩
  · refine z_aload hY eX8_fails_4 0 rfl ?_
    have hb2 := hB 0 0
    refine m_gf hY hA eX8_fails_5 (v := z_i (σ 0 0)) rfl ?_
    refine z_ifne hY eX8_fails_8 (by omega) (fun c8 => ?_) (fun c8 => ?_)
    · refine z_aload hY eX8_fails_16 0 rfl ?_
      refine m_gf hY hA eX8_fails_17 (v := z_i (σ 0 0)) rfl ?_
      refine z_ifeq hY eX8_fails_20 (by omega) (fun c20 => ?_) (fun c20 => ?_)
      · refine z_const hY eX8_fails_27 ?_
        exact z_zreturn hY eX8_fails_28 rfl (by omega) (by rw [hφ]; first | exact ⟨congrArg (fun q => some (z_i q)) (by omega), rfl⟩ | (exfalso; omega)) ⟨Nat.zero_le _, Nat.zero_le _⟩
      · refine z_const hY eX8_fails_23 ?_
        refine z_goto hY eX8_fails_24 ?_
        exact z_zreturn hY eX8_fails_28 rfl (by omega) (by rw [hφ]; first | exact ⟨congrArg (fun q => some (z_i q)) (by omega), rfl⟩ | (exfalso; omega)) ⟨Nat.zero_le _, Nat.zero_le _⟩
    · refine z_aload hY eX8_fails_11 0 rfl ?_
      refine z_iload hY eX8_fails_12 2 rfl ?_
      refine m_pf hY hA eX8_fails_13 (by decide) ?_
      refine z_aload hY eX8_fails_16 0 rfl ?_
      refine m_gf hY hA eX8_fails_17 (v := z_i c) (by simp [mF, z_u]) ?_
      refine z_ifeq hY eX8_fails_20 (by omega) (fun c20 => ?_) (fun c20 => ?_)
      · refine z_const hY eX8_fails_27 ?_
        exact z_zreturn hY eX8_fails_28 rfl (by omega) (by rw [hφ]; first | exact ⟨congrArg (fun q => some (z_i q)) (by omega), rfl⟩ | (exfalso; omega)) ⟨Nat.zero_le _, Nat.zero_le _⟩
      · refine z_const hY eX8_fails_23 ?_
        refine z_goto hY eX8_fails_24 ?_
        exact z_zreturn hY eX8_fails_28 rfl (by omega) (by rw [hφ]; first | exact ⟨congrArg (fun q => some (z_i q)) (by omega), rfl⟩ | (exfalso; omega)) ⟨Nat.zero_le _, Nat.zero_le _⟩
theorem m_fails_f {G : z_G} {A : Nat → Nat} {σ : z_S} {h : z_H} (hG : z_OK G) (hA : mI A) (hB : mB σ) (h00 : σ 0 0 = 0) {g c : Int} (hg1 : g = 0) (hr : 0 < c ∧ c ≤ 10) : z_T G mX8_fails [.ref (A 40), z_i g, z_i c] (mH A σ h) 0 0 0 (fun v h' => v = some (z_i 1) ∧ h' = mH A (z_u σ 0 0 c) h) (z_no) := by
  refine z_T_of hG pX8_fails (Nat.le_of_ble_eq_true rfl) (ls0 := [(0, .ref (A 40)), (1, z_i g), (2, z_i c)]) rfl fun Y hY hg hmc hms hφ hψ => ?_
  subst hg
  refine z_iload hY eX8_fails_0 1 rfl ?_
  refine z_ifne hY eX8_fails_1 (by omega) (fun c1 => ?_) (fun c1 => ?_)
  · refine z_aload hY eX8_fails_16 0 rfl ?_
    have hb1 := hB 0 0
    refine m_gf hY hA eX8_fails_17 (v := z_i (σ 0 0)) rfl ?_
    refine z_ifeq hY eX8_fails_20 (by omega) (fun c20 => ?_) (fun c20 => ?_)
    · refine z_const hY eX8_fails_27 ?_
      exact z_zreturn hY eX8_fails_28 rfl (by omega) (by rw [hφ]; first | exact ⟨congrArg (fun q => some (z_i q)) (by omega), rfl⟩ | (exfalso; omega)) ⟨Nat.zero_le _, Nat.zero_le _⟩
    · refine z_const hY eX8_fails_23 ?_
      refine z_goto hY eX8_fails_24 ?_
      exact z_zreturn hY eX8_fails_28 rfl (by omega) (by rw [hφ]; first | exact ⟨congrArg (fun q => some (z_i q)) (by omega), rfl⟩ | (exfalso; omega)) ⟨Nat.zero_le _, Nat.zero_le _⟩
  · refine z_aload hY eX8_fails_4 0 rfl ?_
    have hb2 := hB 0 0
    refine m_gf hY hA eX8_fails_5 (v := z_i (σ 0 0)) rfl ?_
    refine z_ifne hY eX8_fails_8 (by omega) (fun c8 => ?_) (fun c8 => ?_)
    · refine z_aload hY eX8_fails_16 0 rfl ?_
      refine m_gf hY hA eX8_fails_17 (v := z_i (σ 0 0)) rfl ?_
      refine z_ifeq hY eX8_fails_20 (by omega) (fun c20 => ?_) (fun c20 => ?_)
      · refine z_const hY eX8_fails_27 ?_
        exact z_zreturn hY eX8_fails_28 rfl (by omega) (by rw [hφ]; first | exact ⟨congrArg (fun q => some (z_i q)) (by omega), rfl⟩ | (exfalso; omega)) ⟨Nat.zero_le _, Nat.zero_le _⟩
      · refine z_const hY eX8_fails_23 ?_
        refine z_goto hY eX8_fails_24 ?_
        exact z_zreturn hY eX8_fails_28 rfl (by omega) (by rw [hφ]; first | exact ⟨congrArg (fun q => some (z_i q)) (by omega), rfl⟩ | (exfalso; omega)) ⟨Nat.zero_le _, Nat.zero_le _⟩
    · refine z_aload hY eX8_fails_11 0 rfl ?_
      refine z_iload hY eX8_fails_12 2 rfl ?_
      refine m_pf hY hA eX8_fails_13 (by decide) ?_
      refine z_aload hY eX8_fails_16 0 rfl ?_
      refine m_gf hY hA eX8_fails_17 (v := z_i c) (by simp [mF, z_u]) ?_
      refine z_ifeq hY eX8_fails_20 (by omega) (fun c20 => ?_) (fun c20 => ?_)
      · refine z_const hY eX8_fails_27 ?_
        exact z_zreturn hY eX8_fails_28 rfl (by omega) (by rw [hφ]; first | exact ⟨congrArg (fun q => some (z_i q)) (by omega), rfl⟩ | (exfalso; omega)) ⟨Nat.zero_le _, Nat.zero_le _⟩
      · refine z_const hY eX8_fails_23 ?_
        refine z_goto hY eX8_fails_24 ?_
        exact z_zreturn hY eX8_fails_28 rfl (by omega) (by rw [hφ]; first | exact ⟨congrArg (fun q => some (z_i q)) (by omega), rfl⟩ | (exfalso; omega)) ⟨Nat.zero_le _, Nat.zero_le _⟩
theorem m_noE_t {G : z_G} {A : Nat → Nat} {σ : z_S} {h : z_H} (hG : z_OK G) (hA : mI A) (hB : mB σ) (hV : mV σ) (h00 : σ 0 0 = 0) {e : Int} (hr : -2147483648 ≤ e ∧ e ≤ 2147483647) (hp : pr σ e) : z_Tr G mX8_noEntrant [.ref (A 40), z_i e] (mH A σ h) 1 (z_i 0) := by
  obtain ⟨hf, hsc, hcm, hcr, hth, hgr, hlm, hld, hlo, hro, htm, hre, hpa, htp, hgp⟩ := id hV
  refine z_T_of hG pX8_noEntrant (Nat.le_of_ble_eq_true rfl) (ls0 := [(0, .ref (A 40)), (1, z_i e)]) rfl fun Y hY hg hmc hms hφ hψ => ?_
  subst hg
  refine z_aload hY eX8_noEntrant_0 0 rfl ?_
  refine z_iload hY eX8_noEntrant_1 1 rfl ?_
  refine z_const hY eX8_noEntrant_2 ?_
  refine z_aload hY eX8_noEntrant_3 0 rfl ?_
  have hb1 := hB 19 0
  refine m_gf hY hA eX8_noEntrant_4 (v := z_i (σ 19 0)) rfl ?_
  refine z_const hY eX8_noEntrant_7 ?_
  refine z_isub hY eX8_noEntrant_8 ?_
  refine z_callSr (As := [z_i e, z_i 0, z_i ((σ 19 0) - 1)]) (rest := [.ref (A 40)]) (r := z_i (z_bl (0 ≤ e ∧ e ≤ ((σ 19 0) - 1)))) hY eX8_noEntrant_9 (m_in hG (by omega)) (by decide) (Nat.le_of_ble_eq_true rfl) ⟨Nat.zero_le _, Nat.zero_le _⟩ ?_
  refine z_ifeqb hY eX8_noEntrant_12 (fun c12 => ?_) (fun c12 => ?_)
  · refine z_const hY eX8_noEntrant_28 ?_
    refine z_const hY eX8_noEntrant_29 ?_
    refine z_callV (As := [z_i 0, z_i 1]) (rest := []) hY eX8_noEntrant_30 (m_fails_f hG hA hB h00 (g := 0) (c := 1) (by omega) (by omega)) (mH_at hA (k := 40) (by decide)) (by decide) (Nat.le_of_ble_eq_true rfl) ⟨Nat.zero_le _, Nat.zero_le _⟩ (fun _ _ q => q.elim) (fun v2 h2 q2 => ?_)
    obtain ⟨rfl, rfl⟩ := q2
    exact z_zreturn hY eX8_noEntrant_33 rfl (by omega) (by rw [hφ]; first | exact ⟨congrArg (fun q => some (z_i q)) (by omega), rfl⟩ | (exfalso; omega)) ⟨Nat.zero_le _, Nat.zero_le _⟩
  · refine z_aload hY eX8_noEntrant_15 0 rfl ?_
    refine m_gf hY hA eX8_noEntrant_16 (v := .ref (A 18)) rfl ?_
    refine z_iload hY eX8_noEntrant_19 1 rfl ?_
    have hb3 := hB 18 e
    refine m_bal hY hA eX8_noEntrant_20 (j := 18) (N := 30) (x := σ 18 e) (by decide) rfl (by omega) rfl ?_
    refine z_ifeq hY eX8_noEntrant_21 (by omega) (fun c21 => ?_) (fun c21 => ?_)
    · refine z_const hY eX8_noEntrant_28 ?_
      refine z_const hY eX8_noEntrant_29 ?_
      refine z_callV (As := [z_i 0, z_i 1]) (rest := []) hY eX8_noEntrant_30 (m_fails_f hG hA hB h00 (g := 0) (c := 1) (by omega) (by omega)) (mH_at hA (k := 40) (by decide)) (by decide) (Nat.le_of_ble_eq_true rfl) ⟨Nat.zero_le _, Nat.zero_le _⟩ (fun _ _ q => q.elim) (fun v4 h4 q4 => ?_)
      obtain ⟨rfl, rfl⟩ := q4
      exact z_zreturn hY eX8_noEntrant_33 rfl (by omega) (by rw [hφ]; first | exact ⟨congrArg (fun q => some (z_i q)) (by omega), rfl⟩ | (exfalso; omega)) ⟨Nat.zero_le _, Nat.zero_le _⟩
    · refine z_const hY eX8_noEntrant_24 ?_
      refine z_goto hY eX8_noEntrant_25 ?_
      refine z_const hY eX8_noEntrant_29 ?_
      refine z_callVr (As := [z_i 1, z_i 1]) (rest := []) (r := z_i 0) hY eX8_noEntrant_30 (m_fails_t hG hA hB h00 (g := 1) (c := 1) (by omega) (by omega)) (mH_at hA (k := 40) (by decide)) (by decide) (Nat.le_of_ble_eq_true rfl) ⟨Nat.zero_le _, Nat.zero_le _⟩ ?_
      exact z_zreturn hY eX8_noEntrant_33 rfl (by omega) (by rw [hφ]; first | exact ⟨congrArg (fun q => some (z_i q)) (by omega), rfl⟩ | (exfalso; omega)) ⟨Nat.zero_le _, Nat.zero_le _⟩
theorem m_noE_f {G : z_G} {A : Nat → Nat} {σ : z_S} {h : z_H} (hG : z_OK G) (hA : mI A) (hB : mB σ) (hV : mV σ) (h00 : σ 0 0 = 0) {e : Int} (hr : -2147483648 ≤ e ∧ e ≤ 2147483647) (hp : ¬ pr σ e) : z_T G mX8_noEntrant [.ref (A 40), z_i e] (mH A σ h) 1 0 0 (fun v h' => v = some (z_i 1) ∧ h' = mH A (z_u σ 0 0 1) h) (z_no) := by
  obtain ⟨hf, hsc, hcm, hcr, hth, hgr, hlm, hld, hlo, hro, htm, hre, hpa, htp, hgp⟩ := id hV
  refine z_T_of hG pX8_noEntrant (Nat.le_of_ble_eq_true rfl) (ls0 := [(0, .ref (A 40)), (1, z_i e)]) rfl fun Y hY hg hmc hms hφ hψ => ?_
  subst hg
  refine z_aload hY eX8_noEntrant_0 0 rfl ?_
  refine z_iload hY eX8_noEntrant_1 1 rfl ?_
  refine z_const hY eX8_noEntrant_2 ?_
  refine z_aload hY eX8_noEntrant_3 0 rfl ?_
  have hb1 := hB 19 0
  refine m_gf hY hA eX8_noEntrant_4 (v := z_i (σ 19 0)) rfl ?_
  refine z_const hY eX8_noEntrant_7 ?_
  refine z_isub hY eX8_noEntrant_8 ?_
  refine z_callSr (As := [z_i e, z_i 0, z_i ((σ 19 0) - 1)]) (rest := [.ref (A 40)]) (r := z_i (z_bl (0 ≤ e ∧ e ≤ ((σ 19 0) - 1)))) hY eX8_noEntrant_9 (m_in hG (by omega)) (by decide) (Nat.le_of_ble_eq_true rfl) ⟨Nat.zero_le _, Nat.zero_le _⟩ ?_
  refine z_ifeqb hY eX8_noEntrant_12 (fun c12 => ?_) (fun c12 => ?_)
  · refine z_const hY eX8_noEntrant_28 ?_
    refine z_const hY eX8_noEntrant_29 ?_
    refine z_callV (As := [z_i 0, z_i 1]) (rest := []) hY eX8_noEntrant_30 (m_fails_f hG hA hB h00 (g := 0) (c := 1) (by omega) (by omega)) (mH_at hA (k := 40) (by decide)) (by decide) (Nat.le_of_ble_eq_true rfl) ⟨Nat.zero_le _, Nat.zero_le _⟩ (fun _ _ q => q.elim) (fun v2 h2 q2 => ?_)
    obtain ⟨rfl, rfl⟩ := q2
    exact z_zreturn hY eX8_noEntrant_33 rfl (by omega) (by rw [hφ]; first | exact ⟨congrArg (fun q => some (z_i q)) (by omega), rfl⟩ | (exfalso; omega)) ⟨Nat.zero_le _, Nat.zero_le _⟩
  · refine z_aload hY eX8_noEntrant_15 0 rfl ?_
    refine m_gf hY hA eX8_noEntrant_16 (v := .ref (A 18)) rfl ?_
    refine z_iload hY eX8_noEntrant_19 1 rfl ?_
    have hb3 := hB 18 e
    refine m_bal hY hA eX8_noEntrant_20 (j := 18) (N := 30) (x := σ 18 e) (by decide) rfl (by omega) rfl ?_
    refine z_ifeq hY eX8_noEntrant_21 (by omega) (fun c21 => ?_) (fun c21 => ?_)
    · refine z_const hY eX8_noEntrant_28 ?_
      refine z_const hY eX8_noEntrant_29 ?_
      refine z_callV (As := [z_i 0, z_i 1]) (rest := []) hY eX8_noEntrant_30 (m_fails_f hG hA hB h00 (g := 0) (c := 1) (by omega) (by omega)) (mH_at hA (k := 40) (by decide)) (by decide) (Nat.le_of_ble_eq_true rfl) ⟨Nat.zero_le _, Nat.zero_le _⟩ (fun _ _ q => q.elim) (fun v4 h4 q4 => ?_)
      obtain ⟨rfl, rfl⟩ := q4
      exact z_zreturn hY eX8_noEntrant_33 rfl (by omega) (by rw [hφ]; first | exact ⟨congrArg (fun q => some (z_i q)) (by omega), rfl⟩ | (exfalso; omega)) ⟨Nat.zero_le _, Nat.zero_le _⟩
    · refine z_const hY eX8_noEntrant_24 ?_
      refine z_goto hY eX8_noEntrant_25 ?_
      refine z_const hY eX8_noEntrant_29 ?_
      refine z_callVr (As := [z_i 1, z_i 1]) (rest := []) (r := z_i 0) hY eX8_noEntrant_30 (m_fails_t hG hA hB h00 (g := 1) (c := 1) (by omega) (by omega)) (mH_at hA (k := 40) (by decide)) (by decide) (Nat.le_of_ble_eq_true rfl) ⟨Nat.zero_le _, Nat.zero_le _⟩ ?_
      exact z_zreturn hY eX8_noEntrant_33 rfl (by omega) (by rw [hφ]; first | exact ⟨congrArg (fun q => some (z_i q)) (by omega), rfl⟩ | (exfalso; omega)) ⟨Nat.zero_le _, Nat.zero_le _⟩
theorem m_noK_t {G : z_G} {A : Nat → Nat} {σ : z_S} {h : z_H} (hG : z_OK G) (hA : mI A) (hB : mB σ) (hV : mV σ) (h00 : σ 0 0 = 0) {e k : Int} (hr : -2147483648 ≤ e ∧ e ≤ 2147483647 ∧ -2147483648 ≤ k ∧ k ≤ 2147483647) (hp : pr σ e) (hk : 0 ≤ k ∧ k ≤ 3) : z_Tr G mX8_noKind [.ref (A 40), z_i e, z_i k] (mH A σ h) 2 (z_i 0) := by
  obtain ⟨hf, hsc, hcm, hcr, hth, hgr, hlm, hld, hlo, hro, htm, hre, hpa, htp, hgp⟩ := id hV
  refine z_T_of hG pX8_noKind (Nat.le_of_ble_eq_true rfl) (ls0 := [(0, .ref (A 40)), (1, z_i e), (2, z_i k)]) rfl fun Y hY hg hmc hms hφ hψ => ?_
  subst hg
  refine z_aload hY eX8_noKind_0 0 rfl ?_
  refine z_iload hY eX8_noKind_1 1 rfl ?_
  by_cases g1 : pr σ e
  · refine z_callVr (As := [z_i e]) (rest := []) (r := z_i 0) hY eX8_noKind_2 (m_noE_t hG hA hB hV h00 (by omega) g1) (mH_at hA (k := 40) (by decide)) (by decide) (Nat.le_of_ble_eq_true rfl) ⟨Nat.zero_le _, Nat.zero_le _⟩ ?_
    refine z_ifne hY eX8_noKind_5 (by omega) (fun c => absurd c (by omega)) (fun _ => ?_)
    refine z_aload hY eX8_noKind_8 0 rfl ?_
    refine z_iload hY eX8_noKind_9 2 rfl ?_
    refine z_const hY eX8_noKind_10 ?_
    refine z_const hY eX8_noKind_11 ?_
    refine z_callSr (As := [z_i k, z_i 0, z_i 3]) (rest := [.ref (A 40)]) (r := z_i (z_bl (0 ≤ k ∧ k ≤ 3))) hY eX8_noKind_12 (m_in hG (by omega)) (by decide) (Nat.le_of_ble_eq_true rfl) ⟨Nat.zero_le _, Nat.zero_le _⟩ ?_
    refine z_const hY eX8_noKind_15 ?_
    have hgb := z_bl01 (0 ≤ k ∧ k ≤ 3)
    by_cases g2 : 0 ≤ k ∧ k ≤ 3
    · refine z_callVr (As := [z_i (z_bl (0 ≤ k ∧ k ≤ 3)), z_i 2]) (rest := []) (r := z_i 0) hY eX8_noKind_16 (m_fails_t hG hA hB h00 (g := (z_bl (0 ≤ k ∧ k ≤ 3))) (c := 2) (by rw [z_bl_t g2]; omega) (by omega)) (mH_at hA (k := 40) (by decide)) (by decide) (Nat.le_of_ble_eq_true rfl) ⟨Nat.zero_le _, Nat.zero_le _⟩ ?_
      refine z_ifeq hY eX8_noKind_19 (by omega) (fun _ => ?_) (fun c => absurd c (by omega))
      refine z_const hY eX8_noKind_26 ?_
      exact z_zreturn hY eX8_noKind_27 rfl (by omega) (by rw [hφ]; first | exact ⟨congrArg (fun q => some (z_i q)) (by omega), rfl⟩ | (exfalso; omega)) ⟨Nat.zero_le _, Nat.zero_le _⟩
    · refine z_callV (As := [z_i (z_bl (0 ≤ k ∧ k ≤ 3)), z_i 2]) (rest := []) hY eX8_noKind_16 (m_fails_f hG hA hB h00 (g := (z_bl (0 ≤ k ∧ k ≤ 3))) (c := 2) (z_bl_f g2) (by omega)) (mH_at hA (k := 40) (by decide)) (by decide) (Nat.le_of_ble_eq_true rfl) ⟨Nat.zero_le _, Nat.zero_le _⟩ (fun _ _ q => q.elim) (fun v3 h3 q3 => ?_)
      obtain ⟨rfl, rfl⟩ := q3
      refine z_ifeq hY eX8_noKind_19 (by omega) (fun c => absurd c (by omega)) (fun _ => ?_)
      refine z_const hY eX8_noKind_22 ?_
      refine z_goto hY eX8_noKind_23 ?_
      exact z_zreturn hY eX8_noKind_27 rfl (by omega) (by rw [hφ]; first | exact ⟨congrArg (fun q => some (z_i q)) (by omega), rfl⟩ | (exfalso; omega)) ⟨Nat.zero_le _, Nat.zero_le _⟩
  · refine z_callV (As := [z_i e]) (rest := []) hY eX8_noKind_2 (m_noE_f hG hA hB hV h00 (by omega) g1) (mH_at hA (k := 40) (by decide)) (by decide) (Nat.le_of_ble_eq_true rfl) ⟨Nat.zero_le _, Nat.zero_le _⟩ (fun _ _ q => q.elim) (fun v4 h4 q4 => ?_)
    obtain ⟨rfl, rfl⟩ := q4
    refine z_ifne hY eX8_noKind_5 (by omega) (fun _ => ?_) (fun c => absurd c (by omega))
    refine z_const hY eX8_noKind_22 ?_
    refine z_goto hY eX8_noKind_23 ?_
    exact z_zreturn hY eX8_noKind_27 rfl (by omega) (by rw [hφ]; first | exact ⟨congrArg (fun q => some (z_i q)) (by omega), rfl⟩ | (exfalso; omega)) ⟨Nat.zero_le _, Nat.zero_le _⟩
theorem m_noK_1 {G : z_G} {A : Nat → Nat} {σ : z_S} {h : z_H} (hG : z_OK G) (hA : mI A) (hB : mB σ) (hV : mV σ) (h00 : σ 0 0 = 0) {e k : Int} (hr : -2147483648 ≤ e ∧ e ≤ 2147483647 ∧ -2147483648 ≤ k ∧ k ≤ 2147483647) (hp : ¬ pr σ e) : z_T G mX8_noKind [.ref (A 40), z_i e, z_i k] (mH A σ h) 2 0 0 (fun v h' => v = some (z_i 1) ∧ h' = mH A (z_u σ 0 0 1) h) (z_no) := by
  obtain ⟨hf, hsc, hcm, hcr, hth, hgr, hlm, hld, hlo, hro, htm, hre, hpa, htp, hgp⟩ := id hV
  refine z_T_of hG pX8_noKind (Nat.le_of_ble_eq_true rfl) (ls0 := [(0, .ref (A 40)), (1, z_i e), (2, z_i k)]) rfl fun Y hY hg hmc hms hφ hψ => ?_
  subst hg
  refine z_aload hY eX8_noKind_0 0 rfl ?_
  refine z_iload hY eX8_noKind_1 1 rfl ?_
  by_cases g1 : pr σ e
  · refine z_callVr (As := [z_i e]) (rest := []) (r := z_i 0) hY eX8_noKind_2 (m_noE_t hG hA hB hV h00 (by omega) g1) (mH_at hA (k := 40) (by decide)) (by decide) (Nat.le_of_ble_eq_true rfl) ⟨Nat.zero_le _, Nat.zero_le _⟩ ?_
    refine z_ifne hY eX8_noKind_5 (by omega) (fun c => absurd c (by omega)) (fun _ => ?_)
    refine z_aload hY eX8_noKind_8 0 rfl ?_
    refine z_iload hY eX8_noKind_9 2 rfl ?_
    refine z_const hY eX8_noKind_10 ?_
    refine z_const hY eX8_noKind_11 ?_
    refine z_callSr (As := [z_i k, z_i 0, z_i 3]) (rest := [.ref (A 40)]) (r := z_i (z_bl (0 ≤ k ∧ k ≤ 3))) hY eX8_noKind_12 (m_in hG (by omega)) (by decide) (Nat.le_of_ble_eq_true rfl) ⟨Nat.zero_le _, Nat.zero_le _⟩ ?_
    refine z_const hY eX8_noKind_15 ?_
    have hgb := z_bl01 (0 ≤ k ∧ k ≤ 3)
    by_cases g2 : 0 ≤ k ∧ k ≤ 3
    · refine z_callVr (As := [z_i (z_bl (0 ≤ k ∧ k ≤ 3)), z_i 2]) (rest := []) (r := z_i 0) hY eX8_noKind_16 (m_fails_t hG hA hB h00 (g := (z_bl (0 ≤ k ∧ k ≤ 3))) (c := 2) (by rw [z_bl_t g2]; omega) (by omega)) (mH_at hA (k := 40) (by decide)) (by decide) (Nat.le_of_ble_eq_true rfl) ⟨Nat.zero_le _, Nat.zero_le _⟩ ?_
      refine z_ifeq hY eX8_noKind_19 (by omega) (fun _ => ?_) (fun c => absurd c (by omega))
      refine z_const hY eX8_noKind_26 ?_
      exact z_zreturn hY eX8_noKind_27 rfl (by omega) (by rw [hφ]; first | exact ⟨congrArg (fun q => some (z_i q)) (by omega), rfl⟩ | (exfalso; omega)) ⟨Nat.zero_le _, Nat.zero_le _⟩
    · refine z_callV (As := [z_i (z_bl (0 ≤ k ∧ k ≤ 3)), z_i 2]) (rest := []) hY eX8_noKind_16 (m_fails_f hG hA hB h00 (g := (z_bl (0 ≤ k ∧ k ≤ 3))) (c := 2) (z_bl_f g2) (by omega)) (mH_at hA (k := 40) (by decide)) (by decide) (Nat.le_of_ble_eq_true rfl) ⟨Nat.zero_le _, Nat.zero_le _⟩ (fun _ _ q => q.elim) (fun v3 h3 q3 => ?_)
      obtain ⟨rfl, rfl⟩ := q3
      refine z_ifeq hY eX8_noKind_19 (by omega) (fun c => absurd c (by omega)) (fun _ => ?_)
      refine z_const hY eX8_noKind_22 ?_
      refine z_goto hY eX8_noKind_23 ?_
      exact z_zreturn hY eX8_noKind_27 rfl (by omega) (by rw [hφ]; first | exact ⟨congrArg (fun q => some (z_i q)) (by omega), rfl⟩ | (exfalso; omega)) ⟨Nat.zero_le _, Nat.zero_le _⟩
  · refine z_callV (As := [z_i e]) (rest := []) hY eX8_noKind_2 (m_noE_f hG hA hB hV h00 (by omega) g1) (mH_at hA (k := 40) (by decide)) (by decide) (Nat.le_of_ble_eq_true rfl) ⟨Nat.zero_le _, Nat.zero_le _⟩ (fun _ _ q => q.elim) (fun v4 h4 q4 => ?_)
    obtain ⟨rfl, rfl⟩ := q4
    refine z_ifne hY eX8_noKind_5 (by omega) (fun _ => ?_) (fun c => absurd c (by omega))
    refine z_const hY eX8_noKind_22 ?_
    refine z_goto hY eX8_noKind_23 ?_
    exact z_zreturn hY eX8_noKind_27 rfl (by omega) (by rw [hφ]; first | exact ⟨congrArg (fun q => some (z_i q)) (by omega), rfl⟩ | (exfalso; omega)) ⟨Nat.zero_le _, Nat.zero_le _⟩
theorem m_noK_2 {G : z_G} {A : Nat → Nat} {σ : z_S} {h : z_H} (hG : z_OK G) (hA : mI A) (hB : mB σ) (hV : mV σ) (h00 : σ 0 0 = 0) {e k : Int} (hr : -2147483648 ≤ e ∧ e ≤ 2147483647 ∧ -2147483648 ≤ k ∧ k ≤ 2147483647) (hp : pr σ e) (hk : ¬ (0 ≤ k ∧ k ≤ 3)) : z_T G mX8_noKind [.ref (A 40), z_i e, z_i k] (mH A σ h) 2 0 0 (fun v h' => v = some (z_i 1) ∧ h' = mH A (z_u σ 0 0 2) h) (z_no) := by
  obtain ⟨hf, hsc, hcm, hcr, hth, hgr, hlm, hld, hlo, hro, htm, hre, hpa, htp, hgp⟩ := id hV
  refine z_T_of hG pX8_noKind (Nat.le_of_ble_eq_true rfl) (ls0 := [(0, .ref (A 40)), (1, z_i e), (2, z_i k)]) rfl fun Y hY hg hmc hms hφ hψ => ?_
  subst hg
  refine z_aload hY eX8_noKind_0 0 rfl ?_
  refine z_iload hY eX8_noKind_1 1 rfl ?_
  by_cases g1 : pr σ e
  · refine z_callVr (As := [z_i e]) (rest := []) (r := z_i 0) hY eX8_noKind_2 (m_noE_t hG hA hB hV h00 (by omega) g1) (mH_at hA (k := 40) (by decide)) (by decide) (Nat.le_of_ble_eq_true rfl) ⟨Nat.zero_le _, Nat.zero_le _⟩ ?_
    refine z_ifne hY eX8_noKind_5 (by omega) (fun c => absurd c (by omega)) (fun _ => ?_)
    refine z_aload hY eX8_noKind_8 0 rfl ?_
    refine z_iload hY eX8_noKind_9 2 rfl ?_
    refine z_const hY eX8_noKind_10 ?_
    refine z_const hY eX8_noKind_11 ?_
    refine z_callSr (As := [z_i k, z_i 0, z_i 3]) (rest := [.ref (A 40)]) (r := z_i (z_bl (0 ≤ k ∧ k ≤ 3))) hY eX8_noKind_12 (m_in hG (by omega)) (by decide) (Nat.le_of_ble_eq_true rfl) ⟨Nat.zero_le _, Nat.zero_le _⟩ ?_
    refine z_const hY eX8_noKind_15 ?_
    have hgb := z_bl01 (0 ≤ k ∧ k ≤ 3)
    by_cases g2 : 0 ≤ k ∧ k ≤ 3
    · refine z_callVr (As := [z_i (z_bl (0 ≤ k ∧ k ≤ 3)), z_i 2]) (rest := []) (r := z_i 0) hY eX8_noKind_16 (m_fails_t hG hA hB h00 (g := (z_bl (0 ≤ k ∧ k ≤ 3))) (c := 2) (by rw [z_bl_t g2]; omega) (by omega)) (mH_at hA (k := 40) (by decide)) (by decide) (Nat.le_of_ble_eq_true rfl) ⟨Nat.zero_le _, Nat.zero_le _⟩ ?_
      refine z_ifeq hY eX8_noKind_19 (by omega) (fun _ => ?_) (fun c => absurd c (by omega))
      refine z_const hY eX8_noKind_26 ?_
      exact z_zreturn hY eX8_noKind_27 rfl (by omega) (by rw [hφ]; first | exact ⟨congrArg (fun q => some (z_i q)) (by omega), rfl⟩ | (exfalso; omega)) ⟨Nat.zero_le _, Nat.zero_le _⟩
    · refine z_callV (As := [z_i (z_bl (0 ≤ k ∧ k ≤ 3)), z_i 2]) (rest := []) hY eX8_noKind_16 (m_fails_f hG hA hB h00 (g := (z_bl (0 ≤ k ∧ k ≤ 3))) (c := 2) (z_bl_f g2) (by omega)) (mH_at hA (k := 40) (by decide)) (by decide) (Nat.le_of_ble_eq_true rfl) ⟨Nat.zero_le _, Nat.zero_le _⟩ (fun _ _ q => q.elim) (fun v3 h3 q3 => ?_)
      obtain ⟨rfl, rfl⟩ := q3
      refine z_ifeq hY eX8_noKind_19 (by omega) (fun c => absurd c (by omega)) (fun _ => ?_)
      refine z_const hY eX8_noKind_22 ?_
      refine z_goto hY eX8_noKind_23 ?_
      exact z_zreturn hY eX8_noKind_27 rfl (by omega) (by rw [hφ]; first | exact ⟨congrArg (fun q => some (z_i q)) (by omega), rfl⟩ | (exfalso; omega)) ⟨Nat.zero_le _, Nat.zero_le _⟩
  · refine z_callV (As := [z_i e]) (rest := []) hY eX8_noKind_2 (m_noE_f hG hA hB hV h00 (by omega) g1) (mH_at hA (k := 40) (by decide)) (by decide) (Nat.le_of_ble_eq_true rfl) ⟨Nat.zero_le _, Nat.zero_le _⟩ (fun _ _ q => q.elim) (fun v4 h4 q4 => ?_)
    obtain ⟨rfl, rfl⟩ := q4
    refine z_ifne hY eX8_noKind_5 (by omega) (fun _ => ?_) (fun c => absurd c (by omega))
    refine z_const hY eX8_noKind_22 ?_
    refine z_goto hY eX8_noKind_23 ?_
    exact z_zreturn hY eX8_noKind_27 rfl (by omega) (by rw [hφ]; first | exact ⟨congrArg (fun q => some (z_i q)) (by omega), rfl⟩ | (exfalso; omega)) ⟨Nat.zero_le _, Nat.zero_le _⟩
theorem m_noG_t {G : z_G} {A : Nat → Nat} {σ : z_S} {h : z_H} (hG : z_OK G) (hA : mI A) (hB : mB σ) (hV : mV σ) (h00 : σ 0 0 = 0) {g : Int} (hr : -2147483648 ≤ g ∧ g ≤ 2147483647) (hp : 0 ≤ g ∧ g ≤ 4) : z_Tr G mX8_noGroup [.ref (A 40), z_i g] (mH A σ h) 1 (z_i 0) := by
  obtain ⟨hf, hsc, hcm, hcr, hth, hgr, hlm, hld, hlo, hro, htm, hre, hpa, htp, hgp⟩ := id hV
  refine z_T_of hG pX8_noGroup (Nat.le_of_ble_eq_true rfl) (ls0 := [(0, .ref (A 40)), (1, z_i g)]) rfl fun Y hY hg hmc hms hφ hψ => ?_
  subst hg
  refine z_aload hY eX8_noGroup_0 0 rfl ?_
  refine z_iload hY eX8_noGroup_1 1 rfl ?_
  refine z_const hY eX8_noGroup_2 ?_
  refine z_const hY eX8_noGroup_3 ?_
  refine z_callSr (As := [z_i g, z_i 0, z_i 4]) (rest := [.ref (A 40)]) (r := z_i (z_bl (0 ≤ g ∧ g ≤ 4))) hY eX8_noGroup_4 (m_in hG (by omega)) (by decide) (Nat.le_of_ble_eq_true rfl) ⟨Nat.zero_le _, Nat.zero_le _⟩ ?_
  refine z_const hY eX8_noGroup_7 ?_
  have hgb := z_bl01 (0 ≤ g ∧ g ≤ 4)
  by_cases g1 : 0 ≤ g ∧ g ≤ 4
  · refine z_callVr (As := [z_i (z_bl (0 ≤ g ∧ g ≤ 4)), z_i 1]) (rest := []) (r := z_i 0) hY eX8_noGroup_8 (m_fails_t hG hA hB h00 (g := (z_bl (0 ≤ g ∧ g ≤ 4))) (c := 1) (by rw [z_bl_t g1]; omega) (by omega)) (mH_at hA (k := 40) (by decide)) (by decide) (Nat.le_of_ble_eq_true rfl) ⟨Nat.zero_le _, Nat.zero_le _⟩ ?_
    exact z_zreturn hY eX8_noGroup_11 rfl (by omega) (by rw [hφ]; first | exact ⟨congrArg (fun q => some (z_i q)) (by omega), rfl⟩ | (exfalso; omega)) ⟨Nat.zero_le _, Nat.zero_le _⟩
  · refine z_callV (As := [z_i (z_bl (0 ≤ g ∧ g ≤ 4)), z_i 1]) (rest := []) hY eX8_noGroup_8 (m_fails_f hG hA hB h00 (g := (z_bl (0 ≤ g ∧ g ≤ 4))) (c := 1) (z_bl_f g1) (by omega)) (mH_at hA (k := 40) (by decide)) (by decide) (Nat.le_of_ble_eq_true rfl) ⟨Nat.zero_le _, Nat.zero_le _⟩ (fun _ _ q => q.elim) (fun v2 h2 q2 => ?_)
    obtain ⟨rfl, rfl⟩ := q2
    exact z_zreturn hY eX8_noGroup_11 rfl (by omega) (by rw [hφ]; first | exact ⟨congrArg (fun q => some (z_i q)) (by omega), rfl⟩ | (exfalso; omega)) ⟨Nat.zero_le _, Nat.zero_le _⟩
theorem m_noG_f {G : z_G} {A : Nat → Nat} {σ : z_S} {h : z_H} (hG : z_OK G) (hA : mI A) (hB : mB σ) (hV : mV σ) (h00 : σ 0 0 = 0) {g : Int} (hr : -2147483648 ≤ g ∧ g ≤ 2147483647) (hp : ¬ (0 ≤ g ∧ g ≤ 4)) : z_T G mX8_noGroup [.ref (A 40), z_i g] (mH A σ h) 1 0 0 (fun v h' => v = some (z_i 1) ∧ h' = mH A (z_u σ 0 0 1) h) (z_no) := by
  obtain ⟨hf, hsc, hcm, hcr, hth, hgr, hlm, hld, hlo, hro, htm, hre, hpa, htp, hgp⟩ := id hV
  refine z_T_of hG pX8_noGroup (Nat.le_of_ble_eq_true rfl) (ls0 := [(0, .ref (A 40)), (1, z_i g)]) rfl fun Y hY hg hmc hms hφ hψ => ?_
  subst hg
  refine z_aload hY eX8_noGroup_0 0 rfl ?_
  refine z_iload hY eX8_noGroup_1 1 rfl ?_
  refine z_const hY eX8_noGroup_2 ?_
  refine z_const hY eX8_noGroup_3 ?_
  refine z_callSr (As := [z_i g, z_i 0, z_i 4]) (rest := [.ref (A 40)]) (r := z_i (z_bl (0 ≤ g ∧ g ≤ 4))) hY eX8_noGroup_4 (m_in hG (by omega)) (by decide) (Nat.le_of_ble_eq_true rfl) ⟨Nat.zero_le _, Nat.zero_le _⟩ ?_
  refine z_const hY eX8_noGroup_7 ?_
  have hgb := z_bl01 (0 ≤ g ∧ g ≤ 4)
  by_cases g1 : 0 ≤ g ∧ g ≤ 4
  · refine z_callVr (As := [z_i (z_bl (0 ≤ g ∧ g ≤ 4)), z_i 1]) (rest := []) (r := z_i 0) hY eX8_noGroup_8 (m_fails_t hG hA hB h00 (g := (z_bl (0 ≤ g ∧ g ≤ 4))) (c := 1) (by rw [z_bl_t g1]; omega) (by omega)) (mH_at hA (k := 40) (by decide)) (by decide) (Nat.le_of_ble_eq_true rfl) ⟨Nat.zero_le _, Nat.zero_le _⟩ ?_
    exact z_zreturn hY eX8_noGroup_11 rfl (by omega) (by rw [hφ]; first | exact ⟨congrArg (fun q => some (z_i q)) (by omega), rfl⟩ | (exfalso; omega)) ⟨Nat.zero_le _, Nat.zero_le _⟩
  · refine z_callV (As := [z_i (z_bl (0 ≤ g ∧ g ≤ 4)), z_i 1]) (rest := []) hY eX8_noGroup_8 (m_fails_f hG hA hB h00 (g := (z_bl (0 ≤ g ∧ g ≤ 4))) (c := 1) (z_bl_f g1) (by omega)) (mH_at hA (k := 40) (by decide)) (by decide) (Nat.le_of_ble_eq_true rfl) ⟨Nat.zero_le _, Nat.zero_le _⟩ (fun _ _ q => q.elim) (fun v2 h2 q2 => ?_)
    obtain ⟨rfl, rfl⟩ := q2
    exact z_zreturn hY eX8_noGroup_11 rfl (by omega) (by rw [hφ]; first | exact ⟨congrArg (fun q => some (z_i q)) (by omega), rfl⟩ | (exfalso; omega)) ⟨Nat.zero_le _, Nat.zero_le _⟩
theorem m_noS_t {G : z_G} {A : Nat → Nat} {σ : z_S} {h : z_H} (hG : z_OK G) (hA : mI A) (hB : mB σ) (hV : mV σ) (h00 : σ 0 0 = 0) {r : Int} (hr : -2147483648 ≤ r ∧ r ≤ 2147483647) (hp : r = -1 ∨ kp σ r) : z_Tr G mX8_noStanding [.ref (A 40), z_i r] (mH A σ h) 2 (z_i 0) := by
  obtain ⟨hf, hsc, hcm, hcr, hth, hgr, hlm, hld, hlo, hro, htm, hre, hpa, htp, hgp⟩ := id hV
  refine z_T_of hG pX8_noStanding (Nat.le_of_ble_eq_true rfl) (ls0 := [(0, .ref (A 40)), (1, z_i r)]) rfl fun Y hY hg hmc hms hφ hψ => ?_
  subst hg
  refine z_aload hY eX8_noStanding_0 0 rfl ?_
  refine z_iload hY eX8_noStanding_1 1 rfl ?_
  refine z_const hY eX8_noStanding_2 ?_
  refine z_icmpeq hY eX8_noStanding_3 (by omega) (fun c3 => ?_) (fun c3 => ?_)
  · refine z_const hY eX8_noStanding_14 ?_
    refine z_goto hY eX8_noStanding_15 ?_
    refine z_const hY eX8_noStanding_19 ?_
    refine z_callVr (As := [z_i 1, z_i 1]) (rest := []) (r := z_i 0) hY eX8_noStanding_20 (m_fails_t hG hA hB h00 (g := 1) (c := 1) (by omega) (by omega)) (mH_at hA (k := 40) (by decide)) (by decide) (Nat.le_of_ble_eq_true rfl) ⟨Nat.zero_le _, Nat.zero_le _⟩ ?_
    exact z_zreturn hY eX8_noStanding_23 rfl (by omega) (by rw [hφ]; first | exact ⟨congrArg (fun q => some (z_i q)) (by omega), rfl⟩ | (exfalso; omega)) ⟨Nat.zero_le _, Nat.zero_le _⟩
  · refine z_aload hY eX8_noStanding_6 0 rfl ?_
    refine z_iload hY eX8_noStanding_7 1 rfl ?_
    refine z_callVr (As := [z_i r]) (rest := [.ref (A 40)]) (r := z_i (z_bl (kp σ r))) hY eX8_noStanding_8 (m_isKept hG hA hB (by omega)) (mH_at hA (k := 40) (by decide)) (by decide) (Nat.le_of_ble_eq_true rfl) ⟨Nat.zero_le _, Nat.zero_le _⟩ ?_
    refine z_ifeqb hY eX8_noStanding_11 (fun c11 => ?_) (fun c11 => ?_)
    · refine z_const hY eX8_noStanding_18 ?_
      refine z_const hY eX8_noStanding_19 ?_
      refine z_callV (As := [z_i 0, z_i 1]) (rest := []) hY eX8_noStanding_20 (m_fails_f hG hA hB h00 (g := 0) (c := 1) (by omega) (by omega)) (mH_at hA (k := 40) (by decide)) (by decide) (Nat.le_of_ble_eq_true rfl) ⟨Nat.zero_le _, Nat.zero_le _⟩ (fun _ _ q => q.elim) (fun v1 h1 q1 => ?_)
      obtain ⟨rfl, rfl⟩ := q1
      exact z_zreturn hY eX8_noStanding_23 rfl (by omega) (by rw [hφ]; first | exact ⟨congrArg (fun q => some (z_i q)) (by omega), rfl⟩ | (exfalso; omega)) ⟨Nat.zero_le _, Nat.zero_le _⟩
    · refine z_const hY eX8_noStanding_14 ?_
      refine z_goto hY eX8_noStanding_15 ?_
      refine z_const hY eX8_noStanding_19 ?_
      refine z_callVr (As := [z_i 1, z_i 1]) (rest := []) (r := z_i 0) hY eX8_noStanding_20 (m_fails_t hG hA hB h00 (g := 1) (c := 1) (by omega) (by omega)) (mH_at hA (k := 40) (by decide)) (by decide) (Nat.le_of_ble_eq_true rfl) ⟨Nat.zero_le _, Nat.zero_le _⟩ ?_
      exact z_zreturn hY eX8_noStanding_23 rfl (by omega) (by rw [hφ]; first | exact ⟨congrArg (fun q => some (z_i q)) (by omega), rfl⟩ | (exfalso; omega)) ⟨Nat.zero_le _, Nat.zero_le _⟩
theorem m_noS_f {G : z_G} {A : Nat → Nat} {σ : z_S} {h : z_H} (hG : z_OK G) (hA : mI A) (hB : mB σ) (hV : mV σ) (h00 : σ 0 0 = 0) {r : Int} (hr : -2147483648 ≤ r ∧ r ≤ 2147483647) (hp : ¬ (r = -1 ∨ kp σ r)) : z_T G mX8_noStanding [.ref (A 40), z_i r] (mH A σ h) 2 0 0 (fun v h' => v = some (z_i 1) ∧ h' = mH A (z_u σ 0 0 1) h) (z_no) := by
  obtain ⟨hf, hsc, hcm, hcr, hth, hgr, hlm, hld, hlo, hro, htm, hre, hpa, htp, hgp⟩ := id hV
  refine z_T_of hG pX8_noStanding (Nat.le_of_ble_eq_true rfl) (ls0 := [(0, .ref (A 40)), (1, z_i r)]) rfl fun Y hY hg hmc hms hφ hψ => ?_
  subst hg
  refine z_aload hY eX8_noStanding_0 0 rfl ?_
  refine z_iload hY eX8_noStanding_1 1 rfl ?_
  refine z_const hY eX8_noStanding_2 ?_
  refine z_icmpeq hY eX8_noStanding_3 (by omega) (fun c3 => ?_) (fun c3 => ?_)
  · refine z_const hY eX8_noStanding_14 ?_
    refine z_goto hY eX8_noStanding_15 ?_
    refine z_const hY eX8_noStanding_19 ?_
    refine z_callVr (As := [z_i 1, z_i 1]) (rest := []) (r := z_i 0) hY eX8_noStanding_20 (m_fails_t hG hA hB h00 (g := 1) (c := 1) (by omega) (by omega)) (mH_at hA (k := 40) (by decide)) (by decide) (Nat.le_of_ble_eq_true rfl) ⟨Nat.zero_le _, Nat.zero_le _⟩ ?_
    exact z_zreturn hY eX8_noStanding_23 rfl (by omega) (by rw [hφ]; first | exact ⟨congrArg (fun q => some (z_i q)) (by omega), rfl⟩ | (exfalso; omega)) ⟨Nat.zero_le _, Nat.zero_le _⟩
  · refine z_aload hY eX8_noStanding_6 0 rfl ?_
    refine z_iload hY eX8_noStanding_7 1 rfl ?_
    refine z_callVr (As := [z_i r]) (rest := [.ref (A 40)]) (r := z_i (z_bl (kp σ r))) hY eX8_noStanding_8 (m_isKept hG hA hB (by omega)) (mH_at hA (k := 40) (by decide)) (by decide) (Nat.le_of_ble_eq_true rfl) ⟨Nat.zero_le _, Nat.zero_le _⟩ ?_
    refine z_ifeqb hY eX8_noStanding_11 (fun c11 => ?_) (fun c11 => ?_)
    · refine z_const hY eX8_noStanding_18 ?_
      refine z_const hY eX8_noStanding_19 ?_
      refine z_callV (As := [z_i 0, z_i 1]) (rest := []) hY eX8_noStanding_20 (m_fails_f hG hA hB h00 (g := 0) (c := 1) (by omega) (by omega)) (mH_at hA (k := 40) (by decide)) (by decide) (Nat.le_of_ble_eq_true rfl) ⟨Nat.zero_le _, Nat.zero_le _⟩ (fun _ _ q => q.elim) (fun v1 h1 q1 => ?_)
      obtain ⟨rfl, rfl⟩ := q1
      exact z_zreturn hY eX8_noStanding_23 rfl (by omega) (by rw [hφ]; first | exact ⟨congrArg (fun q => some (z_i q)) (by omega), rfl⟩ | (exfalso; omega)) ⟨Nat.zero_le _, Nat.zero_le _⟩
    · refine z_const hY eX8_noStanding_14 ?_
      refine z_goto hY eX8_noStanding_15 ?_
      refine z_const hY eX8_noStanding_19 ?_
      refine z_callVr (As := [z_i 1, z_i 1]) (rest := []) (r := z_i 0) hY eX8_noStanding_20 (m_fails_t hG hA hB h00 (g := 1) (c := 1) (by omega) (by omega)) (mH_at hA (k := 40) (by decide)) (by decide) (Nat.le_of_ble_eq_true rfl) ⟨Nat.zero_le _, Nat.zero_le _⟩ ?_
      exact z_zreturn hY eX8_noStanding_23 rfl (by omega) (by rw [hφ]; first | exact ⟨congrArg (fun q => some (z_i q)) (by omega), rfl⟩ | (exfalso; omega)) ⟨Nat.zero_le _, Nat.zero_le _⟩
def S_errorPosition (σ : z_S)  (c r : Int) : Prop := c = 0 ∧ r = σ 3 0
theorem p_errorPosition {G : z_G} {A : Nat → Nat} {σ τ : z_S} {h : z_H} (hτ : z_u σ 0 0 0 = τ) (hG : z_OK G) (hA : mI A) (hB : mB τ) (hV : mV τ) : z_T G mX8_errorPosition [.ref (A 40)] (mH A σ h) 1 0 0 (fun v h' => ∃ c r : Int, v = some (z_i r) ∧ h' = mH A (z_u τ 0 0 c) h ∧ S_errorPosition τ  c r) (z_no) := by
  have h00 : τ 0 0 = 0 := by rw [← hτ]; rfl
  obtain ⟨hf, hsc, hcm, hcr, hth, hgr, hlm, hld, hlo, hro, htm, hre, hpa, htp, hgp⟩ := id hV
  refine z_T_of hG pX8_errorPosition (Nat.le_of_ble_eq_true rfl) (ls0 := [(0, .ref (A 40))]) rfl fun Y hY hg hmc hms hφ hψ => ?_
  subst hg
  refine z_aload hY eX8_errorPosition_0 0 rfl ?_
  refine z_const hY eX8_errorPosition_1 ?_
  refine m_pf hY hA eX8_errorPosition_2 (by decide) ?_
  rw [hτ]
  refine z_aload hY eX8_errorPosition_5 0 rfl ?_
  have hb1 := hB 3 0
  refine m_gf hY hA eX8_errorPosition_6 (v := z_i (τ 3 0)) rfl ?_
  exact z_ireturn hY eX8_errorPosition_9 rfl (by rw [hφ]; exact ⟨0, _, rfl, by rw [z_u_id h00], by unfold S_errorPosition; (repeat' split) <;> omega⟩) ⟨Nat.zero_le _, Nat.zero_le _⟩
def S_criterion (σ : z_S) (e k : Int) (c r : Int) : Prop := if pr σ e then (if 0 ≤ k ∧ k ≤ σ 12 0 - 1 then c = 0 ∧ r = vl σ e k else c = 2) else c = 1
theorem p_criterion {G : z_G} {A : Nat → Nat} {σ τ : z_S} {h : z_H} (hτ : z_u σ 0 0 0 = τ) (hG : z_OK G) (hA : mI A) (hB : mB τ) (hV : mV τ) {e k : Int} (hr : -2147483648 ≤ e ∧ e ≤ 2147483647 ∧ -2147483648 ≤ k ∧ k ≤ 2147483647) : z_T G mX8_criterion [.ref (A 40), z_i e, z_i k] (mH A σ h) 3 0 0 (fun v h' => ∃ c r : Int, v = some (z_i r) ∧ h' = mH A (z_u τ 0 0 c) h ∧ S_criterion τ e k c r) (z_no) := by
  have h00 : τ 0 0 = 0 := by rw [← hτ]; rfl
  obtain ⟨hf, hsc, hcm, hcr, hth, hgr, hlm, hld, hlo, hro, htm, hre, hpa, htp, hgp⟩ := id hV
  refine z_T_of hG pX8_criterion (Nat.le_of_ble_eq_true rfl) (ls0 := [(0, .ref (A 40)), (1, z_i e), (2, z_i k)]) rfl fun Y hY hg hmc hms hφ hψ => ?_
  subst hg
  refine z_aload hY eX8_criterion_0 0 rfl ?_
  refine z_const hY eX8_criterion_1 ?_
  refine m_pf hY hA eX8_criterion_2 (by decide) ?_
  rw [hτ]
  refine z_aload hY eX8_criterion_5 0 rfl ?_
  refine z_iload hY eX8_criterion_6 1 rfl ?_
  by_cases g1 : pr τ e
  · refine z_callVr (As := [z_i e]) (rest := []) (r := z_i 0) hY eX8_criterion_7 (m_noE_t hG hA hB hV h00 (by omega) g1) (mH_at hA (k := 40) (by decide)) (by decide) (Nat.le_of_ble_eq_true rfl) ⟨Nat.zero_le _, Nat.zero_le _⟩ ?_
    refine z_ifne hY eX8_criterion_10 (by omega) (fun c => absurd c (by omega)) (fun _ => ?_)
    refine z_aload hY eX8_criterion_13 0 rfl ?_
    refine z_iload hY eX8_criterion_14 2 rfl ?_
    refine z_const hY eX8_criterion_15 ?_
    refine z_aload hY eX8_criterion_16 0 rfl ?_
    have hb2 := hB 12 0
    refine m_gf hY hA eX8_criterion_17 (v := z_i (τ 12 0)) rfl ?_
    refine z_const hY eX8_criterion_20 ?_
    refine z_isub hY eX8_criterion_21 ?_
    refine z_callSr (As := [z_i k, z_i 0, z_i ((τ 12 0) - 1)]) (rest := [.ref (A 40)]) (r := z_i (z_bl (0 ≤ k ∧ k ≤ ((τ 12 0) - 1)))) hY eX8_criterion_22 (m_in hG (by omega)) (by decide) (Nat.le_of_ble_eq_true rfl) ⟨Nat.zero_le _, Nat.zero_le _⟩ ?_
    refine z_const hY eX8_criterion_25 ?_
    have hgb := z_bl01 (0 ≤ k ∧ k ≤ ((τ 12 0) - 1))
    by_cases g3 : 0 ≤ k ∧ k ≤ ((τ 12 0) - 1)
    · refine z_callVr (As := [z_i (z_bl (0 ≤ k ∧ k ≤ ((τ 12 0) - 1))), z_i 2]) (rest := []) (r := z_i 0) hY eX8_criterion_26 (m_fails_t hG hA hB h00 (g := (z_bl (0 ≤ k ∧ k ≤ ((τ 12 0) - 1)))) (c := 2) (by rw [z_bl_t g3]; omega) (by omega)) (mH_at hA (k := 40) (by decide)) (by decide) (Nat.le_of_ble_eq_true rfl) ⟨Nat.zero_le _, Nat.zero_le _⟩ ?_
      refine z_ifeq hY eX8_criterion_29 (by omega) (fun _ => ?_) (fun c => absurd c (by omega))
      refine z_aload hY eX8_criterion_36 0 rfl ?_
      refine z_iload hY eX8_criterion_37 1 rfl ?_
      refine z_iload hY eX8_criterion_38 2 rfl ?_
      refine z_callVr (As := [z_i e, z_i k]) (rest := []) (r := z_i (vl τ e k)) hY eX8_criterion_39 (m_valueOf hG hA hB (by omega) (by omega)) (mH_at hA (k := 40) (by decide)) (by decide) (Nat.le_of_ble_eq_true rfl) ⟨Nat.zero_le _, Nat.zero_le _⟩ ?_
      have hc4 := vl_b hV e k
      exact z_ireturn hY eX8_criterion_42 rfl (by rw [hφ]; exact ⟨0, _, rfl, by rw [z_u_id h00], by unfold S_criterion; (repeat' split) <;> omega⟩) ⟨Nat.zero_le _, Nat.zero_le _⟩
    · refine z_callV (As := [z_i (z_bl (0 ≤ k ∧ k ≤ ((τ 12 0) - 1))), z_i 2]) (rest := []) hY eX8_criterion_26 (m_fails_f hG hA hB h00 (g := (z_bl (0 ≤ k ∧ k ≤ ((τ 12 0) - 1)))) (c := 2) (z_bl_f g3) (by omega)) (mH_at hA (k := 40) (by decide)) (by decide) (Nat.le_of_ble_eq_true rfl) ⟨Nat.zero_le _, Nat.zero_le _⟩ (fun _ _ q => q.elim) (fun v5 h5 q5 => ?_)
      obtain ⟨rfl, rfl⟩ := q5
      refine z_ifeq hY eX8_criterion_29 (by omega) (fun c => absurd c (by omega)) (fun _ => ?_)
      refine z_const hY eX8_criterion_32 ?_
      refine z_goto hY eX8_criterion_33 ?_
      exact z_ireturn hY eX8_criterion_42 rfl (by rw [hφ]; exact ⟨2, _, rfl, rfl, by unfold S_criterion; (repeat' split) <;> omega⟩) ⟨Nat.zero_le _, Nat.zero_le _⟩
  · refine z_callV (As := [z_i e]) (rest := []) hY eX8_criterion_7 (m_noE_f hG hA hB hV h00 (by omega) g1) (mH_at hA (k := 40) (by decide)) (by decide) (Nat.le_of_ble_eq_true rfl) ⟨Nat.zero_le _, Nat.zero_le _⟩ (fun _ _ q => q.elim) (fun v6 h6 q6 => ?_)
    obtain ⟨rfl, rfl⟩ := q6
    refine z_ifne hY eX8_criterion_10 (by omega) (fun _ => ?_) (fun c => absurd c (by omega))
    refine z_const hY eX8_criterion_32 ?_
    refine z_goto hY eX8_criterion_33 ?_
    exact z_ireturn hY eX8_criterion_42 rfl (by rw [hφ]; exact ⟨1, _, rfl, rfl, by unfold S_criterion; (repeat' split) <;> omega⟩) ⟨Nat.zero_le _, Nat.zero_le _⟩
def S_scoreOf (σ : z_S) (e k : Int) (c r : Int) : Prop := if pr σ e then (if 0 ≤ k ∧ k ≤ 3 then c = 0 ∧ r = σ 14 (4 * e + k) else c = 2) else c = 1
theorem p_scoreOf {G : z_G} {A : Nat → Nat} {σ τ : z_S} {h : z_H} (hτ : z_u σ 0 0 0 = τ) (hG : z_OK G) (hA : mI A) (hB : mB τ) (hV : mV τ) {e k : Int} (hr : -2147483648 ≤ e ∧ e ≤ 2147483647 ∧ -2147483648 ≤ k ∧ k ≤ 2147483647) : z_T G mX8_scoreOf [.ref (A 40), z_i e, z_i k] (mH A σ h) 3 0 0 (fun v h' => ∃ c r : Int, v = some (z_i r) ∧ h' = mH A (z_u τ 0 0 c) h ∧ S_scoreOf τ e k c r) (z_no) := by
  have h00 : τ 0 0 = 0 := by rw [← hτ]; rfl
  obtain ⟨hf, hsc, hcm, hcr, hth, hgr, hlm, hld, hlo, hro, htm, hre, hpa, htp, hgp⟩ := id hV
  refine z_T_of hG pX8_scoreOf (Nat.le_of_ble_eq_true rfl) (ls0 := [(0, .ref (A 40)), (1, z_i e), (2, z_i k)]) rfl fun Y hY hg hmc hms hφ hψ => ?_
  subst hg
  refine z_aload hY eX8_scoreOf_0 0 rfl ?_
  refine z_const hY eX8_scoreOf_1 ?_
  refine m_pf hY hA eX8_scoreOf_2 (by decide) ?_
  rw [hτ]
  refine z_aload hY eX8_scoreOf_5 0 rfl ?_
  refine z_iload hY eX8_scoreOf_6 1 rfl ?_
  refine z_iload hY eX8_scoreOf_7 2 rfl ?_
  by_cases g1 : pr τ e
  · by_cases g2 : 0 ≤ k ∧ k ≤ 3
    · refine z_callVr (As := [z_i e, z_i k]) (rest := []) (r := z_i 0) hY eX8_scoreOf_8 (m_noK_t hG hA hB hV h00 (by omega) g1 g2) (mH_at hA (k := 40) (by decide)) (by decide) (Nat.le_of_ble_eq_true rfl) ⟨Nat.zero_le _, Nat.zero_le _⟩ ?_
      refine z_ifeq hY eX8_scoreOf_11 (by omega) (fun _ => ?_) (fun c => absurd c (by omega))
      refine z_aload hY eX8_scoreOf_18 0 rfl ?_
      refine m_gf hY hA eX8_scoreOf_19 (v := .ref (A 14)) rfl ?_
      refine z_const hY eX8_scoreOf_22 ?_
      refine z_iload hY eX8_scoreOf_23 1 rfl ?_
      refine z_imul hY eX8_scoreOf_24 ?_
      refine z_iload hY eX8_scoreOf_25 2 rfl ?_
      refine z_iadd hY eX8_scoreOf_26 ?_
      have hb3 := hB 14 (4 * e + k)
      refine m_ial hY hA eX8_scoreOf_27 (j := 14) (N := 120) (x := τ 14 (4 * e + k)) (by decide) rfl (by omega) rfl ?_
      exact z_ireturn hY eX8_scoreOf_28 rfl (by rw [hφ]; exact ⟨0, _, rfl, by rw [z_u_id h00], by unfold S_scoreOf; (repeat' split) <;> omega⟩) ⟨Nat.zero_le _, Nat.zero_le _⟩
    · refine z_callV (As := [z_i e, z_i k]) (rest := []) hY eX8_scoreOf_8 (m_noK_2 hG hA hB hV h00 (by omega) g1 g2) (mH_at hA (k := 40) (by decide)) (by decide) (Nat.le_of_ble_eq_true rfl) ⟨Nat.zero_le _, Nat.zero_le _⟩ (fun _ _ q => q.elim) (fun v4 h4 q4 => ?_)
      obtain ⟨rfl, rfl⟩ := q4
      refine z_ifeq hY eX8_scoreOf_11 (by omega) (fun c => absurd c (by omega)) (fun _ => ?_)
      refine z_const hY eX8_scoreOf_14 ?_
      refine z_goto hY eX8_scoreOf_15 ?_
      exact z_ireturn hY eX8_scoreOf_28 rfl (by rw [hφ]; exact ⟨2, _, rfl, rfl, by unfold S_scoreOf; (repeat' split) <;> omega⟩) ⟨Nat.zero_le _, Nat.zero_le _⟩
  · refine z_callV (As := [z_i e, z_i k]) (rest := []) hY eX8_scoreOf_8 (m_noK_1 hG hA hB hV h00 (by omega) g1) (mH_at hA (k := 40) (by decide)) (by decide) (Nat.le_of_ble_eq_true rfl) ⟨Nat.zero_le _, Nat.zero_le _⟩ (fun _ _ q => q.elim) (fun v5 h5 q5 => ?_)
    obtain ⟨rfl, rfl⟩ := q5
    refine z_ifeq hY eX8_scoreOf_11 (by omega) (fun c => absurd c (by omega)) (fun _ => ?_)
    refine z_const hY eX8_scoreOf_14 ?_
    refine z_goto hY eX8_scoreOf_15 ?_
    exact z_ireturn hY eX8_scoreOf_28 rfl (by rw [hφ]; exact ⟨1, _, rfl, rfl, by unfold S_scoreOf; (repeat' split) <;> omega⟩) ⟨Nat.zero_le _, Nat.zero_le _⟩
def S_groupOf (σ : z_S) (e : Int) (c r : Int) : Prop := if pr σ e then c = 0 ∧ r = σ 15 e else c = 1
theorem p_groupOf {G : z_G} {A : Nat → Nat} {σ τ : z_S} {h : z_H} (hτ : z_u σ 0 0 0 = τ) (hG : z_OK G) (hA : mI A) (hB : mB τ) (hV : mV τ) {e : Int} (hr : -2147483648 ≤ e ∧ e ≤ 2147483647) : z_T G mX8_groupOf [.ref (A 40), z_i e] (mH A σ h) 3 0 0 (fun v h' => ∃ c r : Int, v = some (z_i r) ∧ h' = mH A (z_u τ 0 0 c) h ∧ S_groupOf τ e c r) (z_no) := by
  have h00 : τ 0 0 = 0 := by rw [← hτ]; rfl
  obtain ⟨hf, hsc, hcm, hcr, hth, hgr, hlm, hld, hlo, hro, htm, hre, hpa, htp, hgp⟩ := id hV
  refine z_T_of hG pX8_groupOf (Nat.le_of_ble_eq_true rfl) (ls0 := [(0, .ref (A 40)), (1, z_i e)]) rfl fun Y hY hg hmc hms hφ hψ => ?_
  subst hg
  refine z_aload hY eX8_groupOf_0 0 rfl ?_
  refine z_const hY eX8_groupOf_1 ?_
  refine m_pf hY hA eX8_groupOf_2 (by decide) ?_
  rw [hτ]
  refine z_aload hY eX8_groupOf_5 0 rfl ?_
  refine z_iload hY eX8_groupOf_6 1 rfl ?_
  by_cases g1 : pr τ e
  · refine z_callVr (As := [z_i e]) (rest := []) (r := z_i 0) hY eX8_groupOf_7 (m_noE_t hG hA hB hV h00 (by omega) g1) (mH_at hA (k := 40) (by decide)) (by decide) (Nat.le_of_ble_eq_true rfl) ⟨Nat.zero_le _, Nat.zero_le _⟩ ?_
    refine z_ifeq hY eX8_groupOf_10 (by omega) (fun _ => ?_) (fun c => absurd c (by omega))
    refine z_aload hY eX8_groupOf_17 0 rfl ?_
    refine m_gf hY hA eX8_groupOf_18 (v := .ref (A 15)) rfl ?_
    refine z_iload hY eX8_groupOf_21 1 rfl ?_
    have hb2 := hB 15 e
    refine m_ial hY hA eX8_groupOf_22 (j := 15) (N := 30) (x := τ 15 e) (by decide) rfl (by omega) rfl ?_
    exact z_ireturn hY eX8_groupOf_23 rfl (by rw [hφ]; exact ⟨0, _, rfl, by rw [z_u_id h00], by unfold S_groupOf; (repeat' split) <;> omega⟩) ⟨Nat.zero_le _, Nat.zero_le _⟩
  · refine z_callV (As := [z_i e]) (rest := []) hY eX8_groupOf_7 (m_noE_f hG hA hB hV h00 (by omega) g1) (mH_at hA (k := 40) (by decide)) (by decide) (Nat.le_of_ble_eq_true rfl) ⟨Nat.zero_le _, Nat.zero_le _⟩ (fun _ _ q => q.elim) (fun v3 h3 q3 => ?_)
    obtain ⟨rfl, rfl⟩ := q3
    refine z_ifeq hY eX8_groupOf_10 (by omega) (fun c => absurd c (by omega)) (fun _ => ?_)
    refine z_const hY eX8_groupOf_13 ?_
    refine z_goto hY eX8_groupOf_14 ?_
    exact z_ireturn hY eX8_groupOf_23 rfl (by rw [hφ]; exact ⟨1, _, rfl, rfl, by unfold S_groupOf; (repeat' split) <;> omega⟩) ⟨Nat.zero_le _, Nat.zero_le _⟩
def S_entrants (σ : z_S)  (c r : Int) : Prop := c = 0 ∧ r = my σ
theorem p_entrants {G : z_G} {A : Nat → Nat} {σ τ : z_S} {h : z_H} (hτ : z_u σ 0 0 0 = τ) (hG : z_OK G) (hA : mI A) (hB : mB τ) (hV : mV τ) : z_T G mX8_entrants [.ref (A 40)] (mH A σ h) 3 0 0 (fun v h' => ∃ c r : Int, v = some (z_i r) ∧ h' = mH A (z_u τ 0 0 c) h ∧ S_entrants τ  c r) (z_no) := by
  have h00 : τ 0 0 = 0 := by rw [← hτ]; rfl
  obtain ⟨hf, hsc, hcm, hcr, hth, hgr, hlm, hld, hlo, hro, htm, hre, hpa, htp, hgp⟩ := id hV
  refine z_T_of hG pX8_entrants (Nat.le_of_ble_eq_true rfl) (ls0 := [(0, .ref (A 40))]) rfl fun Y hY hg hmc hms hφ hψ => ?_
  subst hg
  refine z_aload hY eX8_entrants_0 0 rfl ?_
  refine z_const hY eX8_entrants_1 ?_
  refine m_pf hY hA eX8_entrants_2 (by decide) ?_
  rw [hτ]
  refine z_aload hY eX8_entrants_5 0 rfl ?_
  refine z_callVr (As := []) (rest := []) (r := z_i (my τ)) hY eX8_entrants_6 (m_many hG hA hB hV ) (mH_at hA (k := 40) (by decide)) (by decide) (Nat.le_of_ble_eq_true rfl) ⟨Nat.zero_le _, Nat.zero_le _⟩ ?_
  have hc1 := my_b hV
  exact z_ireturn hY eX8_entrants_9 rfl (by rw [hφ]; exact ⟨0, _, rfl, by rw [z_u_id h00], by unfold S_entrants; (repeat' split) <;> omega⟩) ⟨Nat.zero_le _, Nat.zero_le _⟩
def S_at (σ : z_S) (p : Int) (c r : Int) : Prop := if 1 ≤ p ∧ p ≤ my σ then c = 0 ∧ r = ea σ p else c = 1
theorem p_at {G : z_G} {A : Nat → Nat} {σ τ : z_S} {h : z_H} (hτ : z_u σ 0 0 0 = τ) (hG : z_OK G) (hA : mI A) (hB : mB τ) (hV : mV τ) {p : Int} (hr : -2147483648 ≤ p ∧ p ≤ 2147483647) : z_T G mX8_at [.ref (A 40), z_i p] (mH A σ h) 6 0 0 (fun v h' => ∃ c r : Int, v = some (z_i r) ∧ h' = mH A (z_u τ 0 0 c) h ∧ S_at τ p c r) (z_no) := by
  have h00 : τ 0 0 = 0 := by rw [← hτ]; rfl
  obtain ⟨hf, hsc, hcm, hcr, hth, hgr, hlm, hld, hlo, hro, htm, hre, hpa, htp, hgp⟩ := id hV
  refine z_T_of hG pX8_at (Nat.le_of_ble_eq_true rfl) (ls0 := [(0, .ref (A 40)), (1, z_i p)]) rfl fun Y hY hg hmc hms hφ hψ => ?_
  subst hg
  refine z_aload hY eX8_at_0 0 rfl ?_
  refine z_const hY eX8_at_1 ?_
  refine m_pf hY hA eX8_at_2 (by decide) ?_
  rw [hτ]
  refine z_aload hY eX8_at_5 0 rfl ?_
  refine z_iload hY eX8_at_6 1 rfl ?_
  refine z_const hY eX8_at_7 ?_
  refine z_aload hY eX8_at_8 0 rfl ?_
  refine z_callVr (As := []) (rest := [z_i 1, z_i p, .ref (A 40)]) (r := z_i (my τ)) hY eX8_at_9 (m_many hG hA hB hV ) (mH_at hA (k := 40) (by decide)) (by decide) (Nat.le_of_ble_eq_true rfl) ⟨Nat.zero_le _, Nat.zero_le _⟩ ?_
  have hc1 := my_b hV
  refine z_callSr (As := [z_i p, z_i 1, z_i (my τ)]) (rest := [.ref (A 40)]) (r := z_i (z_bl (1 ≤ p ∧ p ≤ (my τ)))) hY eX8_at_12 (m_in hG (by omega)) (by decide) (Nat.le_of_ble_eq_true rfl) ⟨Nat.zero_le _, Nat.zero_le _⟩ ?_
  refine z_const hY eX8_at_15 ?_
  have hgb := z_bl01 (1 ≤ p ∧ p ≤ (my τ))
  by_cases g2 : 1 ≤ p ∧ p ≤ (my τ)
  · refine z_callVr (As := [z_i (z_bl (1 ≤ p ∧ p ≤ (my τ))), z_i 1]) (rest := []) (r := z_i 0) hY eX8_at_16 (m_fails_t hG hA hB h00 (g := (z_bl (1 ≤ p ∧ p ≤ (my τ)))) (c := 1) (by rw [z_bl_t g2]; omega) (by omega)) (mH_at hA (k := 40) (by decide)) (by decide) (Nat.le_of_ble_eq_true rfl) ⟨Nat.zero_le _, Nat.zero_le _⟩ ?_
    refine z_ifeq hY eX8_at_19 (by omega) (fun _ => ?_) (fun c => absurd c (by omega))
    refine z_aload hY eX8_at_26 0 rfl ?_
    refine z_iload hY eX8_at_27 1 rfl ?_
    refine z_callVr (As := [z_i p]) (rest := []) (r := z_i (ea τ p)) hY eX8_at_28 (m_entrantAt hG hA hB hV (by omega)) (mH_at hA (k := 40) (by decide)) (by decide) (Nat.le_of_ble_eq_true rfl) ⟨Nat.zero_le _, Nat.zero_le _⟩ ?_
    have hc3 := ea_b hV (p := p)
    exact z_ireturn hY eX8_at_31 rfl (by rw [hφ]; exact ⟨0, _, rfl, by rw [z_u_id h00], by unfold S_at; (repeat' split) <;> omega⟩) ⟨Nat.zero_le _, Nat.zero_le _⟩
  · refine z_callV (As := [z_i (z_bl (1 ≤ p ∧ p ≤ (my τ))), z_i 1]) (rest := []) hY eX8_at_16 (m_fails_f hG hA hB h00 (g := (z_bl (1 ≤ p ∧ p ≤ (my τ)))) (c := 1) (z_bl_f g2) (by omega)) (mH_at hA (k := 40) (by decide)) (by decide) (Nat.le_of_ble_eq_true rfl) ⟨Nat.zero_le _, Nat.zero_le _⟩ (fun _ _ q => q.elim) (fun v4 h4 q4 => ?_)
    obtain ⟨rfl, rfl⟩ := q4
    refine z_ifeq hY eX8_at_19 (by omega) (fun c => absurd c (by omega)) (fun _ => ?_)
    refine z_const hY eX8_at_22 ?_
    refine z_goto hY eX8_at_23 ?_
    exact z_ireturn hY eX8_at_31 rfl (by rw [hφ]; exact ⟨1, _, rfl, rfl, by unfold S_at; (repeat' split) <;> omega⟩) ⟨Nat.zero_le _, Nat.zero_le _⟩
def S_place (σ : z_S) (e : Int) (c r : Int) : Prop := if pr σ e then c = 0 ∧ r = pl σ e else c = 1
theorem p_place {G : z_G} {A : Nat → Nat} {σ τ : z_S} {h : z_H} (hτ : z_u σ 0 0 0 = τ) (hG : z_OK G) (hA : mI A) (hB : mB τ) (hV : mV τ) {e : Int} (hr : -2147483648 ≤ e ∧ e ≤ 2147483647) : z_T G mX8_place [.ref (A 40), z_i e] (mH A σ h) 5 0 0 (fun v h' => ∃ c r : Int, v = some (z_i r) ∧ h' = mH A (z_u τ 0 0 c) h ∧ S_place τ e c r) (z_no) := by
  have h00 : τ 0 0 = 0 := by rw [← hτ]; rfl
  obtain ⟨hf, hsc, hcm, hcr, hth, hgr, hlm, hld, hlo, hro, htm, hre, hpa, htp, hgp⟩ := id hV
  refine z_T_of hG pX8_place (Nat.le_of_ble_eq_true rfl) (ls0 := [(0, .ref (A 40)), (1, z_i e)]) rfl fun Y hY hg hmc hms hφ hψ => ?_
  subst hg
  refine z_aload hY eX8_place_0 0 rfl ?_
  refine z_const hY eX8_place_1 ?_
  refine m_pf hY hA eX8_place_2 (by decide) ?_
  rw [hτ]
  refine z_aload hY eX8_place_5 0 rfl ?_
  refine z_iload hY eX8_place_6 1 rfl ?_
  by_cases g1 : pr τ e
  · refine z_callVr (As := [z_i e]) (rest := []) (r := z_i 0) hY eX8_place_7 (m_noE_t hG hA hB hV h00 (by omega) g1) (mH_at hA (k := 40) (by decide)) (by decide) (Nat.le_of_ble_eq_true rfl) ⟨Nat.zero_le _, Nat.zero_le _⟩ ?_
    refine z_ifeq hY eX8_place_10 (by omega) (fun _ => ?_) (fun c => absurd c (by omega))
    refine z_aload hY eX8_place_17 0 rfl ?_
    refine z_iload hY eX8_place_18 1 rfl ?_
    refine z_callVr (As := [z_i e]) (rest := []) (r := z_i (pl τ e)) hY eX8_place_19 (m_placeOf hG hA hB hV (by omega)) (mH_at hA (k := 40) (by decide)) (by decide) (Nat.le_of_ble_eq_true rfl) ⟨Nat.zero_le _, Nat.zero_le _⟩ ?_
    have hc2 := pl_b hV (e := e) (by omega)
    exact z_ireturn hY eX8_place_22 rfl (by rw [hφ]; exact ⟨0, _, rfl, by rw [z_u_id h00], by unfold S_place; (repeat' split) <;> omega⟩) ⟨Nat.zero_le _, Nat.zero_le _⟩
  · refine z_callV (As := [z_i e]) (rest := []) hY eX8_place_7 (m_noE_f hG hA hB hV h00 (by omega) g1) (mH_at hA (k := 40) (by decide)) (by decide) (Nat.le_of_ble_eq_true rfl) ⟨Nat.zero_le _, Nat.zero_le _⟩ (fun _ _ q => q.elim) (fun v3 h3 q3 => ?_)
    obtain ⟨rfl, rfl⟩ := q3
    refine z_ifeq hY eX8_place_10 (by omega) (fun c => absurd c (by omega)) (fun _ => ?_)
    refine z_const hY eX8_place_13 ?_
    refine z_goto hY eX8_place_14 ?_
    exact z_ireturn hY eX8_place_22 rfl (by rw [hφ]; exact ⟨1, _, rfl, rfl, by unfold S_place; (repeat' split) <;> omega⟩) ⟨Nat.zero_le _, Nat.zero_le _⟩
def S_rank (σ : z_S) (e s : Int) (c r : Int) : Prop := if pr σ e then (if 0 ≤ s ∧ s ≤ 2 then c = 0 ∧ r = (if s = 0 then bt σ e + 1 else if s = 1 then dn σ e else tm σ e) else c = 2) else c = 1
theorem p_rank {G : z_G} {A : Nat → Nat} {σ τ : z_S} {h : z_H} (hτ : z_u σ 0 0 0 = τ) (hG : z_OK G) (hA : mI A) (hB : mB τ) (hV : mV τ) {e s : Int} (hr : -2147483648 ≤ e ∧ e ≤ 2147483647 ∧ -2147483648 ≤ s ∧ s ≤ 2147483647) : z_T G mX8_rank [.ref (A 40), z_i e, z_i s] (mH A σ h) 5 0 0 (fun v h' => ∃ c r : Int, v = some (z_i r) ∧ h' = mH A (z_u τ 0 0 c) h ∧ S_rank τ e s c r) (z_no) := by
  have h00 : τ 0 0 = 0 := by rw [← hτ]; rfl
  obtain ⟨hf, hsc, hcm, hcr, hth, hgr, hlm, hld, hlo, hro, htm, hre, hpa, htp, hgp⟩ := id hV
  refine z_T_of hG pX8_rank (Nat.le_of_ble_eq_true rfl) (ls0 := [(0, .ref (A 40)), (1, z_i e), (2, z_i s)]) rfl fun Y hY hg hmc hms hφ hψ => ?_
  subst hg
  refine z_aload hY eX8_rank_0 0 rfl ?_
  refine z_const hY eX8_rank_1 ?_
  refine m_pf hY hA eX8_rank_2 (by decide) ?_
  rw [hτ]
  refine z_aload hY eX8_rank_5 0 rfl ?_
  refine z_iload hY eX8_rank_6 1 rfl ?_
  by_cases g1 : pr τ e
  · refine z_callVr (As := [z_i e]) (rest := []) (r := z_i 0) hY eX8_rank_7 (m_noE_t hG hA hB hV h00 (by omega) g1) (mH_at hA (k := 40) (by decide)) (by decide) (Nat.le_of_ble_eq_true rfl) ⟨Nat.zero_le _, Nat.zero_le _⟩ ?_
    refine z_ifne hY eX8_rank_10 (by omega) (fun c => absurd c (by omega)) (fun _ => ?_)
    refine z_aload hY eX8_rank_13 0 rfl ?_
    refine z_iload hY eX8_rank_14 2 rfl ?_
    refine z_const hY eX8_rank_15 ?_
    refine z_const hY eX8_rank_16 ?_
    refine z_callSr (As := [z_i s, z_i 0, z_i 2]) (rest := [.ref (A 40)]) (r := z_i (z_bl (0 ≤ s ∧ s ≤ 2))) hY eX8_rank_17 (m_in hG (by omega)) (by decide) (Nat.le_of_ble_eq_true rfl) ⟨Nat.zero_le _, Nat.zero_le _⟩ ?_
    refine z_const hY eX8_rank_20 ?_
    have hgb := z_bl01 (0 ≤ s ∧ s ≤ 2)
    by_cases g2 : 0 ≤ s ∧ s ≤ 2
    · refine z_callVr (As := [z_i (z_bl (0 ≤ s ∧ s ≤ 2)), z_i 2]) (rest := []) (r := z_i 0) hY eX8_rank_21 (m_fails_t hG hA hB h00 (g := (z_bl (0 ≤ s ∧ s ≤ 2))) (c := 2) (by rw [z_bl_t g2]; omega) (by omega)) (mH_at hA (k := 40) (by decide)) (by decide) (Nat.le_of_ble_eq_true rfl) ⟨Nat.zero_le _, Nat.zero_le _⟩ ?_
      refine z_ifeq hY eX8_rank_24 (by omega) (fun _ => ?_) (fun c => absurd c (by omega))
      refine z_iload hY eX8_rank_29 2 rfl ?_
      refine z_ifne hY eX8_rank_30 (by omega) (fun c30 => ?_) (fun c30 => ?_)
      · refine z_iload hY eX8_rank_43 2 rfl ?_
        refine z_const hY eX8_rank_44 ?_
        refine z_icmpne hY eX8_rank_45 (by omega) (fun c45 => ?_) (fun c45 => ?_)
        · refine z_aload hY eX8_rank_56 0 rfl ?_
          refine z_iload hY eX8_rank_57 1 rfl ?_
          refine z_callVr (As := [z_i e]) (rest := []) (r := z_i (tm τ e)) hY eX8_rank_58 (m_twiceMean hG hA hB hV (by omega)) (mH_at hA (k := 40) (by decide)) (by decide) (Nat.le_of_ble_eq_true rfl) ⟨Nat.zero_le _, Nat.zero_le _⟩ ?_
          have hc3 := tm_b hV (e := e)
          exact z_ireturn hY eX8_rank_61 rfl (by rw [hφ]; exact ⟨0, _, rfl, by rw [z_u_id h00], by unfold S_rank; (repeat' split) <;> omega⟩) ⟨Nat.zero_le _, Nat.zero_le _⟩
        · refine z_aload hY eX8_rank_48 0 rfl ?_
          refine z_iload hY eX8_rank_49 1 rfl ?_
          refine z_callVr (As := [z_i e]) (rest := []) (r := z_i (dn τ e)) hY eX8_rank_50 (m_dense hG hA hB hV (by omega)) (mH_at hA (k := 40) (by decide)) (by decide) (Nat.le_of_ble_eq_true rfl) ⟨Nat.zero_le _, Nat.zero_le _⟩ ?_
          refine z_goto hY eX8_rank_53 ?_
          exact z_ireturn hY eX8_rank_61 rfl (by rw [hφ]; exact ⟨0, _, rfl, by rw [z_u_id h00], by unfold S_rank; (repeat' split) <;> omega⟩) ⟨Nat.zero_le _, Nat.zero_le _⟩
      · refine z_aload hY eX8_rank_33 0 rfl ?_
        refine z_iload hY eX8_rank_34 1 rfl ?_
        refine z_callVr (As := [z_i e]) (rest := []) (r := z_i (bt τ e)) hY eX8_rank_35 (m_better hG hA hB hV (by omega)) (mH_at hA (k := 40) (by decide)) (by decide) (Nat.le_of_ble_eq_true rfl) ⟨Nat.zero_le _, Nat.zero_le _⟩ ?_
        have hc4 := bt_b hV e
        refine z_const hY eX8_rank_38 ?_
        refine z_iadd hY eX8_rank_39 ?_
        refine z_goto hY eX8_rank_40 ?_
        exact z_ireturn hY eX8_rank_61 rfl (by rw [hφ]; exact ⟨0, _, rfl, by rw [z_u_id h00], by unfold S_rank; (repeat' split) <;> omega⟩) ⟨Nat.zero_le _, Nat.zero_le _⟩
    · refine z_callV (As := [z_i (z_bl (0 ≤ s ∧ s ≤ 2)), z_i 2]) (rest := []) hY eX8_rank_21 (m_fails_f hG hA hB h00 (g := (z_bl (0 ≤ s ∧ s ≤ 2))) (c := 2) (z_bl_f g2) (by omega)) (mH_at hA (k := 40) (by decide)) (by decide) (Nat.le_of_ble_eq_true rfl) ⟨Nat.zero_le _, Nat.zero_le _⟩ (fun _ _ q => q.elim) (fun v5 h5 q5 => ?_)
      obtain ⟨rfl, rfl⟩ := q5
      refine z_ifeq hY eX8_rank_24 (by omega) (fun c => absurd c (by omega)) (fun _ => ?_)
      refine z_const hY eX8_rank_27 ?_
      exact z_ireturn hY eX8_rank_28 rfl (by rw [hφ]; exact ⟨2, _, rfl, rfl, by unfold S_rank; (repeat' split) <;> omega⟩) ⟨Nat.zero_le _, Nat.zero_le _⟩
  · refine z_callV (As := [z_i e]) (rest := []) hY eX8_rank_7 (m_noE_f hG hA hB hV h00 (by omega) g1) (mH_at hA (k := 40) (by decide)) (by decide) (Nat.le_of_ble_eq_true rfl) ⟨Nat.zero_le _, Nat.zero_le _⟩ (fun _ _ q => q.elim) (fun v6 h6 q6 => ?_)
    obtain ⟨rfl, rfl⟩ := q6
    refine z_ifne hY eX8_rank_10 (by omega) (fun _ => ?_) (fun c => absurd c (by omega))
    refine z_const hY eX8_rank_27 ?_
    exact z_ireturn hY eX8_rank_28 rfl (by rw [hφ]; exact ⟨1, _, rfl, rfl, by unfold S_rank; (repeat' split) <;> omega⟩) ⟨Nat.zero_le _, Nat.zero_le _⟩
def S_alike (σ : z_S) (e : Int) (c r : Int) : Prop := if pr σ e then c = 0 ∧ r = al σ e else c = 1
theorem p_alike {G : z_G} {A : Nat → Nat} {σ τ : z_S} {h : z_H} (hτ : z_u σ 0 0 0 = τ) (hG : z_OK G) (hA : mI A) (hB : mB τ) (hV : mV τ) {e : Int} (hr : -2147483648 ≤ e ∧ e ≤ 2147483647) : z_T G mX8_alike [.ref (A 40), z_i e] (mH A σ h) 5 0 0 (fun v h' => ∃ c r : Int, v = some (z_i r) ∧ h' = mH A (z_u τ 0 0 c) h ∧ S_alike τ e c r) (z_no) := by
  have h00 : τ 0 0 = 0 := by rw [← hτ]; rfl
  obtain ⟨hf, hsc, hcm, hcr, hth, hgr, hlm, hld, hlo, hro, htm, hre, hpa, htp, hgp⟩ := id hV
  refine z_T_of hG pX8_alike (Nat.le_of_ble_eq_true rfl) (ls0 := [(0, .ref (A 40)), (1, z_i e)]) rfl fun Y hY hg hmc hms hφ hψ => ?_
  subst hg
  refine z_aload hY eX8_alike_0 0 rfl ?_
  refine z_const hY eX8_alike_1 ?_
  refine m_pf hY hA eX8_alike_2 (by decide) ?_
  rw [hτ]
  refine z_aload hY eX8_alike_5 0 rfl ?_
  refine z_iload hY eX8_alike_6 1 rfl ?_
  by_cases g1 : pr τ e
  · refine z_callVr (As := [z_i e]) (rest := []) (r := z_i 0) hY eX8_alike_7 (m_noE_t hG hA hB hV h00 (by omega) g1) (mH_at hA (k := 40) (by decide)) (by decide) (Nat.le_of_ble_eq_true rfl) ⟨Nat.zero_le _, Nat.zero_le _⟩ ?_
    refine z_ifeq hY eX8_alike_10 (by omega) (fun _ => ?_) (fun c => absurd c (by omega))
    refine z_aload hY eX8_alike_17 0 rfl ?_
    refine z_iload hY eX8_alike_18 1 rfl ?_
    refine z_callVr (As := [z_i e]) (rest := []) (r := z_i (al τ e)) hY eX8_alike_19 (m_alikeWith hG hA hB hV (by omega)) (mH_at hA (k := 40) (by decide)) (by decide) (Nat.le_of_ble_eq_true rfl) ⟨Nat.zero_le _, Nat.zero_le _⟩ ?_
    have hc2 := al_b hV e
    exact z_ireturn hY eX8_alike_22 rfl (by rw [hφ]; exact ⟨0, _, rfl, by rw [z_u_id h00], by unfold S_alike; (repeat' split) <;> omega⟩) ⟨Nat.zero_le _, Nat.zero_le _⟩
  · refine z_callV (As := [z_i e]) (rest := []) hY eX8_alike_7 (m_noE_f hG hA hB hV h00 (by omega) g1) (mH_at hA (k := 40) (by decide)) (by decide) (Nat.le_of_ble_eq_true rfl) ⟨Nat.zero_le _, Nat.zero_le _⟩ (fun _ _ q => q.elim) (fun v3 h3 q3 => ?_)
    obtain ⟨rfl, rfl⟩ := q3
    refine z_ifeq hY eX8_alike_10 (by omega) (fun c => absurd c (by omega)) (fun _ => ?_)
    refine z_const hY eX8_alike_13 ?_
    refine z_goto hY eX8_alike_14 ?_
    exact z_ireturn hY eX8_alike_22 rfl (by rw [hφ]; exact ⟨1, _, rfl, rfl, by unfold S_alike; (repeat' split) <;> omega⟩) ⟨Nat.zero_le _, Nat.zero_le _⟩
def S_results (σ : z_S)  (c r : Int) : Prop := c = 0 ∧ r = z_sm (fun o => if isF σ o then (1 : Int) else 0) (σ 19 0)
theorem p_results {G : z_G} {A : Nat → Nat} {σ τ : z_S} {h : z_H} (hτ : z_u σ 0 0 0 = τ) (hG : z_OK G) (hA : mI A) (hB : mB τ) (hV : mV τ) : z_T G mX8_results [.ref (A 40)] (mH A σ h) 4 0 0 (fun v h' => ∃ c r : Int, v = some (z_i r) ∧ h' = mH A (z_u τ 0 0 c) h ∧ S_results τ  c r) (z_no) := by
  have h00 : τ 0 0 = 0 := by rw [← hτ]; rfl
  obtain ⟨hf, hsc, hcm, hcr, hth, hgr, hlm, hld, hlo, hro, htm, hre, hpa, htp, hgp⟩ := id hV
  refine z_T_of hG pX8_results (Nat.le_of_ble_eq_true rfl) (ls0 := [(0, .ref (A 40))]) rfl fun Y hY hg hmc hms hφ hψ => ?_
  subst hg
  refine z_aload hY eX8_results_0 0 rfl ?_
  refine z_const hY eX8_results_1 ?_
  refine m_pf hY hA eX8_results_2 (by decide) ?_
  rw [hτ]
  refine z_const hY eX8_results_5 ?_
  refine z_istore hY eX8_results_6 (ls' := [(1, z_i 0), (0, .ref (A 40))]) rfl ?_
  refine z_const hY eX8_results_7 ?_
  refine z_istore hY eX8_results_8 (ls' := [(2, z_i 0), (1, z_i 0), (0, .ref (A 40))]) rfl ?_
  refine z_sub [2, 0, 1] (ls' := [(0, .ref (A 40)), (2, z_i 0), (1, z_i 0)]) rfl ?_
  have lp9 : ∀ (fu : Nat) (o : Int) (n : Int), (τ 19 0 - o).toNat < fu → 0 ≤ o ∧ o ≤ τ 19 0 → n = z_sm (fun o => if isF τ o then (1 : Int) else 0) o → 0 ≤ n ∧ n ≤ o → z_W Y 9 [(0, .ref (A 40)), (2, z_i o), (1, z_i n)] [] (mH A τ h) 0 0 := by
    intro fu
    induction fu with
    | zero => intro o n hf; exact absurd hf (Nat.not_lt_zero _)
    | succ fu ih9 =>
      intro o n hf h0 hn hnb
      refine z_iload hY eX8_results_9 1 rfl ?_
      refine z_aload hY eX8_results_10 0 rfl ?_
      have hb1 := hB 19 0
      refine m_gf hY hA eX8_results_11 (v := z_i (τ 19 0)) rfl ?_
      refine z_icmpge hY eX8_results_14 (by omega) (fun c14 => ?_) (fun c14 => ?_)
      · refine z_iload hY eX8_results_39 2 rfl ?_
        exact z_ireturn hY eX8_results_40 rfl (by rw [hφ]; exact ⟨0, _, rfl, by rw [z_u_id h00], by unfold S_results; exact ⟨rfl, by rw [hn, show o = τ 19 0 by omega]⟩⟩) ⟨Nat.zero_le _, Nat.zero_le _⟩
      · refine z_iload hY eX8_results_17 2 rfl ?_
        refine z_aload hY eX8_results_18 0 rfl ?_
        refine z_iload hY eX8_results_19 1 rfl ?_
        refine z_callVr (As := [z_i o]) (rest := [z_i n]) (r := z_i (z_bl (isF τ o))) hY eX8_results_20 (m_isFirst hG hA hB hV (by omega)) (mH_at hA (k := 40) (by decide)) (by decide) (Nat.le_of_ble_eq_true rfl) ⟨Nat.zero_le _, Nat.zero_le _⟩ ?_
        refine z_ifeqb hY eX8_results_23 (fun c23 => ?_) (fun c23 => ?_)
        · refine z_const hY eX8_results_30 ?_
          refine z_iadd hY eX8_results_31 ?_
          refine z_top (b := n) (by omega) ?_
          refine z_istore hY eX8_results_32 (ls' := [(1, z_i n), (0, .ref (A 40)), (2, z_i o)]) rfl ?_
          refine z_iinc hY eX8_results_33 2 rfl (ls' := [(2, z_i (o + 1)), (1, z_i n), (0, .ref (A 40))]) rfl ?_
          refine z_goto hY eX8_results_36 ?_
          refine z_sub [2, 0, 1] (ls' := [(0, .ref (A 40)), (2, z_i (o + 1)), (1, z_i n)]) rfl ?_
          exact ih9 (o + 1) n (by omega) (by omega) (by rw [z_smS (by omega), ← hn]; split <;> omega) (by omega)
        · refine z_const hY eX8_results_26 ?_
          refine z_goto hY eX8_results_27 ?_
          refine z_iadd hY eX8_results_31 ?_
          refine z_istore hY eX8_results_32 (ls' := [(1, z_i (n + 1)), (0, .ref (A 40)), (2, z_i o)]) rfl ?_
          refine z_iinc hY eX8_results_33 2 rfl (ls' := [(2, z_i (o + 1)), (1, z_i (n + 1)), (0, .ref (A 40))]) rfl ?_
          refine z_goto hY eX8_results_36 ?_
          refine z_sub [2, 0, 1] (ls' := [(0, .ref (A 40)), (2, z_i (o + 1)), (1, z_i (n + 1))]) rfl ?_
          exact ih9 (o + 1) (n + 1) (by omega) (by omega) (by rw [z_smS (by omega), ← hn]; split <;> omega) (by omega)
  exact lp9 _ 0 0 (Nat.lt_succ_self _) (by omega) (z_sm0 (by omega)).symm (by omega)
def S_rankSum (σ : z_S)  (c r : Int) : Prop := c = 0 ∧ r = z_sm (fun o => if σ 18 o ≠ 0 then tm σ o else 0) (σ 19 0)
theorem p_rankSum {G : z_G} {A : Nat → Nat} {σ τ : z_S} {h : z_H} (hτ : z_u σ 0 0 0 = τ) (hG : z_OK G) (hA : mI A) (hB : mB τ) (hV : mV τ) : z_T G mX8_rankSum [.ref (A 40)] (mH A σ h) 5 0 0 (fun v h' => ∃ c r : Int, v = some (z_i r) ∧ h' = mH A (z_u τ 0 0 c) h ∧ S_rankSum τ  c r) (z_no) := by
  have h00 : τ 0 0 = 0 := by rw [← hτ]; rfl
  obtain ⟨hf, hsc, hcm, hcr, hth, hgr, hlm, hld, hlo, hro, htm, hre, hpa, htp, hgp⟩ := id hV
  refine z_T_of hG pX8_rankSum (Nat.le_of_ble_eq_true rfl) (ls0 := [(0, .ref (A 40))]) rfl fun Y hY hg hmc hms hφ hψ => ?_
  subst hg
  refine z_aload hY eX8_rankSum_0 0 rfl ?_
  refine z_const hY eX8_rankSum_1 ?_
  refine m_pf hY hA eX8_rankSum_2 (by decide) ?_
  rw [hτ]
  refine z_const hY eX8_rankSum_5 ?_
  refine z_istore hY eX8_rankSum_6 (ls' := [(1, z_i 0), (0, .ref (A 40))]) rfl ?_
  refine z_const hY eX8_rankSum_7 ?_
  refine z_istore hY eX8_rankSum_8 (ls' := [(2, z_i 0), (1, z_i 0), (0, .ref (A 40))]) rfl ?_
  refine z_sub [2, 0, 1] (ls' := [(0, .ref (A 40)), (2, z_i 0), (1, z_i 0)]) rfl ?_
  have lp9 : ∀ (fu : Nat) (o : Int) (n : Int), (τ 19 0 - o).toNat < fu → 0 ≤ o ∧ o ≤ τ 19 0 → n = z_sm (fun o => if τ 18 o ≠ 0 then tm τ o else 0) o → 0 ≤ n ∧ n ≤ 100 * o → z_W Y 9 [(0, .ref (A 40)), (2, z_i o), (1, z_i n)] [] (mH A τ h) 0 0 := by
    intro fu
    induction fu with
    | zero => intro o n hf; exact absurd hf (Nat.not_lt_zero _)
    | succ fu ih9 =>
      intro o n hf h0 hn hnb
      refine z_iload hY eX8_rankSum_9 1 rfl ?_
      refine z_aload hY eX8_rankSum_10 0 rfl ?_
      have hb1 := hB 19 0
      refine m_gf hY hA eX8_rankSum_11 (v := z_i (τ 19 0)) rfl ?_
      refine z_icmpge hY eX8_rankSum_14 (by omega) (fun c14 => ?_) (fun c14 => ?_)
      · refine z_iload hY eX8_rankSum_44 2 rfl ?_
        exact z_ireturn hY eX8_rankSum_45 rfl (by rw [hφ]; exact ⟨0, _, rfl, by rw [z_u_id h00], by unfold S_rankSum; exact ⟨rfl, by rw [hn, show o = τ 19 0 by omega]⟩⟩) ⟨Nat.zero_le _, Nat.zero_le _⟩
      · refine z_iload hY eX8_rankSum_17 2 rfl ?_
        refine z_aload hY eX8_rankSum_18 0 rfl ?_
        refine m_gf hY hA eX8_rankSum_19 (v := .ref (A 18)) rfl ?_
        refine z_iload hY eX8_rankSum_22 1 rfl ?_
        have hb2 := hB 18 o
        refine m_bal hY hA eX8_rankSum_23 (j := 18) (N := 30) (x := τ 18 o) (by decide) rfl (by omega) rfl ?_
        refine z_ifeq hY eX8_rankSum_24 (by omega) (fun c24 => ?_) (fun c24 => ?_)
        · refine z_const hY eX8_rankSum_35 ?_
          refine z_iadd hY eX8_rankSum_36 ?_
          refine z_top (b := n) (by omega) ?_
          refine z_istore hY eX8_rankSum_37 (ls' := [(1, z_i n), (0, .ref (A 40)), (2, z_i o)]) rfl ?_
          refine z_iinc hY eX8_rankSum_38 2 rfl (ls' := [(2, z_i (o + 1)), (1, z_i n), (0, .ref (A 40))]) rfl ?_
          refine z_goto hY eX8_rankSum_41 ?_
          refine z_sub [2, 0, 1] (ls' := [(0, .ref (A 40)), (2, z_i (o + 1)), (1, z_i n)]) rfl ?_
          exact ih9 (o + 1) n (by omega) (by omega) (by rw [z_smS (by omega), ← hn]; split <;> omega) (by omega)
        · refine z_aload hY eX8_rankSum_27 0 rfl ?_
          refine z_iload hY eX8_rankSum_28 1 rfl ?_
          refine z_callVr (As := [z_i o]) (rest := [z_i n]) (r := z_i (tm τ o)) hY eX8_rankSum_29 (m_twiceMean hG hA hB hV (by omega)) (mH_at hA (k := 40) (by decide)) (by decide) (Nat.le_of_ble_eq_true rfl) ⟨Nat.zero_le _, Nat.zero_le _⟩ ?_
          have hc3 := tm_b hV (e := o)
          refine z_goto hY eX8_rankSum_32 ?_
          refine z_iadd hY eX8_rankSum_36 ?_
          refine z_istore hY eX8_rankSum_37 (ls' := [(1, z_i (n + (tm τ o))), (0, .ref (A 40)), (2, z_i o)]) rfl ?_
          refine z_iinc hY eX8_rankSum_38 2 rfl (ls' := [(2, z_i (o + 1)), (1, z_i (n + (tm τ o))), (0, .ref (A 40))]) rfl ?_
          refine z_goto hY eX8_rankSum_41 ?_
          refine z_sub [2, 0, 1] (ls' := [(0, .ref (A 40)), (2, z_i (o + 1)), (1, z_i (n + (tm τ o)))]) rfl ?_
          exact ih9 (o + 1) (n + (tm τ o)) (by omega) (by omega) (by rw [z_smS (by omega), ← hn]; split <;> omega) (by omega)
  exact lp9 _ 0 0 (Nat.lt_succ_self _) (by omega) (z_sm0 (by omega)).symm (by omega)
def S_above (σ : z_S) (p : Int) (c r : Int) : Prop := c = 0 ∧ r = z_sm (fun o => if σ 18 o ≠ 0 ∧ p < σ 14 (4 * o) then (1 : Int) else 0) (σ 19 0)
theorem p_above {G : z_G} {A : Nat → Nat} {σ τ : z_S} {h : z_H} (hτ : z_u σ 0 0 0 = τ) (hG : z_OK G) (hA : mI A) (hB : mB τ) (hV : mV τ) {p : Int} (hr : -2147483648 ≤ p ∧ p ≤ 2147483647) : z_T G mX8_above [.ref (A 40), z_i p] (mH A σ h) 2 0 0 (fun v h' => ∃ c r : Int, v = some (z_i r) ∧ h' = mH A (z_u τ 0 0 c) h ∧ S_above τ p c r) (z_no) := by
  have h00 : τ 0 0 = 0 := by rw [← hτ]; rfl
  obtain ⟨hf, hsc, hcm, hcr, hth, hgr, hlm, hld, hlo, hro, htm, hre, hpa, htp, hgp⟩ := id hV
  refine z_T_of hG pX8_above (Nat.le_of_ble_eq_true rfl) (ls0 := [(0, .ref (A 40)), (1, z_i p)]) rfl fun Y hY hg hmc hms hφ hψ => ?_
  subst hg
  refine z_aload hY eX8_above_0 0 rfl ?_
  refine z_const hY eX8_above_1 ?_
  refine m_pf hY hA eX8_above_2 (by decide) ?_
  rw [hτ]
  refine z_const hY eX8_above_5 ?_
  refine z_istore hY eX8_above_6 (ls' := [(2, z_i 0), (0, .ref (A 40)), (1, z_i p)]) rfl ?_
  refine z_const hY eX8_above_7 ?_
  refine z_istore hY eX8_above_8 (ls' := [(3, z_i 0), (2, z_i 0), (0, .ref (A 40)), (1, z_i p)]) rfl ?_
  refine z_sub [2, 3, 0, 1] (ls' := [(0, .ref (A 40)), (1, z_i p), (3, z_i 0), (2, z_i 0)]) rfl ?_
  have lp9 : ∀ (fu : Nat) (o : Int) (n : Int), (τ 19 0 - o).toNat < fu → 0 ≤ o ∧ o ≤ τ 19 0 → n = z_sm (fun o => if τ 18 o ≠ 0 ∧ p < τ 14 (4 * o) then (1 : Int) else 0) o → 0 ≤ n ∧ n ≤ o → z_W Y 9 [(0, .ref (A 40)), (1, z_i p), (3, z_i o), (2, z_i n)] [] (mH A τ h) 0 0 := by
    intro fu
    induction fu with
    | zero => intro o n hf; exact absurd hf (Nat.not_lt_zero _)
    | succ fu ih9 =>
      intro o n hf h0 hn hnb
      refine z_iload hY eX8_above_9 2 rfl ?_
      refine z_aload hY eX8_above_10 0 rfl ?_
      have hb1 := hB 19 0
      refine m_gf hY hA eX8_above_11 (v := z_i (τ 19 0)) rfl ?_
      refine z_icmpge hY eX8_above_14 (by omega) (fun c14 => ?_) (fun c14 => ?_)
      · refine z_iload hY eX8_above_49 3 rfl ?_
        exact z_ireturn hY eX8_above_50 rfl (by rw [hφ]; exact ⟨0, _, rfl, by rw [z_u_id h00], by unfold S_above; exact ⟨rfl, by rw [hn, show o = τ 19 0 by omega]⟩⟩) ⟨Nat.zero_le _, Nat.zero_le _⟩
      · refine z_iload hY eX8_above_17 3 rfl ?_
        refine z_aload hY eX8_above_18 0 rfl ?_
        refine m_gf hY hA eX8_above_19 (v := .ref (A 18)) rfl ?_
        refine z_iload hY eX8_above_22 2 rfl ?_
        have hb2 := hB 18 o
        refine m_bal hY hA eX8_above_23 (j := 18) (N := 30) (x := τ 18 o) (by decide) rfl (by omega) rfl ?_
        refine z_ifeq hY eX8_above_24 (by omega) (fun c24 => ?_) (fun c24 => ?_)
        · refine z_const hY eX8_above_40 ?_
          refine z_iadd hY eX8_above_41 ?_
          refine z_top (b := n) (by omega) ?_
          refine z_istore hY eX8_above_42 (ls' := [(2, z_i n), (0, .ref (A 40)), (1, z_i p), (3, z_i o)]) rfl ?_
          refine z_iinc hY eX8_above_43 3 rfl (ls' := [(3, z_i (o + 1)), (2, z_i n), (0, .ref (A 40)), (1, z_i p)]) rfl ?_
          refine z_goto hY eX8_above_46 ?_
          refine z_sub [2, 3, 0, 1] (ls' := [(0, .ref (A 40)), (1, z_i p), (3, z_i (o + 1)), (2, z_i n)]) rfl ?_
          exact ih9 (o + 1) n (by omega) (by omega) (by rw [z_smS (by omega), ← hn]; split <;> omega) (by omega)
        · refine z_aload hY eX8_above_27 0 rfl ?_
          refine z_iload hY eX8_above_28 2 rfl ?_
          refine z_callVr (As := [z_i o]) (rest := [z_i n]) (r := z_i (τ 14 (4 * o))) hY eX8_above_29 (m_points hG hA hB (by omega)) (mH_at hA (k := 40) (by decide)) (by decide) (Nat.le_of_ble_eq_true rfl) ⟨Nat.zero_le _, Nat.zero_le _⟩ ?_
          have hc3 := hB 14 (4 * o)
          refine z_iload hY eX8_above_32 1 rfl ?_
          refine z_icmple hY eX8_above_33 (by omega) (fun c33 => ?_) (fun c33 => ?_)
          · refine z_const hY eX8_above_40 ?_
            refine z_iadd hY eX8_above_41 ?_
            refine z_top (b := n) (by omega) ?_
            refine z_istore hY eX8_above_42 (ls' := [(2, z_i n), (0, .ref (A 40)), (1, z_i p), (3, z_i o)]) rfl ?_
            refine z_iinc hY eX8_above_43 3 rfl (ls' := [(3, z_i (o + 1)), (2, z_i n), (0, .ref (A 40)), (1, z_i p)]) rfl ?_
            refine z_goto hY eX8_above_46 ?_
            refine z_sub [2, 3, 0, 1] (ls' := [(0, .ref (A 40)), (1, z_i p), (3, z_i (o + 1)), (2, z_i n)]) rfl ?_
            exact ih9 (o + 1) n (by omega) (by omega) (by rw [z_smS (by omega), ← hn]; split <;> omega) (by omega)
          · refine z_const hY eX8_above_36 ?_
            refine z_goto hY eX8_above_37 ?_
            refine z_iadd hY eX8_above_41 ?_
            refine z_istore hY eX8_above_42 (ls' := [(2, z_i (n + 1)), (0, .ref (A 40)), (1, z_i p), (3, z_i o)]) rfl ?_
            refine z_iinc hY eX8_above_43 3 rfl (ls' := [(3, z_i (o + 1)), (2, z_i (n + 1)), (0, .ref (A 40)), (1, z_i p)]) rfl ?_
            refine z_goto hY eX8_above_46 ?_
            refine z_sub [2, 3, 0, 1] (ls' := [(0, .ref (A 40)), (1, z_i p), (3, z_i (o + 1)), (2, z_i (n + 1))]) rfl ?_
            exact ih9 (o + 1) (n + 1) (by omega) (by omega) (by rw [z_smS (by omega), ← hn]; split <;> omega) (by omega)
  exact lp9 _ 0 0 (Nat.lt_succ_self _) (by omega) (z_sm0 (by omega)).symm (by omega)
def S_with (σ : z_S) (p : Int) (c r : Int) : Prop := c = 0 ∧ r = z_sm (fun o => if σ 18 o ≠ 0 ∧ σ 14 (4 * o) = p then (1 : Int) else 0) (σ 19 0)
theorem p_with {G : z_G} {A : Nat → Nat} {σ τ : z_S} {h : z_H} (hτ : z_u σ 0 0 0 = τ) (hG : z_OK G) (hA : mI A) (hB : mB τ) (hV : mV τ) {p : Int} (hr : -2147483648 ≤ p ∧ p ≤ 2147483647) : z_T G mX8_with [.ref (A 40), z_i p] (mH A σ h) 2 0 0 (fun v h' => ∃ c r : Int, v = some (z_i r) ∧ h' = mH A (z_u τ 0 0 c) h ∧ S_with τ p c r) (z_no) := by
  have h00 : τ 0 0 = 0 := by rw [← hτ]; rfl
  obtain ⟨hf, hsc, hcm, hcr, hth, hgr, hlm, hld, hlo, hro, htm, hre, hpa, htp, hgp⟩ := id hV
  refine z_T_of hG pX8_with (Nat.le_of_ble_eq_true rfl) (ls0 := [(0, .ref (A 40)), (1, z_i p)]) rfl fun Y hY hg hmc hms hφ hψ => ?_
  subst hg
  refine z_aload hY eX8_with_0 0 rfl ?_
  refine z_const hY eX8_with_1 ?_
  refine m_pf hY hA eX8_with_2 (by decide) ?_
  rw [hτ]
  refine z_const hY eX8_with_5 ?_
  refine z_istore hY eX8_with_6 (ls' := [(2, z_i 0), (0, .ref (A 40)), (1, z_i p)]) rfl ?_
  refine z_const hY eX8_with_7 ?_
  refine z_istore hY eX8_with_8 (ls' := [(3, z_i 0), (2, z_i 0), (0, .ref (A 40)), (1, z_i p)]) rfl ?_
  refine z_sub [2, 3, 0, 1] (ls' := [(0, .ref (A 40)), (1, z_i p), (3, z_i 0), (2, z_i 0)]) rfl ?_
  have lp9 : ∀ (fu : Nat) (o : Int) (n : Int), (τ 19 0 - o).toNat < fu → 0 ≤ o ∧ o ≤ τ 19 0 → n = z_sm (fun o => if τ 18 o ≠ 0 ∧ τ 14 (4 * o) = p then (1 : Int) else 0) o → 0 ≤ n ∧ n ≤ o → z_W Y 9 [(0, .ref (A 40)), (1, z_i p), (3, z_i o), (2, z_i n)] [] (mH A τ h) 0 0 := by
    intro fu
    induction fu with
    | zero => intro o n hf; exact absurd hf (Nat.not_lt_zero _)
    | succ fu ih9 =>
      intro o n hf h0 hn hnb
      refine z_iload hY eX8_with_9 2 rfl ?_
      refine z_aload hY eX8_with_10 0 rfl ?_
      have hb1 := hB 19 0
      refine m_gf hY hA eX8_with_11 (v := z_i (τ 19 0)) rfl ?_
      refine z_icmpge hY eX8_with_14 (by omega) (fun c14 => ?_) (fun c14 => ?_)
      · refine z_iload hY eX8_with_49 3 rfl ?_
        exact z_ireturn hY eX8_with_50 rfl (by rw [hφ]; exact ⟨0, _, rfl, by rw [z_u_id h00], by unfold S_with; exact ⟨rfl, by rw [hn, show o = τ 19 0 by omega]⟩⟩) ⟨Nat.zero_le _, Nat.zero_le _⟩
      · refine z_iload hY eX8_with_17 3 rfl ?_
        refine z_aload hY eX8_with_18 0 rfl ?_
        refine m_gf hY hA eX8_with_19 (v := .ref (A 18)) rfl ?_
        refine z_iload hY eX8_with_22 2 rfl ?_
        have hb2 := hB 18 o
        refine m_bal hY hA eX8_with_23 (j := 18) (N := 30) (x := τ 18 o) (by decide) rfl (by omega) rfl ?_
        refine z_ifeq hY eX8_with_24 (by omega) (fun c24 => ?_) (fun c24 => ?_)
        · refine z_const hY eX8_with_40 ?_
          refine z_iadd hY eX8_with_41 ?_
          refine z_top (b := n) (by omega) ?_
          refine z_istore hY eX8_with_42 (ls' := [(2, z_i n), (0, .ref (A 40)), (1, z_i p), (3, z_i o)]) rfl ?_
          refine z_iinc hY eX8_with_43 3 rfl (ls' := [(3, z_i (o + 1)), (2, z_i n), (0, .ref (A 40)), (1, z_i p)]) rfl ?_
          refine z_goto hY eX8_with_46 ?_
          refine z_sub [2, 3, 0, 1] (ls' := [(0, .ref (A 40)), (1, z_i p), (3, z_i (o + 1)), (2, z_i n)]) rfl ?_
          exact ih9 (o + 1) n (by omega) (by omega) (by rw [z_smS (by omega), ← hn]; split <;> omega) (by omega)
        · refine z_aload hY eX8_with_27 0 rfl ?_
          refine z_iload hY eX8_with_28 2 rfl ?_
          refine z_callVr (As := [z_i o]) (rest := [z_i n]) (r := z_i (τ 14 (4 * o))) hY eX8_with_29 (m_points hG hA hB (by omega)) (mH_at hA (k := 40) (by decide)) (by decide) (Nat.le_of_ble_eq_true rfl) ⟨Nat.zero_le _, Nat.zero_le _⟩ ?_
          have hc3 := hB 14 (4 * o)
          refine z_iload hY eX8_with_32 1 rfl ?_
          refine z_icmpne hY eX8_with_33 (by omega) (fun c33 => ?_) (fun c33 => ?_)
          · refine z_const hY eX8_with_40 ?_
            refine z_iadd hY eX8_with_41 ?_
            refine z_top (b := n) (by omega) ?_
            refine z_istore hY eX8_with_42 (ls' := [(2, z_i n), (0, .ref (A 40)), (1, z_i p), (3, z_i o)]) rfl ?_
            refine z_iinc hY eX8_with_43 3 rfl (ls' := [(3, z_i (o + 1)), (2, z_i n), (0, .ref (A 40)), (1, z_i p)]) rfl ?_
            refine z_goto hY eX8_with_46 ?_
            refine z_sub [2, 3, 0, 1] (ls' := [(0, .ref (A 40)), (1, z_i p), (3, z_i (o + 1)), (2, z_i n)]) rfl ?_
            exact ih9 (o + 1) n (by omega) (by omega) (by rw [z_smS (by omega), ← hn]; split <;> omega) (by omega)
          · refine z_const hY eX8_with_36 ?_
            refine z_goto hY eX8_with_37 ?_
            refine z_iadd hY eX8_with_41 ?_
            refine z_istore hY eX8_with_42 (ls' := [(2, z_i (n + 1)), (0, .ref (A 40)), (1, z_i p), (3, z_i o)]) rfl ?_
            refine z_iinc hY eX8_with_43 3 rfl (ls' := [(3, z_i (o + 1)), (2, z_i (n + 1)), (0, .ref (A 40)), (1, z_i p)]) rfl ?_
            refine z_goto hY eX8_with_46 ?_
            refine z_sub [2, 3, 0, 1] (ls' := [(0, .ref (A 40)), (1, z_i p), (3, z_i (o + 1)), (2, z_i (n + 1))]) rfl ?_
            exact ih9 (o + 1) (n + 1) (by omega) (by omega) (by rw [z_smS (by omega), ← hn]; split <;> omega) (by omega)
  exact lp9 _ 0 0 (Nat.lt_succ_self _) (by omega) (z_sm0 (by omega)).symm (by omega)
def S_between (σ : z_S) (p q : Int) (c r : Int) : Prop := if p ≤ q then c = 0 ∧ r = z_sm (fun o => if σ 18 o ≠ 0 ∧ p ≤ σ 14 (4 * o) ∧ σ 14 (4 * o) < q then (1 : Int) else 0) (σ 19 0) else c = 1
theorem p_between {G : z_G} {A : Nat → Nat} {σ τ : z_S} {h : z_H} (hτ : z_u σ 0 0 0 = τ) (hG : z_OK G) (hA : mI A) (hB : mB τ) (hV : mV τ) {p q : Int} (hr : -2147483648 ≤ p ∧ p ≤ 2147483647 ∧ -2147483648 ≤ q ∧ q ≤ 2147483647) : z_T G mX8_between [.ref (A 40), z_i p, z_i q] (mH A σ h) 2 0 0 (fun v h' => ∃ c r : Int, v = some (z_i r) ∧ h' = mH A (z_u τ 0 0 c) h ∧ S_between τ p q c r) (z_no) := by
  have h00 : τ 0 0 = 0 := by rw [← hτ]; rfl
  obtain ⟨hf, hsc, hcm, hcr, hth, hgr, hlm, hld, hlo, hro, htm, hre, hpa, htp, hgp⟩ := id hV
  refine z_T_of hG pX8_between (Nat.le_of_ble_eq_true rfl) (ls0 := [(0, .ref (A 40)), (1, z_i p), (2, z_i q)]) rfl fun Y hY hg hmc hms hφ hψ => ?_
  subst hg
  refine z_aload hY eX8_between_0 0 rfl ?_
  refine z_const hY eX8_between_1 ?_
  refine m_pf hY hA eX8_between_2 (by decide) ?_
  rw [hτ]
  refine z_aload hY eX8_between_5 0 rfl ?_
  refine z_iload hY eX8_between_6 1 rfl ?_
  refine z_iload hY eX8_between_7 2 rfl ?_
  refine z_icmpgt hY eX8_between_8 (by omega) (fun c8 => ?_) (fun c8 => ?_)
  · refine z_const hY eX8_between_15 ?_
    refine z_const hY eX8_between_16 ?_
    refine z_callV (As := [z_i 0, z_i 1]) (rest := []) hY eX8_between_17 (m_fails_f hG hA hB h00 (g := 0) (c := 1) (by omega) (by omega)) (mH_at hA (k := 40) (by decide)) (by decide) (Nat.le_of_ble_eq_true rfl) ⟨Nat.zero_le _, Nat.zero_le _⟩ (fun _ _ q => q.elim) (fun v1 h1 q1 => ?_)
    obtain ⟨rfl, rfl⟩ := q1
    refine z_ifeq hY eX8_between_20 (by omega) (fun c => absurd c (by omega)) (fun _ => ?_)
    refine z_const hY eX8_between_23 ?_
    exact z_ireturn hY eX8_between_24 rfl (by rw [hφ]; exact ⟨1, _, rfl, rfl, by unfold S_between; (repeat' split) <;> omega⟩) ⟨Nat.zero_le _, Nat.zero_le _⟩
  · refine z_const hY eX8_between_11 ?_
    refine z_goto hY eX8_between_12 ?_
    refine z_const hY eX8_between_16 ?_
    refine z_callVr (As := [z_i 1, z_i 1]) (rest := []) (r := z_i 0) hY eX8_between_17 (m_fails_t hG hA hB h00 (g := 1) (c := 1) (by omega) (by omega)) (mH_at hA (k := 40) (by decide)) (by decide) (Nat.le_of_ble_eq_true rfl) ⟨Nat.zero_le _, Nat.zero_le _⟩ ?_
    refine z_ifeq hY eX8_between_20 (by omega) (fun _ => ?_) (fun c => absurd c (by omega))
    refine z_const hY eX8_between_25 ?_
    refine z_istore hY eX8_between_26 (ls' := [(3, z_i 0), (0, .ref (A 40)), (1, z_i p), (2, z_i q)]) rfl ?_
    refine z_const hY eX8_between_27 ?_
    refine z_istore hY eX8_between_28 (ls' := [(4, z_i 0), (3, z_i 0), (0, .ref (A 40)), (1, z_i p), (2, z_i q)]) rfl ?_
    refine z_sub [2, 3, 4, 0, 1] (ls' := [(0, .ref (A 40)), (1, z_i p), (2, z_i q), (4, z_i 0), (3, z_i 0)]) rfl ?_
    have lp30 : ∀ (fu : Nat) (o : Int) (n : Int), (τ 19 0 - o).toNat < fu → 0 ≤ o ∧ o ≤ τ 19 0 → n = z_sm (fun o => if τ 18 o ≠ 0 ∧ p ≤ τ 14 (4 * o) ∧ τ 14 (4 * o) < q then (1 : Int) else 0) o → 0 ≤ n ∧ n ≤ o → z_W Y 30 [(0, .ref (A 40)), (1, z_i p), (2, z_i q), (4, z_i o), (3, z_i n)] [] (mH A τ h) 0 0 := by
      intro fu
      induction fu with
      | zero => intro o n hf; exact absurd hf (Nat.not_lt_zero _)
      | succ fu ih30 =>
        intro o n hf h0 hn hnb
        refine z_iload hY eX8_between_30 3 rfl ?_
        refine z_aload hY eX8_between_32 0 rfl ?_
        have hb2 := hB 19 0
        refine m_gf hY hA eX8_between_33 (v := z_i (τ 19 0)) rfl ?_
        refine z_icmpge hY eX8_between_36 (by omega) (fun c36 => ?_) (fun c36 => ?_)
        · refine z_iload hY eX8_between_83 4 rfl ?_
          exact z_ireturn hY eX8_between_84 rfl (by rw [hφ]; exact ⟨0, _, rfl, by rw [z_u_id h00], by unfold S_between; rw [if_pos (by omega)]; exact ⟨rfl, by rw [hn, show o = τ 19 0 by omega]⟩⟩) ⟨Nat.zero_le _, Nat.zero_le _⟩
        · refine z_iload hY eX8_between_39 4 rfl ?_
          refine z_aload hY eX8_between_40 0 rfl ?_
          refine m_gf hY hA eX8_between_41 (v := .ref (A 18)) rfl ?_
          refine z_iload hY eX8_between_44 3 rfl ?_
          have hb3 := hB 18 o
          refine m_bal hY hA eX8_between_46 (j := 18) (N := 30) (x := τ 18 o) (by decide) rfl (by omega) rfl ?_
          refine z_ifeq hY eX8_between_47 (by omega) (fun c47 => ?_) (fun c47 => ?_)
          · refine z_const hY eX8_between_74 ?_
            refine z_iadd hY eX8_between_75 ?_
            refine z_top (b := n) (by omega) ?_
            refine z_istore hY eX8_between_76 (ls' := [(3, z_i n), (0, .ref (A 40)), (1, z_i p), (2, z_i q), (4, z_i o)]) rfl ?_
            refine z_iinc hY eX8_between_77 4 rfl (ls' := [(4, z_i (o + 1)), (3, z_i n), (0, .ref (A 40)), (1, z_i p), (2, z_i q)]) rfl ?_
            refine z_goto hY eX8_between_80 ?_
            refine z_sub [2, 3, 4, 0, 1] (ls' := [(0, .ref (A 40)), (1, z_i p), (2, z_i q), (4, z_i (o + 1)), (3, z_i n)]) rfl ?_
            exact ih30 (o + 1) n (by omega) (by omega) (by rw [z_smS (by omega), ← hn]; split <;> omega) (by omega)
          · refine z_aload hY eX8_between_50 0 rfl ?_
            refine z_iload hY eX8_between_51 3 rfl ?_
            refine z_callVr (As := [z_i o]) (rest := [z_i n]) (r := z_i (τ 14 (4 * o))) hY eX8_between_53 (m_points hG hA hB (by omega)) (mH_at hA (k := 40) (by decide)) (by decide) (Nat.le_of_ble_eq_true rfl) ⟨Nat.zero_le _, Nat.zero_le _⟩ ?_
            have hc4 := hB 14 (4 * o)
            refine z_iload hY eX8_between_56 1 rfl ?_
            refine z_icmplt hY eX8_between_57 (by omega) (fun c57 => ?_) (fun c57 => ?_)
            · refine z_const hY eX8_between_74 ?_
              refine z_iadd hY eX8_between_75 ?_
              refine z_top (b := n) (by omega) ?_
              refine z_istore hY eX8_between_76 (ls' := [(3, z_i n), (0, .ref (A 40)), (1, z_i p), (2, z_i q), (4, z_i o)]) rfl ?_
              refine z_iinc hY eX8_between_77 4 rfl (ls' := [(4, z_i (o + 1)), (3, z_i n), (0, .ref (A 40)), (1, z_i p), (2, z_i q)]) rfl ?_
              refine z_goto hY eX8_between_80 ?_
              refine z_sub [2, 3, 4, 0, 1] (ls' := [(0, .ref (A 40)), (1, z_i p), (2, z_i q), (4, z_i (o + 1)), (3, z_i n)]) rfl ?_
              exact ih30 (o + 1) n (by omega) (by omega) (by rw [z_smS (by omega), ← hn]; split <;> omega) (by omega)
            · refine z_aload hY eX8_between_60 0 rfl ?_
              refine z_iload hY eX8_between_61 3 rfl ?_
              refine z_callVr (As := [z_i o]) (rest := [z_i n]) (r := z_i (τ 14 (4 * o))) hY eX8_between_63 (m_points hG hA hB (by omega)) (mH_at hA (k := 40) (by decide)) (by decide) (Nat.le_of_ble_eq_true rfl) ⟨Nat.zero_le _, Nat.zero_le _⟩ ?_
              have hc5 := hB 14 (4 * o)
              refine z_iload hY eX8_between_66 2 rfl ?_
              refine z_icmpge hY eX8_between_67 (by omega) (fun c67 => ?_) (fun c67 => ?_)
              · refine z_const hY eX8_between_74 ?_
                refine z_iadd hY eX8_between_75 ?_
                refine z_top (b := n) (by omega) ?_
                refine z_istore hY eX8_between_76 (ls' := [(3, z_i n), (0, .ref (A 40)), (1, z_i p), (2, z_i q), (4, z_i o)]) rfl ?_
                refine z_iinc hY eX8_between_77 4 rfl (ls' := [(4, z_i (o + 1)), (3, z_i n), (0, .ref (A 40)), (1, z_i p), (2, z_i q)]) rfl ?_
                refine z_goto hY eX8_between_80 ?_
                refine z_sub [2, 3, 4, 0, 1] (ls' := [(0, .ref (A 40)), (1, z_i p), (2, z_i q), (4, z_i (o + 1)), (3, z_i n)]) rfl ?_
                exact ih30 (o + 1) n (by omega) (by omega) (by rw [z_smS (by omega), ← hn]; split <;> omega) (by omega)
              · refine z_const hY eX8_between_70 ?_
                refine z_goto hY eX8_between_71 ?_
                refine z_iadd hY eX8_between_75 ?_
                refine z_istore hY eX8_between_76 (ls' := [(3, z_i (n + 1)), (0, .ref (A 40)), (1, z_i p), (2, z_i q), (4, z_i o)]) rfl ?_
                refine z_iinc hY eX8_between_77 4 rfl (ls' := [(4, z_i (o + 1)), (3, z_i (n + 1)), (0, .ref (A 40)), (1, z_i p), (2, z_i q)]) rfl ?_
                refine z_goto hY eX8_between_80 ?_
                refine z_sub [2, 3, 4, 0, 1] (ls' := [(0, .ref (A 40)), (1, z_i p), (2, z_i q), (4, z_i (o + 1)), (3, z_i (n + 1))]) rfl ?_
                exact ih30 (o + 1) (n + 1) (by omega) (by omega) (by rw [z_smS (by omega), ← hn]; split <;> omega) (by omega)
    exact lp30 _ 0 0 (Nat.lt_succ_self _) (by omega) (z_sm0 (by omega)).symm (by omega)
def yAh (σ : z_S) (p e : Int) : Int := z_sm (fun o => if σ 18 o ≠ 0 ∧ σ 14 (4 * o) = p ∧ σ 16 o < σ 16 e then (1 : Int) else 0) (σ 19 0)
def S_withAt (σ : z_S) (p i : Int) (c r : Int) : Prop := c = 0 ∧ r = z_ff (fun e => σ 18 e ≠ 0 ∧ σ 14 (4 * e) = p ∧ yAh σ p e = i) (σ 19 0)
theorem p_withAt {G : z_G} {A : Nat → Nat} {σ τ : z_S} {h : z_H} (hτ : z_u σ 0 0 0 = τ) (hG : z_OK G) (hA : mI A) (hB : mB τ) (hV : mV τ) {p i : Int} (hr : -2147483648 ≤ p ∧ p ≤ 2147483647 ∧ -2147483648 ≤ i ∧ i ≤ 2147483647) : z_T G mX8_withAt [.ref (A 40), z_i p, z_i i] (mH A σ h) 2 0 0 (fun v h' => ∃ c r : Int, v = some (z_i r) ∧ h' = mH A (z_u τ 0 0 c) h ∧ S_withAt τ p i c r) (z_no) := by
  have h00 : τ 0 0 = 0 := by rw [← hτ]; rfl
  obtain ⟨hf, hsc, hcm, hcr, hth, hgr, hlm, hld, hlo, hro, htm, hre, hpa, htp, hgp⟩ := id hV
  refine z_T_of hG pX8_withAt (Nat.le_of_ble_eq_true rfl) (ls0 := [(0, .ref (A 40)), (1, z_i p), (2, z_i i)]) rfl fun Y hY hg hmc hms hφ hψ => ?_
  subst hg
  refine z_aload hY eX8_withAt_0 0 rfl ?_
  refine z_const hY eX8_withAt_1 ?_
  refine m_pf hY hA eX8_withAt_2 (by decide) ?_
  rw [hτ]
  refine z_const hY eX8_withAt_5 ?_
  refine z_istore hY eX8_withAt_6 (ls' := [(3, z_i 0), (0, .ref (A 40)), (1, z_i p), (2, z_i i)]) rfl ?_
  refine z_sub [1, 2, 3, 0] (ls' := [(0, .ref (A 40)), (1, z_i p), (2, z_i i), (3, z_i 0)]) rfl ?_
  have lp7 : ∀ (fu : Nat) (e : Int), (τ 19 0 - e).toNat < fu → 0 ≤ e ∧ e ≤ τ 19 0 → z_fi (fun e => τ 18 e ≠ 0 ∧ τ 14 (4 * e) = p ∧ yAh τ p e = i) (τ 19 0 - e).toNat e = z_ff (fun e => τ 18 e ≠ 0 ∧ τ 14 (4 * e) = p ∧ yAh τ p e = i) (τ 19 0) → z_W Y 7 [(0, .ref (A 40)), (1, z_i p), (2, z_i i), (3, z_i e)] [] (mH A τ h) 0 0 := by
    intro fu
    induction fu with
    | zero => intro e hf; exact absurd hf (Nat.not_lt_zero _)
    | succ fu ih7 =>
      intro e hf h0 hn
      refine z_iload hY eX8_withAt_7 3 rfl ?_
      refine z_aload hY eX8_withAt_8 0 rfl ?_
      have hb1 := hB 19 0
      refine m_gf hY hA eX8_withAt_9 (v := z_i (τ 19 0)) rfl ?_
      refine z_icmpge hY eX8_withAt_12 (by omega) (fun c12 => ?_) (fun c12 => ?_)
      · refine z_const hY eX8_withAt_117 ?_
        exact z_ireturn hY eX8_withAt_118 rfl (by rw [hφ]; exact ⟨0, _, rfl, by rw [z_u_id h00], by unfold S_withAt; exact ⟨rfl, (z_fi_e (by omega)).symm.trans hn⟩⟩) ⟨Nat.zero_le _, Nat.zero_le _⟩
      · refine z_aload hY eX8_withAt_15 0 rfl ?_
        refine m_gf hY hA eX8_withAt_16 (v := .ref (A 18)) rfl ?_
        refine z_iload hY eX8_withAt_19 3 rfl ?_
        have hb2 := hB 18 e
        refine m_bal hY hA eX8_withAt_20 (j := 18) (N := 30) (x := τ 18 e) (by decide) rfl (by omega) rfl ?_
        refine z_ifeq hY eX8_withAt_21 (by omega) (fun c21 => ?_) (fun c21 => ?_)
        · refine z_iinc hY eX8_withAt_111 3 rfl (ls' := [(3, z_i (e + 1)), (0, .ref (A 40)), (1, z_i p), (2, z_i i)]) rfl ?_
          refine z_goto hY eX8_withAt_114 ?_
          refine z_sub [1, 2, 3, 0] (ls' := [(0, .ref (A 40)), (1, z_i p), (2, z_i i), (3, z_i (e + 1))]) rfl ?_
          exact ih7 (e + 1) (by omega) (by omega) ((z_fi_f (by omega) (by omega)).symm.trans hn)
        · refine z_aload hY eX8_withAt_24 0 rfl ?_
          refine z_iload hY eX8_withAt_25 3 rfl ?_
          refine z_callVr (As := [z_i e]) (rest := []) (r := z_i (τ 14 (4 * e))) hY eX8_withAt_26 (m_points hG hA hB (by omega)) (mH_at hA (k := 40) (by decide)) (by decide) (Nat.le_of_ble_eq_true rfl) ⟨Nat.zero_le _, Nat.zero_le _⟩ ?_
          have hc3 := hB 14 (4 * e)
          refine z_iload hY eX8_withAt_29 1 rfl ?_
          refine z_icmpeq hY eX8_withAt_30 (by omega) (fun c30 => ?_) (fun c30 => ?_)
          · refine z_const hY eX8_withAt_36 ?_
            refine z_istore hY eX8_withAt_37 (ls' := [(4, z_i 0), (0, .ref (A 40)), (1, z_i p), (2, z_i i), (3, z_i e)]) rfl ?_
            refine z_const hY eX8_withAt_39 ?_
            refine z_istore hY eX8_withAt_40 (ls' := [(5, z_i 0), (4, z_i 0), (0, .ref (A 40)), (1, z_i p), (2, z_i i), (3, z_i e)]) rfl ?_
            refine z_sub [2, 3, 4, 5, 0, 1] (ls' := [(0, .ref (A 40)), (1, z_i p), (2, z_i i), (3, z_i e), (5, z_i 0), (4, z_i 0)]) rfl ?_
            have lp42 : ∀ (fu : Nat) (o : Int) (n : Int), (τ 19 0 - o).toNat < fu → 0 ≤ o ∧ o ≤ τ 19 0 → n = z_sm (fun o => if τ 18 o ≠ 0 ∧ τ 14 (4 * o) = p ∧ τ 16 o < τ 16 e then (1 : Int) else 0) o → 0 ≤ n ∧ n ≤ o → z_W Y 42 [(0, .ref (A 40)), (1, z_i p), (2, z_i i), (3, z_i e), (5, z_i o), (4, z_i n)] [] (mH A τ h) 0 0 := by
              intro fu
              induction fu with
              | zero => intro o n hf; exact absurd hf (Nat.not_lt_zero _)
              | succ fu ih42 =>
                intro o n hf h3 hu hnb
                refine z_iload hY eX8_withAt_42 4 rfl ?_
                refine z_aload hY eX8_withAt_44 0 rfl ?_
                refine m_gf hY hA eX8_withAt_45 (v := z_i (τ 19 0)) rfl ?_
                refine z_icmpge hY eX8_withAt_48 (by omega) (fun c48 => ?_) (fun c48 => ?_)
                · have e1 : n = yAh τ p e := by rw [hu, show o = τ 19 0 by omega]; rfl
                  refine z_iload hY eX8_withAt_103 5 rfl ?_
                  refine z_iload hY eX8_withAt_105 2 rfl ?_
                  refine z_icmpne hY eX8_withAt_106 (by omega) (fun c106 => ?_) (fun c106 => ?_)
                  · refine z_iinc hY eX8_withAt_111 3 rfl (ls' := [(3, z_i (e + 1)), (0, .ref (A 40)), (1, z_i p), (2, z_i i), (5, z_i o), (4, z_i n)]) rfl ?_
                    refine z_goto hY eX8_withAt_114 ?_
                    refine z_sub [1, 2, 3, 0] (ls' := [(0, .ref (A 40)), (1, z_i p), (2, z_i i), (3, z_i (e + 1))]) rfl ?_
                    exact ih7 (e + 1) (by omega) (by omega) ((z_fi_f (by omega) (by omega)).symm.trans hn)
                  · refine z_iload hY eX8_withAt_109 3 rfl ?_
                    exact z_ireturn hY eX8_withAt_110 rfl (by rw [hφ]; exact ⟨0, _, rfl, by rw [z_u_id h00], by unfold S_withAt; exact ⟨rfl, (z_fi_t (by omega) (by omega)).symm.trans hn⟩⟩) ⟨Nat.zero_le _, Nat.zero_le _⟩
                · refine z_iload hY eX8_withAt_51 5 rfl ?_
                  refine z_aload hY eX8_withAt_53 0 rfl ?_
                  refine m_gf hY hA eX8_withAt_54 (v := .ref (A 18)) rfl ?_
                  refine z_iload hY eX8_withAt_57 4 rfl ?_
                  have hb4 := hB 18 o
                  refine m_bal hY hA eX8_withAt_59 (j := 18) (N := 30) (x := τ 18 o) (by decide) rfl (by omega) rfl ?_
                  refine z_ifeq hY eX8_withAt_60 (by omega) (fun c60 => ?_) (fun c60 => ?_)
                  · refine z_const hY eX8_withAt_93 ?_
                    refine z_iadd hY eX8_withAt_94 ?_
                    refine z_top (b := n) (by omega) ?_
                    refine z_istore hY eX8_withAt_95 (ls' := [(4, z_i n), (0, .ref (A 40)), (1, z_i p), (2, z_i i), (3, z_i e), (5, z_i o)]) rfl ?_
                    refine z_iinc hY eX8_withAt_97 5 rfl (ls' := [(5, z_i (o + 1)), (4, z_i n), (0, .ref (A 40)), (1, z_i p), (2, z_i i), (3, z_i e)]) rfl ?_
                    refine z_goto hY eX8_withAt_100 ?_
                    refine z_sub [2, 3, 4, 5, 0, 1] (ls' := [(0, .ref (A 40)), (1, z_i p), (2, z_i i), (3, z_i e), (5, z_i (o + 1)), (4, z_i n)]) rfl ?_
                    exact ih42 (o + 1) n (by omega) (by omega) (by rw [z_smS (by omega), ← hu]; split <;> omega) (by omega)
                  · refine z_aload hY eX8_withAt_63 0 rfl ?_
                    refine z_iload hY eX8_withAt_64 4 rfl ?_
                    refine z_callVr (As := [z_i o]) (rest := [z_i n]) (r := z_i (τ 14 (4 * o))) hY eX8_withAt_66 (m_points hG hA hB (by omega)) (mH_at hA (k := 40) (by decide)) (by decide) (Nat.le_of_ble_eq_true rfl) ⟨Nat.zero_le _, Nat.zero_le _⟩ ?_
                    have hc5 := hB 14 (4 * o)
                    refine z_iload hY eX8_withAt_69 1 rfl ?_
                    refine z_icmpne hY eX8_withAt_70 (by omega) (fun c70 => ?_) (fun c70 => ?_)
                    · refine z_const hY eX8_withAt_93 ?_
                      refine z_iadd hY eX8_withAt_94 ?_
                      refine z_top (b := n) (by omega) ?_
                      refine z_istore hY eX8_withAt_95 (ls' := [(4, z_i n), (0, .ref (A 40)), (1, z_i p), (2, z_i i), (3, z_i e), (5, z_i o)]) rfl ?_
                      refine z_iinc hY eX8_withAt_97 5 rfl (ls' := [(5, z_i (o + 1)), (4, z_i n), (0, .ref (A 40)), (1, z_i p), (2, z_i i), (3, z_i e)]) rfl ?_
                      refine z_goto hY eX8_withAt_100 ?_
                      refine z_sub [2, 3, 4, 5, 0, 1] (ls' := [(0, .ref (A 40)), (1, z_i p), (2, z_i i), (3, z_i e), (5, z_i (o + 1)), (4, z_i n)]) rfl ?_
                      exact ih42 (o + 1) n (by omega) (by omega) (by rw [z_smS (by omega), ← hu]; split <;> omega) (by omega)
                    · refine z_aload hY eX8_withAt_73 0 rfl ?_
                      refine m_gf hY hA eX8_withAt_74 (v := .ref (A 16)) rfl ?_
                      refine z_iload hY eX8_withAt_77 4 rfl ?_
                      have hb6 := hB 16 o
                      refine m_ial hY hA eX8_withAt_79 (j := 16) (N := 30) (x := τ 16 o) (by decide) rfl (by omega) rfl ?_
                      refine z_aload hY eX8_withAt_80 0 rfl ?_
                      refine m_gf hY hA eX8_withAt_81 (v := .ref (A 16)) rfl ?_
                      refine z_iload hY eX8_withAt_84 3 rfl ?_
                      have hb7 := hB 16 e
                      refine m_ial hY hA eX8_withAt_85 (j := 16) (N := 30) (x := τ 16 e) (by decide) rfl (by omega) rfl ?_
                      refine z_icmpge hY eX8_withAt_86 (by omega) (fun c86 => ?_) (fun c86 => ?_)
                      · refine z_const hY eX8_withAt_93 ?_
                        refine z_iadd hY eX8_withAt_94 ?_
                        refine z_top (b := n) (by omega) ?_
                        refine z_istore hY eX8_withAt_95 (ls' := [(4, z_i n), (0, .ref (A 40)), (1, z_i p), (2, z_i i), (3, z_i e), (5, z_i o)]) rfl ?_
                        refine z_iinc hY eX8_withAt_97 5 rfl (ls' := [(5, z_i (o + 1)), (4, z_i n), (0, .ref (A 40)), (1, z_i p), (2, z_i i), (3, z_i e)]) rfl ?_
                        refine z_goto hY eX8_withAt_100 ?_
                        refine z_sub [2, 3, 4, 5, 0, 1] (ls' := [(0, .ref (A 40)), (1, z_i p), (2, z_i i), (3, z_i e), (5, z_i (o + 1)), (4, z_i n)]) rfl ?_
                        exact ih42 (o + 1) n (by omega) (by omega) (by rw [z_smS (by omega), ← hu]; split <;> omega) (by omega)
                      · refine z_const hY eX8_withAt_89 ?_
                        refine z_goto hY eX8_withAt_90 ?_
                        refine z_iadd hY eX8_withAt_94 ?_
                        refine z_istore hY eX8_withAt_95 (ls' := [(4, z_i (n + 1)), (0, .ref (A 40)), (1, z_i p), (2, z_i i), (3, z_i e), (5, z_i o)]) rfl ?_
                        refine z_iinc hY eX8_withAt_97 5 rfl (ls' := [(5, z_i (o + 1)), (4, z_i (n + 1)), (0, .ref (A 40)), (1, z_i p), (2, z_i i), (3, z_i e)]) rfl ?_
                        refine z_goto hY eX8_withAt_100 ?_
                        refine z_sub [2, 3, 4, 5, 0, 1] (ls' := [(0, .ref (A 40)), (1, z_i p), (2, z_i i), (3, z_i e), (5, z_i (o + 1)), (4, z_i (n + 1))]) rfl ?_
                        exact ih42 (o + 1) (n + 1) (by omega) (by omega) (by rw [z_smS (by omega), ← hu]; split <;> omega) (by omega)
            exact lp42 _ 0 0 (Nat.lt_succ_self _) (by omega) (z_sm0 (by omega)).symm (by omega)
          · refine z_goto hY eX8_withAt_33 ?_
            refine z_iinc hY eX8_withAt_111 3 rfl (ls' := [(3, z_i (e + 1)), (0, .ref (A 40)), (1, z_i p), (2, z_i i)]) rfl ?_
            refine z_goto hY eX8_withAt_114 ?_
            refine z_sub [1, 2, 3, 0] (ls' := [(0, .ref (A 40)), (1, z_i p), (2, z_i i), (3, z_i (e + 1))]) rfl ?_
            exact ih7 (e + 1) (by omega) (by omega) ((z_fi_f (by omega) (by omega)).symm.trans hn)
  exact lp7 _ 0 (Nat.lt_succ_self _) (by omega) rfl
def yNx (σ : z_S) (p : Int) : Int := z_fl (fun t e => if σ 18 e ≠ 0 ∧ p < σ 14 (4 * e) ∧ (t = -1 ∨ σ 14 (4 * e) < σ 14 (4 * t)) then e else t) (-1) (σ 19 0)
def S_next (σ : z_S) (p : Int) (c r : Int) : Prop := if yNx σ p = -1 then c = 1 else c = 0 ∧ r = σ 14 (4 * yNx σ p)
theorem p_next {G : z_G} {A : Nat → Nat} {σ τ : z_S} {h : z_H} (hτ : z_u σ 0 0 0 = τ) (hG : z_OK G) (hA : mI A) (hB : mB τ) (hV : mV τ) {p : Int} (hr : -2147483648 ≤ p ∧ p ≤ 2147483647) : z_T G mX8_next [.ref (A 40), z_i p] (mH A σ h) 2 0 0 (fun v h' => ∃ c r : Int, v = some (z_i r) ∧ h' = mH A (z_u τ 0 0 c) h ∧ S_next τ p c r) (z_no) := by
  have h00 : τ 0 0 = 0 := by rw [← hτ]; rfl
  obtain ⟨hf, hsc, hcm, hcr, hth, hgr, hlm, hld, hlo, hro, htm, hre, hpa, htp, hgp⟩ := id hV
  refine z_T_of hG pX8_next (Nat.le_of_ble_eq_true rfl) (ls0 := [(0, .ref (A 40)), (1, z_i p)]) rfl fun Y hY hg hmc hms hφ hψ => ?_
  subst hg
  refine z_aload hY eX8_next_0 0 rfl ?_
  refine z_const hY eX8_next_1 ?_
  refine m_pf hY hA eX8_next_2 (by decide) ?_
  rw [hτ]
  refine z_const hY eX8_next_5 ?_
  refine z_istore hY eX8_next_6 (ls' := [(2, z_i (-1)), (0, .ref (A 40)), (1, z_i p)]) rfl ?_
  refine z_const hY eX8_next_7 ?_
  refine z_istore hY eX8_next_8 (ls' := [(3, z_i 0), (2, z_i (-1)), (0, .ref (A 40)), (1, z_i p)]) rfl ?_
  refine z_sub [2, 3, 0, 1] (ls' := [(0, .ref (A 40)), (1, z_i p), (3, z_i 0), (2, z_i (-1))]) rfl ?_
  have lp9 : ∀ (fu : Nat) (o : Int) (t : Int), (τ 19 0 - o).toNat < fu → 0 ≤ o ∧ o ≤ τ 19 0 → t = z_fl (fun t e => if τ 18 e ≠ 0 ∧ p < τ 14 (4 * e) ∧ (t = -1 ∨ τ 14 (4 * e) < τ 14 (4 * t)) then e else t) (-1) o → -1 ≤ t ∧ t < 30 → z_W Y 9 [(0, .ref (A 40)), (1, z_i p), (3, z_i o), (2, z_i t)] [] (mH A τ h) 0 0 := by
    intro fu
    induction fu with
    | zero => intro o t hf; exact absurd hf (Nat.not_lt_zero _)
    | succ fu ih9 =>
      intro o t hf h0 hn hnb
      refine z_iload hY eX8_next_9 2 rfl ?_
      refine z_aload hY eX8_next_10 0 rfl ?_
      have hb1 := hB 19 0
      refine m_gf hY hA eX8_next_11 (v := z_i (τ 19 0)) rfl ?_
      refine z_icmpge hY eX8_next_14 (by omega) (fun c14 => ?_) (fun c14 => ?_)
      · have e1 : yNx τ p = t := by rw [hn, show o = τ 19 0 by omega]; rfl
        clear hn
        refine z_aload hY eX8_next_61 0 rfl ?_
        refine z_iload hY eX8_next_62 3 rfl ?_
        refine z_const hY eX8_next_63 ?_
        refine z_icmpeq hY eX8_next_64 (by omega) (fun c64 => ?_) (fun c64 => ?_)
        · refine z_const hY eX8_next_71 ?_
          refine z_const hY eX8_next_72 ?_
          refine z_callV (As := [z_i 0, z_i 1]) (rest := []) hY eX8_next_73 (m_fails_f hG hA hB h00 (g := 0) (c := 1) (by omega) (by omega)) (mH_at hA (k := 40) (by decide)) (by decide) (Nat.le_of_ble_eq_true rfl) ⟨Nat.zero_le _, Nat.zero_le _⟩ (fun _ _ q => q.elim) (fun v2 h2 q2 => ?_)
          obtain ⟨rfl, rfl⟩ := q2
          refine z_ifeq hY eX8_next_76 (by omega) (fun c => absurd c (by omega)) (fun _ => ?_)
          refine z_const hY eX8_next_79 ?_
          refine z_goto hY eX8_next_80 ?_
          exact z_ireturn hY eX8_next_88 rfl (by rw [hφ]; exact ⟨1, _, rfl, rfl, by unfold S_next; rw [e1]; split <;> omega⟩) ⟨Nat.zero_le _, Nat.zero_le _⟩
        · refine z_const hY eX8_next_67 ?_
          refine z_goto hY eX8_next_68 ?_
          refine z_const hY eX8_next_72 ?_
          refine z_callVr (As := [z_i 1, z_i 1]) (rest := []) (r := z_i 0) hY eX8_next_73 (m_fails_t hG hA hB h00 (g := 1) (c := 1) (by omega) (by omega)) (mH_at hA (k := 40) (by decide)) (by decide) (Nat.le_of_ble_eq_true rfl) ⟨Nat.zero_le _, Nat.zero_le _⟩ ?_
          refine z_ifeq hY eX8_next_76 (by omega) (fun _ => ?_) (fun c => absurd c (by omega))
          refine z_aload hY eX8_next_83 0 rfl ?_
          refine z_iload hY eX8_next_84 3 rfl ?_
          refine z_callVr (As := [z_i t]) (rest := []) (r := z_i (τ 14 (4 * t))) hY eX8_next_85 (m_points hG hA hB (by omega)) (mH_at hA (k := 40) (by decide)) (by decide) (Nat.le_of_ble_eq_true rfl) ⟨Nat.zero_le _, Nat.zero_le _⟩ ?_
          have hc3 := hB 14 (4 * t)
          exact z_ireturn hY eX8_next_88 rfl (by rw [hφ]; exact ⟨0, _, rfl, by rw [z_u_id h00], by unfold S_next; rw [e1]; split <;> omega⟩) ⟨Nat.zero_le _, Nat.zero_le _⟩
      · refine z_aload hY eX8_next_17 0 rfl ?_
        refine m_gf hY hA eX8_next_18 (v := .ref (A 18)) rfl ?_
        refine z_iload hY eX8_next_21 2 rfl ?_
        have hb4 := hB 18 o
        refine m_bal hY hA eX8_next_22 (j := 18) (N := 30) (x := τ 18 o) (by decide) rfl (by omega) rfl ?_
        refine z_ifeq hY eX8_next_23 (by omega) (fun c23 => ?_) (fun c23 => ?_)
        · refine z_iinc hY eX8_next_55 2 rfl (ls' := [(3, z_i (o + 1)), (0, .ref (A 40)), (1, z_i p), (2, z_i t)]) rfl ?_
          refine z_goto hY eX8_next_58 ?_
          refine z_sub [1, 2, 0, 3] (ls' := [(0, .ref (A 40)), (1, z_i p), (3, z_i (o + 1)), (2, z_i t)]) rfl ?_
          exact ih9 (o + 1) t (by omega) (by omega) (by rw [z_flS (by omega), ← hn]; split <;> omega) (by omega)
        · refine z_aload hY eX8_next_26 0 rfl ?_
          refine z_iload hY eX8_next_27 2 rfl ?_
          refine z_callVr (As := [z_i o]) (rest := []) (r := z_i (τ 14 (4 * o))) hY eX8_next_28 (m_points hG hA hB (by omega)) (mH_at hA (k := 40) (by decide)) (by decide) (Nat.le_of_ble_eq_true rfl) ⟨Nat.zero_le _, Nat.zero_le _⟩ ?_
          have hc5 := hB 14 (4 * o)
          refine z_iload hY eX8_next_31 1 rfl ?_
          refine z_icmple hY eX8_next_32 (by omega) (fun c32 => ?_) (fun c32 => ?_)
          · refine z_iinc hY eX8_next_55 2 rfl (ls' := [(3, z_i (o + 1)), (0, .ref (A 40)), (1, z_i p), (2, z_i t)]) rfl ?_
            refine z_goto hY eX8_next_58 ?_
            refine z_sub [1, 2, 0, 3] (ls' := [(0, .ref (A 40)), (1, z_i p), (3, z_i (o + 1)), (2, z_i t)]) rfl ?_
            exact ih9 (o + 1) t (by omega) (by omega) (by rw [z_flS (by omega), ← hn]; split <;> omega) (by omega)
          · refine z_iload hY eX8_next_35 3 rfl ?_
            refine z_const hY eX8_next_36 ?_
            refine z_icmpeq hY eX8_next_37 (by omega) (fun c37 => ?_) (fun c37 => ?_)
            · refine z_iload hY eX8_next_53 2 rfl ?_
              refine z_istore hY eX8_next_54 (ls' := [(2, z_i o), (0, .ref (A 40)), (1, z_i p), (3, z_i o)]) rfl ?_
              refine z_iinc hY eX8_next_55 3 rfl (ls' := [(3, z_i (o + 1)), (2, z_i o), (0, .ref (A 40)), (1, z_i p)]) rfl ?_
              refine z_goto hY eX8_next_58 ?_
              refine z_sub [2, 3, 0, 1] (ls' := [(0, .ref (A 40)), (1, z_i p), (3, z_i (o + 1)), (2, z_i o)]) rfl ?_
              exact ih9 (o + 1) o (by omega) (by omega) (by rw [z_flS (by omega), ← hn]; split <;> omega) (by omega)
            · refine z_aload hY eX8_next_40 0 rfl ?_
              refine z_iload hY eX8_next_41 2 rfl ?_
              refine z_callVr (As := [z_i o]) (rest := []) (r := z_i (τ 14 (4 * o))) hY eX8_next_42 (m_points hG hA hB (by omega)) (mH_at hA (k := 40) (by decide)) (by decide) (Nat.le_of_ble_eq_true rfl) ⟨Nat.zero_le _, Nat.zero_le _⟩ ?_
              have hc6 := hB 14 (4 * o)
              refine z_aload hY eX8_next_45 0 rfl ?_
              refine z_iload hY eX8_next_46 3 rfl ?_
              refine z_callVr (As := [z_i t]) (rest := [z_i (τ 14 (4 * o))]) (r := z_i (τ 14 (4 * t))) hY eX8_next_47 (m_points hG hA hB (by omega)) (mH_at hA (k := 40) (by decide)) (by decide) (Nat.le_of_ble_eq_true rfl) ⟨Nat.zero_le _, Nat.zero_le _⟩ ?_
              have hc7 := hB 14 (4 * t)
              refine z_icmpge hY eX8_next_50 (by omega) (fun c50 => ?_) (fun c50 => ?_)
              · refine z_iinc hY eX8_next_55 2 rfl (ls' := [(3, z_i (o + 1)), (0, .ref (A 40)), (1, z_i p), (2, z_i t)]) rfl ?_
                refine z_goto hY eX8_next_58 ?_
                refine z_sub [1, 2, 0, 3] (ls' := [(0, .ref (A 40)), (1, z_i p), (3, z_i (o + 1)), (2, z_i t)]) rfl ?_
                exact ih9 (o + 1) t (by omega) (by omega) (by rw [z_flS (by omega), ← hn]; split <;> omega) (by omega)
              · refine z_iload hY eX8_next_53 2 rfl ?_
                refine z_istore hY eX8_next_54 (ls' := [(2, z_i o), (0, .ref (A 40)), (1, z_i p), (3, z_i o)]) rfl ?_
                refine z_iinc hY eX8_next_55 3 rfl (ls' := [(3, z_i (o + 1)), (2, z_i o), (0, .ref (A 40)), (1, z_i p)]) rfl ?_
                refine z_goto hY eX8_next_58 ?_
                refine z_sub [2, 3, 0, 1] (ls' := [(0, .ref (A 40)), (1, z_i p), (3, z_i (o + 1)), (2, z_i o)]) rfl ?_
                exact ih9 (o + 1) o (by omega) (by omega) (by rw [z_flS (by omega), ← hn]; split <;> omega) (by omega)
  exact lp9 _ 0 (-1) (Nat.lt_succ_self _) (by omega) (z_fl0 (by omega)).symm (by omega)
def S_median (σ : z_S) (b : Int) (c r : Int) : Prop := if 0 < my σ then c = 0 ∧ r = yPa σ (if b ≠ 0 then my σ / 2 + 1 else (my σ + 1) / 2) else c = 1
theorem p_median {G : z_G} {A : Nat → Nat} {σ τ : z_S} {h : z_H} (hτ : z_u σ 0 0 0 = τ) (hG : z_OK G) (hA : mI A) (hB : mB τ) (hV : mV τ) {b : Int} (hr : -2147483648 ≤ b ∧ b ≤ 2147483647) : z_T G mX8_median [.ref (A 40), z_i b] (mH A σ h) 4 0 0 (fun v h' => ∃ c r : Int, v = some (z_i r) ∧ h' = mH A (z_u τ 0 0 c) h ∧ S_median τ b c r) (z_no) := by
  have h00 : τ 0 0 = 0 := by rw [← hτ]; rfl
  obtain ⟨hf, hsc, hcm, hcr, hth, hgr, hlm, hld, hlo, hro, htm, hre, hpa, htp, hgp⟩ := id hV
  refine z_T_of hG pX8_median (Nat.le_of_ble_eq_true rfl) (ls0 := [(0, .ref (A 40)), (1, z_i b)]) rfl fun Y hY hg hmc hms hφ hψ => ?_
  subst hg
  refine z_aload hY eX8_median_0 0 rfl ?_
  refine z_const hY eX8_median_1 ?_
  refine m_pf hY hA eX8_median_2 (by decide) ?_
  rw [hτ]
  refine z_aload hY eX8_median_5 0 rfl ?_
  refine z_callVr (As := []) (rest := []) (r := z_i (my τ)) hY eX8_median_6 (m_many hG hA hB hV ) (mH_at hA (k := 40) (by decide)) (by decide) (Nat.le_of_ble_eq_true rfl) ⟨Nat.zero_le _, Nat.zero_le _⟩ ?_
  have hc1 := my_b hV
  refine z_istore hY eX8_median_9 (ls' := [(2, z_i (my τ)), (0, .ref (A 40)), (1, z_i b)]) rfl ?_
  refine z_aload hY eX8_median_10 1 rfl ?_
  refine z_iload hY eX8_median_11 0 rfl ?_
  refine z_ifle hY eX8_median_12 (by omega) (fun c12 => ?_) (fun c12 => ?_)
  · refine z_const hY eX8_median_19 ?_
    refine z_const hY eX8_median_20 ?_
    refine z_callV (As := [z_i 0, z_i 1]) (rest := []) hY eX8_median_21 (m_fails_f hG hA hB h00 (g := 0) (c := 1) (by omega) (by omega)) (mH_at hA (k := 40) (by decide)) (by decide) (Nat.le_of_ble_eq_true rfl) ⟨Nat.zero_le _, Nat.zero_le _⟩ (fun _ _ q => q.elim) (fun v2 h2 q2 => ?_)
    obtain ⟨rfl, rfl⟩ := q2
    refine z_ifeq hY eX8_median_24 (by omega) (fun c => absurd c (by omega)) (fun _ => ?_)
    refine z_const hY eX8_median_27 ?_
    refine z_goto hY eX8_median_28 ?_
    exact z_ireturn hY eX8_median_52 rfl (by rw [hφ]; exact ⟨1, _, rfl, rfl, by unfold S_median; (repeat' split) <;> omega⟩) ⟨Nat.zero_le _, Nat.zero_le _⟩
  · refine z_const hY eX8_median_15 ?_
    refine z_goto hY eX8_median_16 ?_
    refine z_const hY eX8_median_20 ?_
    refine z_callVr (As := [z_i 1, z_i 1]) (rest := []) (r := z_i 0) hY eX8_median_21 (m_fails_t hG hA hB h00 (g := 1) (c := 1) (by omega) (by omega)) (mH_at hA (k := 40) (by decide)) (by decide) (Nat.le_of_ble_eq_true rfl) ⟨Nat.zero_le _, Nat.zero_le _⟩ ?_
    refine z_ifeq hY eX8_median_24 (by omega) (fun _ => ?_) (fun c => absurd c (by omega))
    refine z_aload hY eX8_median_31 1 rfl ?_
    refine z_iload hY eX8_median_32 2 rfl ?_
    refine z_ifeq hY eX8_median_33 (by omega) (fun c33 => ?_) (fun c33 => ?_)
    · refine z_iload hY eX8_median_44 0 rfl ?_
      refine z_const hY eX8_median_45 ?_
      refine z_iadd hY eX8_median_46 ?_
      refine z_const hY eX8_median_47 ?_
      refine z_idiv hY eX8_median_48 (by omega) ?_
      refine z_callVr (As := [z_i (((my τ) + 1) / 2)]) (rest := []) (r := z_i (yPa τ (((my τ) + 1) / 2))) hY eX8_median_49 (m_pointsAt hG hA hB hV (by omega)) (mH_at hA (k := 40) (by decide)) (by decide) (Nat.le_of_ble_eq_true rfl) ⟨Nat.zero_le _, Nat.zero_le _⟩ ?_
      exact z_ireturn hY eX8_median_52 rfl (by rw [hφ]; exact ⟨0, _, rfl, by rw [z_u_id h00], by unfold S_median; (repeat' split) <;> omega⟩) ⟨Nat.zero_le _, Nat.zero_le _⟩
    · refine z_iload hY eX8_median_36 0 rfl ?_
      refine z_const hY eX8_median_37 ?_
      refine z_idiv hY eX8_median_38 (by omega) ?_
      refine z_const hY eX8_median_39 ?_
      refine z_iadd hY eX8_median_40 ?_
      refine z_goto hY eX8_median_41 ?_
      refine z_callVr (As := [z_i (((my τ) / 2) + 1)]) (rest := []) (r := z_i (yPa τ (((my τ) / 2) + 1))) hY eX8_median_49 (m_pointsAt hG hA hB hV (by omega)) (mH_at hA (k := 40) (by decide)) (by decide) (Nat.le_of_ble_eq_true rfl) ⟨Nat.zero_le _, Nat.zero_le _⟩ ?_
      exact z_ireturn hY eX8_median_52 rfl (by rw [hφ]; exact ⟨0, _, rfl, by rw [z_u_id h00], by unfold S_median; (repeat' split) <;> omega⟩) ⟨Nat.zero_le _, Nat.zero_le _⟩
def S_quantile (σ : z_S) (p q : Int) (c r : Int) : Prop := if 1 ≤ q ∧ q ≤ 100 ∧ 0 ≤ p ∧ p ≤ q then (if 0 < my σ then c = 0 ∧ r = yPa σ (if (my σ * p + q - 1) / q < 1 then 1 else (my σ * p + q - 1) / q) else c = 2) else c = 1
theorem p_quantile {G : z_G} {A : Nat → Nat} {σ τ : z_S} {h : z_H} (hτ : z_u σ 0 0 0 = τ) (hG : z_OK G) (hA : mI A) (hB : mB τ) (hV : mV τ) {p q : Int} (hr : -2147483648 ≤ p ∧ p ≤ 2147483647 ∧ -2147483648 ≤ q ∧ q ≤ 2147483647) : z_T G mX8_quantile [.ref (A 40), z_i p, z_i q] (mH A σ h) 4 0 0 (fun v h' => ∃ c r : Int, v = some (z_i r) ∧ h' = mH A (z_u τ 0 0 c) h ∧ S_quantile τ p q c r) (z_no) := by
  have h00 : τ 0 0 = 0 := by rw [← hτ]; rfl
  obtain ⟨hf, hsc, hcm, hcr, hth, hgr, hlm, hld, hlo, hro, htm, hre, hpa, htp, hgp⟩ := id hV
  refine z_T_of hG pX8_quantile (Nat.le_of_ble_eq_true rfl) (ls0 := [(0, .ref (A 40)), (1, z_i p), (2, z_i q)]) rfl fun Y hY hg hmc hms hφ hψ => ?_
  subst hg
  refine z_aload hY eX8_quantile_0 0 rfl ?_
  refine z_const hY eX8_quantile_1 ?_
  refine m_pf hY hA eX8_quantile_2 (by decide) ?_
  rw [hτ]
  refine z_aload hY eX8_quantile_5 0 rfl ?_
  refine z_callVr (As := []) (rest := []) (r := z_i (my τ)) hY eX8_quantile_6 (m_many hG hA hB hV ) (mH_at hA (k := 40) (by decide)) (by decide) (Nat.le_of_ble_eq_true rfl) ⟨Nat.zero_le _, Nat.zero_le _⟩ ?_
  have hc1 := my_b hV
  refine z_istore hY eX8_quantile_9 (ls' := [(3, z_i (my τ)), (0, .ref (A 40)), (1, z_i p), (2, z_i q)]) rfl ?_
  refine z_aload hY eX8_quantile_10 1 rfl ?_
  refine z_iload hY eX8_quantile_11 3 rfl ?_
  refine z_const hY eX8_quantile_12 ?_
  refine z_const hY eX8_quantile_13 ?_
  refine z_callSr (As := [z_i q, z_i 1, z_i 100]) (rest := [.ref (A 40)]) (r := z_i (z_bl (1 ≤ q ∧ q ≤ 100))) hY eX8_quantile_15 (m_in hG (by omega)) (by decide) (Nat.le_of_ble_eq_true rfl) ⟨Nat.zero_le _, Nat.zero_le _⟩ ?_
  refine z_ifeqb hY eX8_quantile_18 (fun c18 => ?_) (fun c18 => ?_)
  · refine z_const hY eX8_quantile_34 ?_
    refine z_const hY eX8_quantile_35 ?_
    refine z_callV (As := [z_i 0, z_i 1]) (rest := []) hY eX8_quantile_36 (m_fails_f hG hA hB h00 (g := 0) (c := 1) (by omega) (by omega)) (mH_at hA (k := 40) (by decide)) (by decide) (Nat.le_of_ble_eq_true rfl) ⟨Nat.zero_le _, Nat.zero_le _⟩ (fun _ _ q => q.elim) (fun v2 h2 q2 => ?_)
    obtain ⟨rfl, rfl⟩ := q2
    refine z_ifne hY eX8_quantile_39 (by omega) (fun _ => ?_) (fun c => absurd c (by omega))
    refine z_const hY eX8_quantile_59 ?_
    exact z_ireturn hY eX8_quantile_60 rfl (by rw [hφ]; exact ⟨1, _, rfl, rfl, by unfold S_quantile; (repeat' split) <;> first | omega | (refine ⟨rfl, ?_⟩; congr 1; split <;> omega)⟩) ⟨Nat.zero_le _, Nat.zero_le _⟩
  · refine z_iload hY eX8_quantile_21 2 rfl ?_
    refine z_const hY eX8_quantile_22 ?_
    refine z_iload hY eX8_quantile_23 3 rfl ?_
    refine z_callSr (As := [z_i p, z_i 0, z_i q]) (rest := [.ref (A 40)]) (r := z_i (z_bl (0 ≤ p ∧ p ≤ q))) hY eX8_quantile_24 (m_in hG (by omega)) (by decide) (Nat.le_of_ble_eq_true rfl) ⟨Nat.zero_le _, Nat.zero_le _⟩ ?_
    refine z_ifeqb hY eX8_quantile_27 (fun c27 => ?_) (fun c27 => ?_)
    · refine z_const hY eX8_quantile_34 ?_
      refine z_const hY eX8_quantile_35 ?_
      refine z_callV (As := [z_i 0, z_i 1]) (rest := []) hY eX8_quantile_36 (m_fails_f hG hA hB h00 (g := 0) (c := 1) (by omega) (by omega)) (mH_at hA (k := 40) (by decide)) (by decide) (Nat.le_of_ble_eq_true rfl) ⟨Nat.zero_le _, Nat.zero_le _⟩ (fun _ _ q => q.elim) (fun v3 h3 q3 => ?_)
      obtain ⟨rfl, rfl⟩ := q3
      refine z_ifne hY eX8_quantile_39 (by omega) (fun _ => ?_) (fun c => absurd c (by omega))
      refine z_const hY eX8_quantile_59 ?_
      exact z_ireturn hY eX8_quantile_60 rfl (by rw [hφ]; exact ⟨1, _, rfl, rfl, by unfold S_quantile; (repeat' split) <;> first | omega | (refine ⟨rfl, ?_⟩; congr 1; split <;> omega)⟩) ⟨Nat.zero_le _, Nat.zero_le _⟩
    · refine z_const hY eX8_quantile_30 ?_
      refine z_goto hY eX8_quantile_31 ?_
      refine z_const hY eX8_quantile_35 ?_
      refine z_callVr (As := [z_i 1, z_i 1]) (rest := []) (r := z_i 0) hY eX8_quantile_36 (m_fails_t hG hA hB h00 (g := 1) (c := 1) (by omega) (by omega)) (mH_at hA (k := 40) (by decide)) (by decide) (Nat.le_of_ble_eq_true rfl) ⟨Nat.zero_le _, Nat.zero_le _⟩ ?_
      refine z_ifne hY eX8_quantile_39 (by omega) (fun c => absurd c (by omega)) (fun _ => ?_)
      refine z_aload hY eX8_quantile_42 1 rfl ?_
      refine z_iload hY eX8_quantile_43 0 rfl ?_
      refine z_ifle hY eX8_quantile_44 (by omega) (fun c44 => ?_) (fun c44 => ?_)
      · refine z_const hY eX8_quantile_51 ?_
        refine z_const hY eX8_quantile_52 ?_
        refine z_callV (As := [z_i 0, z_i 2]) (rest := []) hY eX8_quantile_53 (m_fails_f hG hA hB h00 (g := 0) (c := 2) (by omega) (by omega)) (mH_at hA (k := 40) (by decide)) (by decide) (Nat.le_of_ble_eq_true rfl) ⟨Nat.zero_le _, Nat.zero_le _⟩ (fun _ _ q => q.elim) (fun v4 h4 q4 => ?_)
        obtain ⟨rfl, rfl⟩ := q4
        refine z_ifeq hY eX8_quantile_56 (by omega) (fun c => absurd c (by omega)) (fun _ => ?_)
        refine z_const hY eX8_quantile_59 ?_
        exact z_ireturn hY eX8_quantile_60 rfl (by rw [hφ]; exact ⟨2, _, rfl, rfl, by unfold S_quantile; (repeat' split) <;> first | omega | (refine ⟨rfl, ?_⟩; congr 1; split <;> omega)⟩) ⟨Nat.zero_le _, Nat.zero_le _⟩
      · refine z_const hY eX8_quantile_47 ?_
        refine z_goto hY eX8_quantile_48 ?_
        refine z_const hY eX8_quantile_52 ?_
        refine z_callVr (As := [z_i 1, z_i 2]) (rest := []) (r := z_i 0) hY eX8_quantile_53 (m_fails_t hG hA hB h00 (g := 1) (c := 2) (by omega) (by omega)) (mH_at hA (k := 40) (by decide)) (by decide) (Nat.le_of_ble_eq_true rfl) ⟨Nat.zero_le _, Nat.zero_le _⟩ ?_
        refine z_ifeq hY eX8_quantile_56 (by omega) (fun _ => ?_) (fun c => absurd c (by omega))
        refine z_iload hY eX8_quantile_61 0 rfl ?_
        refine z_iload hY eX8_quantile_62 2 rfl ?_
        have hmu : 0 ≤ my τ * p ∧ my τ * p ≤ 3000 := ⟨Int.mul_nonneg (by omega) (by omega), Int.le_trans (m_pr (F := 30) (S := 100) (by omega) (by omega) (by omega) (by omega)).2 (by omega)⟩
        refine z_imul hY eX8_quantile_63 ?_
        refine z_iload hY eX8_quantile_64 3 rfl ?_
        refine z_iadd hY eX8_quantile_65 ?_
        refine z_const hY eX8_quantile_66 ?_
        refine z_isub hY eX8_quantile_67 ?_
        refine z_iload hY eX8_quantile_68 3 rfl ?_
        refine z_idiv hY eX8_quantile_69 (by omega) ?_
        have hdu : 0 ≤ (my τ * p + q - 1) / q ∧ (my τ * p + q - 1) / q ≤ 3200 := ⟨Int.ediv_nonneg (by omega) (by omega), Int.le_trans (Int.ediv_le_self _ (by omega)) (by omega)⟩
        refine z_istore hY eX8_quantile_70 (ls' := [(4, z_i ((((my τ) * p) + q - 1) / q)), (3, z_i (my τ)), (0, .ref (A 40)), (1, z_i p), (2, z_i q)]) rfl ?_
        refine z_aload hY eX8_quantile_72 2 rfl ?_
        refine z_iload hY eX8_quantile_73 0 rfl ?_
        refine z_const hY eX8_quantile_75 ?_
        refine z_icmpge hY eX8_quantile_76 (by omega) (fun c76 => ?_) (fun c76 => ?_)
        · refine z_iload hY eX8_quantile_83 0 rfl ?_
          refine z_callVr (As := [z_i ((((my τ) * p) + q - 1) / q)]) (rest := []) (r := z_i (yPa τ ((((my τ) * p) + q - 1) / q))) hY eX8_quantile_85 (m_pointsAt hG hA hB hV (by omega)) (mH_at hA (k := 40) (by decide)) (by decide) (Nat.le_of_ble_eq_true rfl) ⟨Nat.zero_le _, Nat.zero_le _⟩ ?_
          exact z_ireturn hY eX8_quantile_88 rfl (by rw [hφ]; exact ⟨0, _, rfl, by rw [z_u_id h00], by unfold S_quantile; (repeat' split) <;> first | omega | (refine ⟨rfl, ?_⟩; congr 1; split <;> omega)⟩) ⟨Nat.zero_le _, Nat.zero_le _⟩
        · refine z_const hY eX8_quantile_79 ?_
          refine z_goto hY eX8_quantile_80 ?_
          refine z_callVr (As := [z_i 1]) (rest := []) (r := z_i (yPa τ 1)) hY eX8_quantile_85 (m_pointsAt hG hA hB hV (by omega)) (mH_at hA (k := 40) (by decide)) (by decide) (Nat.le_of_ble_eq_true rfl) ⟨Nat.zero_le _, Nat.zero_le _⟩ ?_
          exact z_ireturn hY eX8_quantile_88 rfl (by rw [hφ]; exact ⟨0, _, rfl, by rw [z_u_id h00], by unfold S_quantile; (repeat' split) <;> first | omega | (refine ⟨rfl, ?_⟩; congr 1; split <;> omega)⟩) ⟨Nat.zero_le _, Nat.zero_le _⟩
def S_mayChallenge (σ : z_S) (e : Int) (c r : Int) : Prop := if pr σ e then c = 0 ∧ r = (if lp σ e = -1 then 0 else if lp σ e - 1 < σ 26 0 then lp σ e - 1 else σ 26 0) else c = 1
theorem p_mayChallenge {G : z_G} {A : Nat → Nat} {σ τ : z_S} {h : z_H} (hτ : z_u σ 0 0 0 = τ) (hG : z_OK G) (hA : mI A) (hB : mB τ) (hV : mV τ) {e : Int} (hr : -2147483648 ≤ e ∧ e ≤ 2147483647) : z_T G mX8_mayChallenge [.ref (A 40), z_i e] (mH A σ h) 2 0 0 (fun v h' => ∃ c r : Int, v = some (z_i r) ∧ h' = mH A (z_u τ 0 0 c) h ∧ S_mayChallenge τ e c r) (z_no) := by
  have h00 : τ 0 0 = 0 := by rw [← hτ]; rfl
  obtain ⟨hf, hsc, hcm, hcr, hth, hgr, hlm, hld, hlo, hro, htm, hre, hpa, htp, hgp⟩ := id hV
  refine z_T_of hG pX8_mayChallenge (Nat.le_of_ble_eq_true rfl) (ls0 := [(0, .ref (A 40)), (1, z_i e)]) rfl fun Y hY hg hmc hms hφ hψ => ?_
  subst hg
  refine z_aload hY eX8_mayChallenge_0 0 rfl ?_
  refine z_const hY eX8_mayChallenge_1 ?_
  refine m_pf hY hA eX8_mayChallenge_2 (by decide) ?_
  rw [hτ]
  refine z_aload hY eX8_mayChallenge_5 0 rfl ?_
  refine z_iload hY eX8_mayChallenge_6 1 rfl ?_
  by_cases g1 : pr τ e
  · refine z_callVr (As := [z_i e]) (rest := []) (r := z_i 0) hY eX8_mayChallenge_7 (m_noE_t hG hA hB hV h00 (by omega) g1) (mH_at hA (k := 40) (by decide)) (by decide) (Nat.le_of_ble_eq_true rfl) ⟨Nat.zero_le _, Nat.zero_le _⟩ ?_
    refine z_ifeq hY eX8_mayChallenge_10 (by omega) (fun _ => ?_) (fun c => absurd c (by omega))
    refine z_aload hY eX8_mayChallenge_15 0 rfl ?_
    refine z_iload hY eX8_mayChallenge_16 1 rfl ?_
    refine z_callVr (As := [z_i e]) (rest := []) (r := z_i (lp τ e)) hY eX8_mayChallenge_17 (m_ladderPlaceOf hG hA hB hV (by omega)) (mH_at hA (k := 40) (by decide)) (by decide) (Nat.le_of_ble_eq_true rfl) ⟨Nat.zero_le _, Nat.zero_le _⟩ ?_
    have hc2 := lp_b hV (e := e)
    refine z_istore hY eX8_mayChallenge_20 (ls' := [(2, z_i (lp τ e)), (0, .ref (A 40)), (1, z_i e)]) rfl ?_
    refine z_iload hY eX8_mayChallenge_21 0 rfl ?_
    refine z_const hY eX8_mayChallenge_22 ?_
    refine z_icmpne hY eX8_mayChallenge_23 (by omega) (fun c23 => ?_) (fun c23 => ?_)
    · refine z_iload hY eX8_mayChallenge_28 0 rfl ?_
      refine z_const hY eX8_mayChallenge_29 ?_
      refine z_isub hY eX8_mayChallenge_30 ?_
      refine z_aload hY eX8_mayChallenge_31 1 rfl ?_
      have hb3 := hB 26 0
      refine m_gf hY hA eX8_mayChallenge_32 (v := z_i (τ 26 0)) rfl ?_
      refine z_icmpge hY eX8_mayChallenge_35 (by omega) (fun c35 => ?_) (fun c35 => ?_)
      · refine z_aload hY eX8_mayChallenge_44 1 rfl ?_
        refine m_gf hY hA eX8_mayChallenge_45 (v := z_i (τ 26 0)) rfl ?_
        exact z_ireturn hY eX8_mayChallenge_48 rfl (by rw [hφ]; exact ⟨0, _, rfl, by rw [z_u_id h00], by unfold S_mayChallenge; (repeat' split) <;> omega⟩) ⟨Nat.zero_le _, Nat.zero_le _⟩
      · refine z_iload hY eX8_mayChallenge_38 0 rfl ?_
        refine z_const hY eX8_mayChallenge_39 ?_
        refine z_isub hY eX8_mayChallenge_40 ?_
        refine z_goto hY eX8_mayChallenge_41 ?_
        exact z_ireturn hY eX8_mayChallenge_48 rfl (by rw [hφ]; exact ⟨0, _, rfl, by rw [z_u_id h00], by unfold S_mayChallenge; (repeat' split) <;> omega⟩) ⟨Nat.zero_le _, Nat.zero_le _⟩
    · refine z_const hY eX8_mayChallenge_26 ?_
      exact z_ireturn hY eX8_mayChallenge_27 rfl (by rw [hφ]; exact ⟨0, _, rfl, by rw [z_u_id h00], by unfold S_mayChallenge; (repeat' split) <;> omega⟩) ⟨Nat.zero_le _, Nat.zero_le _⟩
  · refine z_callV (As := [z_i e]) (rest := []) hY eX8_mayChallenge_7 (m_noE_f hG hA hB hV h00 (by omega) g1) (mH_at hA (k := 40) (by decide)) (by decide) (Nat.le_of_ble_eq_true rfl) ⟨Nat.zero_le _, Nat.zero_le _⟩ (fun _ _ q => q.elim) (fun v4 h4 q4 => ?_)
    obtain ⟨rfl, rfl⟩ := q4
    refine z_ifeq hY eX8_mayChallenge_10 (by omega) (fun c => absurd c (by omega)) (fun _ => ?_)
    refine z_const hY eX8_mayChallenge_13 ?_
    exact z_ireturn hY eX8_mayChallenge_14 rfl (by rw [hφ]; exact ⟨1, _, rfl, rfl, by unfold S_mayChallenge; (repeat' split) <;> omega⟩) ⟨Nat.zero_le _, Nat.zero_le _⟩
def S_ladderAt (σ : z_S) (p : Int) (c r : Int) : Prop := if 1 ≤ p ∧ p ≤ σ 25 0 then c = 0 ∧ r = σ 21 (p - 1) else c = 1
theorem p_ladderAt {G : z_G} {A : Nat → Nat} {σ τ : z_S} {h : z_H} (hτ : z_u σ 0 0 0 = τ) (hG : z_OK G) (hA : mI A) (hB : mB τ) (hV : mV τ) {p : Int} (hr : -2147483648 ≤ p ∧ p ≤ 2147483647) : z_T G mX8_ladderAt [.ref (A 40), z_i p] (mH A σ h) 2 0 0 (fun v h' => ∃ c r : Int, v = some (z_i r) ∧ h' = mH A (z_u τ 0 0 c) h ∧ S_ladderAt τ p c r) (z_no) := by
  have h00 : τ 0 0 = 0 := by rw [← hτ]; rfl
  obtain ⟨hf, hsc, hcm, hcr, hth, hgr, hlm, hld, hlo, hro, htm, hre, hpa, htp, hgp⟩ := id hV
  refine z_T_of hG pX8_ladderAt (Nat.le_of_ble_eq_true rfl) (ls0 := [(0, .ref (A 40)), (1, z_i p)]) rfl fun Y hY hg hmc hms hφ hψ => ?_
  subst hg
  refine z_aload hY eX8_ladderAt_0 0 rfl ?_
  refine z_const hY eX8_ladderAt_1 ?_
  refine m_pf hY hA eX8_ladderAt_2 (by decide) ?_
  rw [hτ]
  refine z_aload hY eX8_ladderAt_5 0 rfl ?_
  refine z_iload hY eX8_ladderAt_6 1 rfl ?_
  refine z_const hY eX8_ladderAt_7 ?_
  refine z_aload hY eX8_ladderAt_8 0 rfl ?_
  have hb1 := hB 25 0
  refine m_gf hY hA eX8_ladderAt_9 (v := z_i (τ 25 0)) rfl ?_
  refine z_callSr (As := [z_i p, z_i 1, z_i (τ 25 0)]) (rest := [.ref (A 40)]) (r := z_i (z_bl (1 ≤ p ∧ p ≤ (τ 25 0)))) hY eX8_ladderAt_12 (m_in hG (by omega)) (by decide) (Nat.le_of_ble_eq_true rfl) ⟨Nat.zero_le _, Nat.zero_le _⟩ ?_
  refine z_const hY eX8_ladderAt_15 ?_
  have hgb := z_bl01 (1 ≤ p ∧ p ≤ (τ 25 0))
  by_cases g2 : 1 ≤ p ∧ p ≤ (τ 25 0)
  · refine z_callVr (As := [z_i (z_bl (1 ≤ p ∧ p ≤ (τ 25 0))), z_i 1]) (rest := []) (r := z_i 0) hY eX8_ladderAt_16 (m_fails_t hG hA hB h00 (g := (z_bl (1 ≤ p ∧ p ≤ (τ 25 0)))) (c := 1) (by rw [z_bl_t g2]; omega) (by omega)) (mH_at hA (k := 40) (by decide)) (by decide) (Nat.le_of_ble_eq_true rfl) ⟨Nat.zero_le _, Nat.zero_le _⟩ ?_
    refine z_ifeq hY eX8_ladderAt_19 (by omega) (fun _ => ?_) (fun c => absurd c (by omega))
    refine z_aload hY eX8_ladderAt_26 0 rfl ?_
    refine m_gf hY hA eX8_ladderAt_27 (v := .ref (A 21)) rfl ?_
    refine z_iload hY eX8_ladderAt_30 1 rfl ?_
    refine z_const hY eX8_ladderAt_31 ?_
    refine z_isub hY eX8_ladderAt_32 ?_
    have hb3 := hB 21 (p - 1)
    refine m_ial hY hA eX8_ladderAt_33 (j := 21) (N := 30) (x := τ 21 (p - 1)) (by decide) rfl (by omega) rfl ?_
    exact z_ireturn hY eX8_ladderAt_34 rfl (by rw [hφ]; exact ⟨0, _, rfl, by rw [z_u_id h00], by unfold S_ladderAt; (repeat' split) <;> omega⟩) ⟨Nat.zero_le _, Nat.zero_le _⟩
  · refine z_callV (As := [z_i (z_bl (1 ≤ p ∧ p ≤ (τ 25 0))), z_i 1]) (rest := []) hY eX8_ladderAt_16 (m_fails_f hG hA hB h00 (g := (z_bl (1 ≤ p ∧ p ≤ (τ 25 0)))) (c := 1) (z_bl_f g2) (by omega)) (mH_at hA (k := 40) (by decide)) (by decide) (Nat.le_of_ble_eq_true rfl) ⟨Nat.zero_le _, Nat.zero_le _⟩ (fun _ _ q => q.elim) (fun v4 h4 q4 => ?_)
    obtain ⟨rfl, rfl⟩ := q4
    refine z_ifeq hY eX8_ladderAt_19 (by omega) (fun c => absurd c (by omega)) (fun _ => ?_)
    refine z_const hY eX8_ladderAt_22 ?_
    refine z_goto hY eX8_ladderAt_23 ?_
    exact z_ireturn hY eX8_ladderAt_34 rfl (by rw [hφ]; exact ⟨1, _, rfl, rfl, by unfold S_ladderAt; (repeat' split) <;> omega⟩) ⟨Nat.zero_le _, Nat.zero_le _⟩
def S_ladderPlace (σ : z_S) (e : Int) (c r : Int) : Prop := if pr σ e then c = 0 ∧ r = lp σ e else c = 1
theorem p_ladderPlace {G : z_G} {A : Nat → Nat} {σ τ : z_S} {h : z_H} (hτ : z_u σ 0 0 0 = τ) (hG : z_OK G) (hA : mI A) (hB : mB τ) (hV : mV τ) {e : Int} (hr : -2147483648 ≤ e ∧ e ≤ 2147483647) : z_T G mX8_ladderPlace [.ref (A 40), z_i e] (mH A σ h) 2 0 0 (fun v h' => ∃ c r : Int, v = some (z_i r) ∧ h' = mH A (z_u τ 0 0 c) h ∧ S_ladderPlace τ e c r) (z_no) := by
  have h00 : τ 0 0 = 0 := by rw [← hτ]; rfl
  obtain ⟨hf, hsc, hcm, hcr, hth, hgr, hlm, hld, hlo, hro, htm, hre, hpa, htp, hgp⟩ := id hV
  refine z_T_of hG pX8_ladderPlace (Nat.le_of_ble_eq_true rfl) (ls0 := [(0, .ref (A 40)), (1, z_i e)]) rfl fun Y hY hg hmc hms hφ hψ => ?_
  subst hg
  refine z_aload hY eX8_ladderPlace_0 0 rfl ?_
  refine z_const hY eX8_ladderPlace_1 ?_
  refine m_pf hY hA eX8_ladderPlace_2 (by decide) ?_
  rw [hτ]
  refine z_aload hY eX8_ladderPlace_5 0 rfl ?_
  refine z_iload hY eX8_ladderPlace_6 1 rfl ?_
  by_cases g1 : pr τ e
  · refine z_callVr (As := [z_i e]) (rest := []) (r := z_i 0) hY eX8_ladderPlace_7 (m_noE_t hG hA hB hV h00 (by omega) g1) (mH_at hA (k := 40) (by decide)) (by decide) (Nat.le_of_ble_eq_true rfl) ⟨Nat.zero_le _, Nat.zero_le _⟩ ?_
    refine z_ifeq hY eX8_ladderPlace_10 (by omega) (fun _ => ?_) (fun c => absurd c (by omega))
    refine z_aload hY eX8_ladderPlace_17 0 rfl ?_
    refine z_iload hY eX8_ladderPlace_18 1 rfl ?_
    refine z_callVr (As := [z_i e]) (rest := []) (r := z_i (lp τ e)) hY eX8_ladderPlace_19 (m_ladderPlaceOf hG hA hB hV (by omega)) (mH_at hA (k := 40) (by decide)) (by decide) (Nat.le_of_ble_eq_true rfl) ⟨Nat.zero_le _, Nat.zero_le _⟩ ?_
    have hc2 := lp_b hV (e := e)
    exact z_ireturn hY eX8_ladderPlace_22 rfl (by rw [hφ]; exact ⟨0, _, rfl, by rw [z_u_id h00], by unfold S_ladderPlace; (repeat' split) <;> omega⟩) ⟨Nat.zero_le _, Nat.zero_le _⟩
  · refine z_callV (As := [z_i e]) (rest := []) hY eX8_ladderPlace_7 (m_noE_f hG hA hB hV h00 (by omega) g1) (mH_at hA (k := 40) (by decide)) (by decide) (Nat.le_of_ble_eq_true rfl) ⟨Nat.zero_le _, Nat.zero_le _⟩ (fun _ _ q => q.elim) (fun v3 h3 q3 => ?_)
    obtain ⟨rfl, rfl⟩ := q3
    refine z_ifeq hY eX8_ladderPlace_10 (by omega) (fun c => absurd c (by omega)) (fun _ => ?_)
    refine z_const hY eX8_ladderPlace_13 ?_
    refine z_goto hY eX8_ladderPlace_14 ?_
    exact z_ireturn hY eX8_ladderPlace_22 rfl (by rw [hφ]; exact ⟨1, _, rfl, rfl, by unfold S_ladderPlace; (repeat' split) <;> omega⟩) ⟨Nat.zero_le _, Nat.zero_le _⟩
def S_round (σ : z_S)  (c r : Int) : Prop := c = 0 ∧ r = σ 30 0
theorem p_round {G : z_G} {A : Nat → Nat} {σ τ : z_S} {h : z_H} (hτ : z_u σ 0 0 0 = τ) (hG : z_OK G) (hA : mI A) (hB : mB τ) (hV : mV τ) : z_T G mX8_round [.ref (A 40)] (mH A σ h) 1 0 0 (fun v h' => ∃ c r : Int, v = some (z_i r) ∧ h' = mH A (z_u τ 0 0 c) h ∧ S_round τ  c r) (z_no) := by
  have h00 : τ 0 0 = 0 := by rw [← hτ]; rfl
  obtain ⟨hf, hsc, hcm, hcr, hth, hgr, hlm, hld, hlo, hro, htm, hre, hpa, htp, hgp⟩ := id hV
  refine z_T_of hG pX8_round (Nat.le_of_ble_eq_true rfl) (ls0 := [(0, .ref (A 40))]) rfl fun Y hY hg hmc hms hφ hψ => ?_
  subst hg
  refine z_aload hY eX8_round_0 0 rfl ?_
  refine z_const hY eX8_round_1 ?_
  refine m_pf hY hA eX8_round_2 (by decide) ?_
  rw [hτ]
  refine z_aload hY eX8_round_5 0 rfl ?_
  have hb1 := hB 30 0
  refine m_gf hY hA eX8_round_6 (v := z_i (τ 30 0)) rfl ?_
  exact z_ireturn hY eX8_round_9 rfl (by rw [hφ]; exact ⟨0, _, rfl, by rw [z_u_id h00], by unfold S_round; (repeat' split) <;> omega⟩) ⟨Nat.zero_le _, Nat.zero_le _⟩
def S_gain (σ : z_S) (e : Int) (c r : Int) : Prop := if pr σ e then c = 0 ∧ r = σ 14 (4 * e) - σ 17 e else c = 1
theorem p_gain {G : z_G} {A : Nat → Nat} {σ τ : z_S} {h : z_H} (hτ : z_u σ 0 0 0 = τ) (hG : z_OK G) (hA : mI A) (hB : mB τ) (hV : mV τ) {e : Int} (hr : -2147483648 ≤ e ∧ e ≤ 2147483647) : z_T G mX8_gain [.ref (A 40), z_i e] (mH A σ h) 2 0 0 (fun v h' => ∃ c r : Int, v = some (z_i r) ∧ h' = mH A (z_u τ 0 0 c) h ∧ S_gain τ e c r) (z_no) := by
  have h00 : τ 0 0 = 0 := by rw [← hτ]; rfl
  obtain ⟨hf, hsc, hcm, hcr, hth, hgr, hlm, hld, hlo, hro, htm, hre, hpa, htp, hgp⟩ := id hV
  refine z_T_of hG pX8_gain (Nat.le_of_ble_eq_true rfl) (ls0 := [(0, .ref (A 40)), (1, z_i e)]) rfl fun Y hY hg hmc hms hφ hψ => ?_
  subst hg
  refine z_aload hY eX8_gain_0 0 rfl ?_
  refine z_const hY eX8_gain_1 ?_
  refine m_pf hY hA eX8_gain_2 (by decide) ?_
  rw [hτ]
  refine z_aload hY eX8_gain_5 0 rfl ?_
  refine z_iload hY eX8_gain_6 1 rfl ?_
  by_cases g1 : pr τ e
  · refine z_callVr (As := [z_i e]) (rest := []) (r := z_i 0) hY eX8_gain_7 (m_noE_t hG hA hB hV h00 (by omega) g1) (mH_at hA (k := 40) (by decide)) (by decide) (Nat.le_of_ble_eq_true rfl) ⟨Nat.zero_le _, Nat.zero_le _⟩ ?_
    refine z_ifeq hY eX8_gain_10 (by omega) (fun _ => ?_) (fun c => absurd c (by omega))
    refine z_aload hY eX8_gain_17 0 rfl ?_
    refine z_iload hY eX8_gain_18 1 rfl ?_
    refine z_callVr (As := [z_i e]) (rest := []) (r := z_i ((τ 14 (4 * e)) - (τ 17 e))) hY eX8_gain_19 (m_gainOf hG hA hB (by omega)) (mH_at hA (k := 40) (by decide)) (by decide) (Nat.le_of_ble_eq_true rfl) ⟨Nat.zero_le _, Nat.zero_le _⟩ ?_
    have hc2 := hB 14 (4 * e)
    have hc3 := hB 17 e
    exact z_ireturn hY eX8_gain_22 rfl (by rw [hφ]; exact ⟨0, _, rfl, by rw [z_u_id h00], by unfold S_gain; (repeat' split) <;> omega⟩) ⟨Nat.zero_le _, Nat.zero_le _⟩
  · refine z_callV (As := [z_i e]) (rest := []) hY eX8_gain_7 (m_noE_f hG hA hB hV h00 (by omega) g1) (mH_at hA (k := 40) (by decide)) (by decide) (Nat.le_of_ble_eq_true rfl) ⟨Nat.zero_le _, Nat.zero_le _⟩ (fun _ _ q => q.elim) (fun v4 h4 q4 => ?_)
    obtain ⟨rfl, rfl⟩ := q4
    refine z_ifeq hY eX8_gain_10 (by omega) (fun c => absurd c (by omega)) (fun _ => ?_)
    refine z_const hY eX8_gain_13 ?_
    refine z_goto hY eX8_gain_14 ?_
    exact z_ireturn hY eX8_gain_22 rfl (by rw [hφ]; exact ⟨1, _, rfl, rfl, by unfold S_gain; (repeat' split) <;> omega⟩) ⟨Nat.zero_le _, Nat.zero_le _⟩
def S_placeThen (σ : z_S) (r0 e : Int) (c r : Int) : Prop := if kp σ r0 then (if 0 ≤ e ∧ e ≤ 29 then c = 0 ∧ r = yPi σ r0 e else c = 2) else c = 1
theorem p_placeThen {G : z_G} {A : Nat → Nat} {σ τ : z_S} {h : z_H} (hτ : z_u σ 0 0 0 = τ) (hG : z_OK G) (hA : mI A) (hB : mB τ) (hV : mV τ) {r0 e : Int} (hr : -2147483648 ≤ r0 ∧ r0 ≤ 2147483647 ∧ -2147483648 ≤ e ∧ e ≤ 2147483647) : z_T G mX8_placeThen [.ref (A 40), z_i r0, z_i e] (mH A σ h) 5 0 0 (fun v h' => ∃ c r : Int, v = some (z_i r) ∧ h' = mH A (z_u τ 0 0 c) h ∧ S_placeThen τ r0 e c r) (z_no) := by
  have h00 : τ 0 0 = 0 := by rw [← hτ]; rfl
  obtain ⟨hf, hsc, hcm, hcr, hth, hgr, hlm, hld, hlo, hro, htm, hre, hpa, htp, hgp⟩ := id hV
  refine z_T_of hG pX8_placeThen (Nat.le_of_ble_eq_true rfl) (ls0 := [(0, .ref (A 40)), (1, z_i r0), (2, z_i e)]) rfl fun Y hY hg hmc hms hφ hψ => ?_
  subst hg
  refine z_aload hY eX8_placeThen_0 0 rfl ?_
  refine z_const hY eX8_placeThen_1 ?_
  refine m_pf hY hA eX8_placeThen_2 (by decide) ?_
  rw [hτ]
  refine z_aload hY eX8_placeThen_5 0 rfl ?_
  refine z_aload hY eX8_placeThen_6 0 rfl ?_
  refine z_iload hY eX8_placeThen_7 1 rfl ?_
  refine z_callVr (As := [z_i r0]) (rest := [.ref (A 40)]) (r := z_i (z_bl (kp τ r0))) hY eX8_placeThen_8 (m_isKept hG hA hB (by omega)) (mH_at hA (k := 40) (by decide)) (by decide) (Nat.le_of_ble_eq_true rfl) ⟨Nat.zero_le _, Nat.zero_le _⟩ ?_
  refine z_const hY eX8_placeThen_11 ?_
  have hgb := z_bl01 (kp τ r0)
  by_cases g1 : kp τ r0
  · refine z_callVr (As := [z_i (z_bl (kp τ r0)), z_i 1]) (rest := []) (r := z_i 0) hY eX8_placeThen_12 (m_fails_t hG hA hB h00 (g := (z_bl (kp τ r0))) (c := 1) (by rw [z_bl_t g1]; omega) (by omega)) (mH_at hA (k := 40) (by decide)) (by decide) (Nat.le_of_ble_eq_true rfl) ⟨Nat.zero_le _, Nat.zero_le _⟩ ?_
    refine z_ifne hY eX8_placeThen_15 (by omega) (fun c => absurd c (by omega)) (fun _ => ?_)
    refine z_aload hY eX8_placeThen_18 0 rfl ?_
    refine z_iload hY eX8_placeThen_19 2 rfl ?_
    refine z_const hY eX8_placeThen_20 ?_
    refine z_const hY eX8_placeThen_21 ?_
    refine z_callSr (As := [z_i e, z_i 0, z_i 29]) (rest := [.ref (A 40)]) (r := z_i (z_bl (0 ≤ e ∧ e ≤ 29))) hY eX8_placeThen_23 (m_in hG (by omega)) (by decide) (Nat.le_of_ble_eq_true rfl) ⟨Nat.zero_le _, Nat.zero_le _⟩ ?_
    refine z_const hY eX8_placeThen_26 ?_
    have hgb := z_bl01 (0 ≤ e ∧ e ≤ 29)
    by_cases g2 : 0 ≤ e ∧ e ≤ 29
    · refine z_callVr (As := [z_i (z_bl (0 ≤ e ∧ e ≤ 29)), z_i 2]) (rest := []) (r := z_i 0) hY eX8_placeThen_27 (m_fails_t hG hA hB h00 (g := (z_bl (0 ≤ e ∧ e ≤ 29))) (c := 2) (by rw [z_bl_t g2]; omega) (by omega)) (mH_at hA (k := 40) (by decide)) (by decide) (Nat.le_of_ble_eq_true rfl) ⟨Nat.zero_le _, Nat.zero_le _⟩ ?_
      refine z_ifeq hY eX8_placeThen_30 (by omega) (fun _ => ?_) (fun c => absurd c (by omega))
      refine z_aload hY eX8_placeThen_37 0 rfl ?_
      refine z_iload hY eX8_placeThen_38 1 rfl ?_
      refine z_iload hY eX8_placeThen_39 2 rfl ?_
      refine z_callVr (As := [z_i r0, z_i e]) (rest := []) (r := z_i (yPi τ r0 e)) hY eX8_placeThen_40 (m_placeIn hG hA hB hV (by omega) (by omega)) (mH_at hA (k := 40) (by decide)) (by decide) (Nat.le_of_ble_eq_true rfl) ⟨Nat.zero_le _, Nat.zero_le _⟩ ?_
      have hc3 := yPi_b hB hV (r := r0) (e := e) (by omega)
      exact z_ireturn hY eX8_placeThen_43 rfl (by rw [hφ]; exact ⟨0, _, rfl, by rw [z_u_id h00], by unfold S_placeThen; (repeat' split) <;> omega⟩) ⟨Nat.zero_le _, Nat.zero_le _⟩
    · refine z_callV (As := [z_i (z_bl (0 ≤ e ∧ e ≤ 29)), z_i 2]) (rest := []) hY eX8_placeThen_27 (m_fails_f hG hA hB h00 (g := (z_bl (0 ≤ e ∧ e ≤ 29))) (c := 2) (z_bl_f g2) (by omega)) (mH_at hA (k := 40) (by decide)) (by decide) (Nat.le_of_ble_eq_true rfl) ⟨Nat.zero_le _, Nat.zero_le _⟩ (fun _ _ q => q.elim) (fun v4 h4 q4 => ?_)
      obtain ⟨rfl, rfl⟩ := q4
      refine z_ifeq hY eX8_placeThen_30 (by omega) (fun c => absurd c (by omega)) (fun _ => ?_)
      refine z_const hY eX8_placeThen_33 ?_
      refine z_goto hY eX8_placeThen_34 ?_
      exact z_ireturn hY eX8_placeThen_43 rfl (by rw [hφ]; exact ⟨2, _, rfl, rfl, by unfold S_placeThen; (repeat' split) <;> omega⟩) ⟨Nat.zero_le _, Nat.zero_le _⟩
  · refine z_callV (As := [z_i (z_bl (kp τ r0)), z_i 1]) (rest := []) hY eX8_placeThen_12 (m_fails_f hG hA hB h00 (g := (z_bl (kp τ r0))) (c := 1) (z_bl_f g1) (by omega)) (mH_at hA (k := 40) (by decide)) (by decide) (Nat.le_of_ble_eq_true rfl) ⟨Nat.zero_le _, Nat.zero_le _⟩ (fun _ _ q => q.elim) (fun v5 h5 q5 => ?_)
    obtain ⟨rfl, rfl⟩ := q5
    refine z_ifne hY eX8_placeThen_15 (by omega) (fun _ => ?_) (fun c => absurd c (by omega))
    refine z_const hY eX8_placeThen_33 ?_
    refine z_goto hY eX8_placeThen_34 ?_
    exact z_ireturn hY eX8_placeThen_43 rfl (by rw [hφ]; exact ⟨1, _, rfl, rfl, by unfold S_placeThen; (repeat' split) <;> omega⟩) ⟨Nat.zero_le _, Nat.zero_le _⟩
def yCl (σ : z_S) (r0 : Int) : Int := z_fl (fun m e => if σ 18 e ≠ 0 ∧ yPi σ r0 e ≠ -1 ∧ m < yPi σ r0 e - pl σ e then yPi σ r0 e - pl σ e else m) (-100000000) (σ 19 0)
def S_climb (σ : z_S) (r0 : Int) (c r : Int) : Prop := if kp σ r0 then c = 0 ∧ r = (if yCl σ r0 = -100000000 then 0 else yCl σ r0) else c = 1
theorem p_climb {G : z_G} {A : Nat → Nat} {σ τ : z_S} {h : z_H} (hτ : z_u σ 0 0 0 = τ) (hG : z_OK G) (hA : mI A) (hB : mB τ) (hV : mV τ) {r0 : Int} (hr : -2147483648 ≤ r0 ∧ r0 ≤ 2147483647) : z_T G mX8_climb [.ref (A 40), z_i r0] (mH A σ h) 5 0 0 (fun v h' => ∃ c r : Int, v = some (z_i r) ∧ h' = mH A (z_u τ 0 0 c) h ∧ S_climb τ r0 c r) (z_no) := by
  have h00 : τ 0 0 = 0 := by rw [← hτ]; rfl
  obtain ⟨hf, hsc, hcm, hcr, hth, hgr, hlm, hld, hlo, hro, htm, hre, hpa, htp, hgp⟩ := id hV
  refine z_T_of hG pX8_climb (Nat.le_of_ble_eq_true rfl) (ls0 := [(0, .ref (A 40)), (1, z_i r0)]) rfl fun Y hY hg hmc hms hφ hψ => ?_
  subst hg
  refine z_aload hY eX8_climb_0 0 rfl ?_
  refine z_const hY eX8_climb_1 ?_
  refine m_pf hY hA eX8_climb_2 (by decide) ?_
  rw [hτ]
  refine z_aload hY eX8_climb_5 0 rfl ?_
  refine z_aload hY eX8_climb_6 0 rfl ?_
  refine z_iload hY eX8_climb_7 1 rfl ?_
  refine z_callVr (As := [z_i r0]) (rest := [.ref (A 40)]) (r := z_i (z_bl (kp τ r0))) hY eX8_climb_8 (m_isKept hG hA hB (by omega)) (mH_at hA (k := 40) (by decide)) (by decide) (Nat.le_of_ble_eq_true rfl) ⟨Nat.zero_le _, Nat.zero_le _⟩ ?_
  refine z_const hY eX8_climb_11 ?_
  have hgb := z_bl01 (kp τ r0)
  by_cases g1 : kp τ r0
  · refine z_callVr (As := [z_i (z_bl (kp τ r0)), z_i 1]) (rest := []) (r := z_i 0) hY eX8_climb_12 (m_fails_t hG hA hB h00 (g := (z_bl (kp τ r0))) (c := 1) (by rw [z_bl_t g1]; omega) (by omega)) (mH_at hA (k := 40) (by decide)) (by decide) (Nat.le_of_ble_eq_true rfl) ⟨Nat.zero_le _, Nat.zero_le _⟩ ?_
    refine z_ifeq hY eX8_climb_15 (by omega) (fun _ => ?_) (fun c => absurd c (by omega))
    refine z_const hY eX8_climb_20 ?_
    refine z_istore hY eX8_climb_21 (ls' := [(2, z_i 0), (0, .ref (A 40)), (1, z_i r0)]) rfl ?_
    refine z_const hY eX8_climb_22 ?_
    refine z_istore hY eX8_climb_23 (ls' := [(3, z_i 0), (2, z_i 0), (0, .ref (A 40)), (1, z_i r0)]) rfl ?_
    refine z_const hY eX8_climb_24 ?_
    refine z_istore hY eX8_climb_25 (ls' := [(4, z_i 0), (3, z_i 0), (2, z_i 0), (0, .ref (A 40)), (1, z_i r0)]) rfl ?_
    refine z_sub [3, 4, 0, 2, 1] (ls' := [(0, .ref (A 40)), (1, z_i r0), (4, z_i 0), (2, z_i 0), (3, z_i 0)]) rfl ?_
    have lp27 : ∀ (fu : Nat) (o : Int) (b : Int) (t : Int), (τ 19 0 - o).toNat < fu → 0 ≤ o ∧ o ≤ τ 19 0 → (b = 0 ∧ t = 0 ∧ z_fl (fun m e => if τ 18 e ≠ 0 ∧ yPi τ r0 e ≠ -1 ∧ m < yPi τ r0 e - pl τ e then yPi τ r0 e - pl τ e else m) (-100000000) o = -100000000) ∨ (b = 1 ∧ z_fl (fun m e => if τ 18 e ≠ 0 ∧ yPi τ r0 e ≠ -1 ∧ m < yPi τ r0 e - pl τ e then yPi τ r0 e - pl τ e else m) (-100000000) o = t ∧ -1000300 ≤ t ∧ t ≤ 1000300) → z_W Y 27 [(0, .ref (A 40)), (1, z_i r0), (4, z_i o), (2, z_i b), (3, z_i t)] [] (mH A τ h) 0 0 := by
      intro fu
      induction fu with
      | zero => intro o b t hf; exact absurd hf (Nat.not_lt_zero _)
      | succ fu ih27 =>
        intro o b t hf h0 hn
        refine z_iload hY eX8_climb_27 2 rfl ?_
        refine z_aload hY eX8_climb_29 0 rfl ?_
        have hb2 := hB 19 0
        refine m_gf hY hA eX8_climb_30 (v := z_i (τ 19 0)) rfl ?_
        refine z_icmpge hY eX8_climb_33 (by omega) (fun c33 => ?_) (fun c33 => ?_)
        · have e1 : yCl τ r0 = z_fl (fun m e => if τ 18 e ≠ 0 ∧ yPi τ r0 e ≠ -1 ∧ m < yPi τ r0 e - pl τ e then yPi τ r0 e - pl τ e else m) (-100000000) o := by rw [show o = τ 19 0 by omega]; rfl
          refine z_iload hY eX8_climb_97 4 rfl ?_
          exact z_ireturn hY eX8_climb_98 rfl (by rw [hφ]; exact ⟨0, _, rfl, by rw [z_u_id h00], by unfold S_climb; (repeat' split) <;> omega⟩) ⟨Nat.zero_le _, Nat.zero_le _⟩
        · refine z_aload hY eX8_climb_36 0 rfl ?_
          refine m_gf hY hA eX8_climb_37 (v := .ref (A 18)) rfl ?_
          refine z_iload hY eX8_climb_40 2 rfl ?_
          have hb3 := hB 18 o
          refine m_bal hY hA eX8_climb_42 (j := 18) (N := 30) (x := τ 18 o) (by decide) rfl (by omega) rfl ?_
          refine z_ifeq hY eX8_climb_43 (by omega) (fun c43 => ?_) (fun c43 => ?_)
          · refine z_iinc hY eX8_climb_91 2 rfl (ls' := [(4, z_i (o + 1)), (0, .ref (A 40)), (1, z_i r0), (2, z_i b), (3, z_i t)]) rfl ?_
            refine z_goto hY eX8_climb_94 ?_
            refine z_sub [1, 2, 0, 3, 4] (ls' := [(0, .ref (A 40)), (1, z_i r0), (4, z_i (o + 1)), (2, z_i b), (3, z_i t)]) rfl ?_
            exact ih27 (o + 1) b t (by omega) (by omega) (by rw [z_flS (by omega)]; split <;> omega)
          · refine z_aload hY eX8_climb_46 0 rfl ?_
            refine z_iload hY eX8_climb_47 1 rfl ?_
            refine z_iload hY eX8_climb_48 2 rfl ?_
            refine z_callVr (As := [z_i r0, z_i o]) (rest := []) (r := z_i (yPi τ r0 o)) hY eX8_climb_50 (m_placeIn hG hA hB hV (by omega) (by omega)) (mH_at hA (k := 40) (by decide)) (by decide) (Nat.le_of_ble_eq_true rfl) ⟨Nat.zero_le _, Nat.zero_le _⟩ ?_
            have hc4 := yPi_b hB hV (r := r0) (e := o) (by omega)
            refine z_const hY eX8_climb_53 ?_
            refine z_icmpne hY eX8_climb_54 (by omega) (fun c54 => ?_) (fun c54 => ?_)
            · refine z_aload hY eX8_climb_60 0 rfl ?_
              refine z_iload hY eX8_climb_61 1 rfl ?_
              refine z_iload hY eX8_climb_62 2 rfl ?_
              refine z_callVr (As := [z_i r0, z_i o]) (rest := []) (r := z_i (yPi τ r0 o)) hY eX8_climb_64 (m_placeIn hG hA hB hV (by omega) (by omega)) (mH_at hA (k := 40) (by decide)) (by decide) (Nat.le_of_ble_eq_true rfl) ⟨Nat.zero_le _, Nat.zero_le _⟩ ?_
              have hc5 := yPi_b hB hV (r := r0) (e := o) (by omega)
              refine z_aload hY eX8_climb_67 0 rfl ?_
              refine z_iload hY eX8_climb_68 2 rfl ?_
              refine z_callVr (As := [z_i o]) (rest := [z_i (yPi τ r0 o)]) (r := z_i (pl τ o)) hY eX8_climb_70 (m_placeOf hG hA hB hV (by omega)) (mH_at hA (k := 40) (by decide)) (by decide) (Nat.le_of_ble_eq_true rfl) ⟨Nat.zero_le _, Nat.zero_le _⟩ ?_
              have hc6 := pl_b hV (e := o) (by omega)
              refine z_isub hY eX8_climb_73 ?_
              refine z_istore hY eX8_climb_74 (ls' := [(5, z_i ((yPi τ r0 o) - (pl τ o))), (0, .ref (A 40)), (1, z_i r0), (4, z_i o), (2, z_i b), (3, z_i t)]) rfl ?_
              refine z_iload hY eX8_climb_76 4 rfl ?_
              refine z_ifeq hY eX8_climb_77 (by omega) (fun c77 => ?_) (fun c77 => ?_)
              · refine z_iload hY eX8_climb_86 0 rfl ?_
                refine z_istore hY eX8_climb_88 (ls' := [(3, z_i ((yPi τ r0 o) - (pl τ o))), (5, z_i ((yPi τ r0 o) - (pl τ o))), (0, .ref (A 40)), (1, z_i r0), (4, z_i o), (2, z_i b)]) rfl ?_
                refine z_const hY eX8_climb_89 ?_
                refine z_istore hY eX8_climb_90 (ls' := [(2, z_i 1), (3, z_i ((yPi τ r0 o) - (pl τ o))), (5, z_i ((yPi τ r0 o) - (pl τ o))), (0, .ref (A 40)), (1, z_i r0), (4, z_i o)]) rfl ?_
                refine z_iinc hY eX8_climb_91 5 rfl (ls' := [(4, z_i (o + 1)), (2, z_i 1), (3, z_i ((yPi τ r0 o) - (pl τ o))), (5, z_i ((yPi τ r0 o) - (pl τ o))), (0, .ref (A 40)), (1, z_i r0)]) rfl ?_
                refine z_goto hY eX8_climb_94 ?_
                refine z_sub [4, 5, 0, 1, 2] (ls' := [(0, .ref (A 40)), (1, z_i r0), (4, z_i (o + 1)), (2, z_i 1), (3, z_i ((yPi τ r0 o) - (pl τ o)))]) rfl ?_
                exact ih27 (o + 1) 1 ((yPi τ r0 o) - (pl τ o)) (by omega) (by omega) (by rw [z_flS (by omega)]; split <;> omega)
              · refine z_iload hY eX8_climb_80 0 rfl ?_
                refine z_iload hY eX8_climb_82 5 rfl ?_
                refine z_icmple hY eX8_climb_83 (by omega) (fun c83 => ?_) (fun c83 => ?_)
                · refine z_const hY eX8_climb_89 ?_
                  refine z_istore hY eX8_climb_90 (ls' := [(2, z_i 1), (5, z_i ((yPi τ r0 o) - (pl τ o))), (0, .ref (A 40)), (1, z_i r0), (4, z_i o), (3, z_i t)]) rfl ?_
                  refine z_iinc hY eX8_climb_91 4 rfl (ls' := [(4, z_i (o + 1)), (2, z_i 1), (5, z_i ((yPi τ r0 o) - (pl τ o))), (0, .ref (A 40)), (1, z_i r0), (3, z_i t)]) rfl ?_
                  refine z_goto hY eX8_climb_94 ?_
                  refine z_sub [3, 4, 0, 1, 5] (ls' := [(0, .ref (A 40)), (1, z_i r0), (4, z_i (o + 1)), (2, z_i 1), (3, z_i t)]) rfl ?_
                  exact ih27 (o + 1) 1 t (by omega) (by omega) (by rw [z_flS (by omega)]; split <;> omega)
                · refine z_iload hY eX8_climb_86 0 rfl ?_
                  refine z_istore hY eX8_climb_88 (ls' := [(3, z_i ((yPi τ r0 o) - (pl τ o))), (5, z_i ((yPi τ r0 o) - (pl τ o))), (0, .ref (A 40)), (1, z_i r0), (4, z_i o), (2, z_i b)]) rfl ?_
                  refine z_const hY eX8_climb_89 ?_
                  refine z_istore hY eX8_climb_90 (ls' := [(2, z_i 1), (3, z_i ((yPi τ r0 o) - (pl τ o))), (5, z_i ((yPi τ r0 o) - (pl τ o))), (0, .ref (A 40)), (1, z_i r0), (4, z_i o)]) rfl ?_
                  refine z_iinc hY eX8_climb_91 5 rfl (ls' := [(4, z_i (o + 1)), (2, z_i 1), (3, z_i ((yPi τ r0 o) - (pl τ o))), (5, z_i ((yPi τ r0 o) - (pl τ o))), (0, .ref (A 40)), (1, z_i r0)]) rfl ?_
                  refine z_goto hY eX8_climb_94 ?_
                  refine z_sub [4, 5, 0, 1, 2] (ls' := [(0, .ref (A 40)), (1, z_i r0), (4, z_i (o + 1)), (2, z_i 1), (3, z_i ((yPi τ r0 o) - (pl τ o)))]) rfl ?_
                  exact ih27 (o + 1) 1 ((yPi τ r0 o) - (pl τ o)) (by omega) (by omega) (by rw [z_flS (by omega)]; split <;> omega)
            · refine z_goto hY eX8_climb_57 ?_
              refine z_iinc hY eX8_climb_91 2 rfl (ls' := [(4, z_i (o + 1)), (0, .ref (A 40)), (1, z_i r0), (2, z_i b), (3, z_i t)]) rfl ?_
              refine z_goto hY eX8_climb_94 ?_
              refine z_sub [1, 2, 0, 3, 4] (ls' := [(0, .ref (A 40)), (1, z_i r0), (4, z_i (o + 1)), (2, z_i b), (3, z_i t)]) rfl ?_
              exact ih27 (o + 1) b t (by omega) (by omega) (by rw [z_flS (by omega)]; split <;> omega)
    exact lp27 _ 0 0 0 (Nat.lt_succ_self _) (by omega) (Or.inl ⟨rfl, rfl, z_fl0 (by omega)⟩)
  · refine z_callV (As := [z_i (z_bl (kp τ r0)), z_i 1]) (rest := []) hY eX8_climb_12 (m_fails_f hG hA hB h00 (g := (z_bl (kp τ r0))) (c := 1) (z_bl_f g1) (by omega)) (mH_at hA (k := 40) (by decide)) (by decide) (Nat.le_of_ble_eq_true rfl) ⟨Nat.zero_le _, Nat.zero_le _⟩ (fun _ _ q => q.elim) (fun v7 h7 q7 => ?_)
    obtain ⟨rfl, rfl⟩ := q7
    refine z_ifeq hY eX8_climb_15 (by omega) (fun c => absurd c (by omega)) (fun _ => ?_)
    refine z_const hY eX8_climb_18 ?_
    exact z_ireturn hY eX8_climb_19 rfl (by rw [hφ]; exact ⟨1, _, rfl, rfl, by unfold S_climb; (repeat' split) <;> omega⟩) ⟨Nat.zero_le _, Nat.zero_le _⟩
def S_members (σ : z_S) (g : Int) (c r : Int) : Prop := if 0 ≤ g ∧ g ≤ 4 then c = 0 ∧ r = z_sm (fun o => if σ 18 o ≠ 0 ∧ σ 15 o = g then (1 : Int) else 0) (σ 19 0) else c = 1
theorem p_members {G : z_G} {A : Nat → Nat} {σ τ : z_S} {h : z_H} (hτ : z_u σ 0 0 0 = τ) (hG : z_OK G) (hA : mI A) (hB : mB τ) (hV : mV τ) {g : Int} (hr : -2147483648 ≤ g ∧ g ≤ 2147483647) : z_T G mX8_members [.ref (A 40), z_i g] (mH A σ h) 2 0 0 (fun v h' => ∃ c r : Int, v = some (z_i r) ∧ h' = mH A (z_u τ 0 0 c) h ∧ S_members τ g c r) (z_no) := by
  have h00 : τ 0 0 = 0 := by rw [← hτ]; rfl
  obtain ⟨hf, hsc, hcm, hcr, hth, hgr, hlm, hld, hlo, hro, htm, hre, hpa, htp, hgp⟩ := id hV
  refine z_T_of hG pX8_members (Nat.le_of_ble_eq_true rfl) (ls0 := [(0, .ref (A 40)), (1, z_i g)]) rfl fun Y hY hg hmc hms hφ hψ => ?_
  subst hg
  refine z_aload hY eX8_members_0 0 rfl ?_
  refine z_const hY eX8_members_1 ?_
  refine m_pf hY hA eX8_members_2 (by decide) ?_
  rw [hτ]
  refine z_aload hY eX8_members_5 0 rfl ?_
  refine z_iload hY eX8_members_6 1 rfl ?_
  by_cases g1 : 0 ≤ g ∧ g ≤ 4
  · refine z_callVr (As := [z_i g]) (rest := []) (r := z_i 0) hY eX8_members_7 (m_noG_t hG hA hB hV h00 (by omega) g1) (mH_at hA (k := 40) (by decide)) (by decide) (Nat.le_of_ble_eq_true rfl) ⟨Nat.zero_le _, Nat.zero_le _⟩ ?_
    refine z_ifeq hY eX8_members_10 (by omega) (fun _ => ?_) (fun c => absurd c (by omega))
    refine z_const hY eX8_members_15 ?_
    refine z_istore hY eX8_members_16 (ls' := [(2, z_i 0), (0, .ref (A 40)), (1, z_i g)]) rfl ?_
    refine z_const hY eX8_members_17 ?_
    refine z_istore hY eX8_members_18 (ls' := [(3, z_i 0), (2, z_i 0), (0, .ref (A 40)), (1, z_i g)]) rfl ?_
    refine z_sub [2, 3, 0, 1] (ls' := [(0, .ref (A 40)), (1, z_i g), (3, z_i 0), (2, z_i 0)]) rfl ?_
    have lp19 : ∀ (fu : Nat) (o : Int) (n : Int), (τ 19 0 - o).toNat < fu → 0 ≤ o ∧ o ≤ τ 19 0 → n = z_sm (fun o => if τ 18 o ≠ 0 ∧ τ 15 o = g then (1 : Int) else 0) o → 0 ≤ n ∧ n ≤ o → z_W Y 19 [(0, .ref (A 40)), (1, z_i g), (3, z_i o), (2, z_i n)] [] (mH A τ h) 0 0 := by
      intro fu
      induction fu with
      | zero => intro o n hf; exact absurd hf (Nat.not_lt_zero _)
      | succ fu ih19 =>
        intro o n hf h0 hn hnb
        refine z_iload hY eX8_members_19 2 rfl ?_
        refine z_aload hY eX8_members_20 0 rfl ?_
        have hb2 := hB 19 0
        refine m_gf hY hA eX8_members_21 (v := z_i (τ 19 0)) rfl ?_
        refine z_icmpge hY eX8_members_24 (by omega) (fun c24 => ?_) (fun c24 => ?_)
        · refine z_iload hY eX8_members_60 3 rfl ?_
          exact z_ireturn hY eX8_members_61 rfl (by rw [hφ]; exact ⟨0, _, rfl, by rw [z_u_id h00], by unfold S_members; rw [if_pos (by omega)]; exact ⟨rfl, by rw [hn, show o = τ 19 0 by omega]⟩⟩) ⟨Nat.zero_le _, Nat.zero_le _⟩
        · refine z_iload hY eX8_members_27 3 rfl ?_
          refine z_aload hY eX8_members_28 0 rfl ?_
          refine m_gf hY hA eX8_members_29 (v := .ref (A 18)) rfl ?_
          refine z_iload hY eX8_members_32 2 rfl ?_
          have hb3 := hB 18 o
          refine m_bal hY hA eX8_members_33 (j := 18) (N := 30) (x := τ 18 o) (by decide) rfl (by omega) rfl ?_
          refine z_ifeq hY eX8_members_34 (by omega) (fun c34 => ?_) (fun c34 => ?_)
          · refine z_const hY eX8_members_51 ?_
            refine z_iadd hY eX8_members_52 ?_
            refine z_top (b := n) (by omega) ?_
            refine z_istore hY eX8_members_53 (ls' := [(2, z_i n), (0, .ref (A 40)), (1, z_i g), (3, z_i o)]) rfl ?_
            refine z_iinc hY eX8_members_54 3 rfl (ls' := [(3, z_i (o + 1)), (2, z_i n), (0, .ref (A 40)), (1, z_i g)]) rfl ?_
            refine z_goto hY eX8_members_57 ?_
            refine z_sub [2, 3, 0, 1] (ls' := [(0, .ref (A 40)), (1, z_i g), (3, z_i (o + 1)), (2, z_i n)]) rfl ?_
            exact ih19 (o + 1) n (by omega) (by omega) (by rw [z_smS (by omega), ← hn]; split <;> omega) (by omega)
          · refine z_aload hY eX8_members_37 0 rfl ?_
            refine m_gf hY hA eX8_members_38 (v := .ref (A 15)) rfl ?_
            refine z_iload hY eX8_members_41 2 rfl ?_
            have hb4 := hB 15 o
            refine m_ial hY hA eX8_members_42 (j := 15) (N := 30) (x := τ 15 o) (by decide) rfl (by omega) rfl ?_
            refine z_iload hY eX8_members_43 1 rfl ?_
            refine z_icmpne hY eX8_members_44 (by omega) (fun c44 => ?_) (fun c44 => ?_)
            · refine z_const hY eX8_members_51 ?_
              refine z_iadd hY eX8_members_52 ?_
              refine z_top (b := n) (by omega) ?_
              refine z_istore hY eX8_members_53 (ls' := [(2, z_i n), (0, .ref (A 40)), (1, z_i g), (3, z_i o)]) rfl ?_
              refine z_iinc hY eX8_members_54 3 rfl (ls' := [(3, z_i (o + 1)), (2, z_i n), (0, .ref (A 40)), (1, z_i g)]) rfl ?_
              refine z_goto hY eX8_members_57 ?_
              refine z_sub [2, 3, 0, 1] (ls' := [(0, .ref (A 40)), (1, z_i g), (3, z_i (o + 1)), (2, z_i n)]) rfl ?_
              exact ih19 (o + 1) n (by omega) (by omega) (by rw [z_smS (by omega), ← hn]; split <;> omega) (by omega)
            · refine z_const hY eX8_members_47 ?_
              refine z_goto hY eX8_members_48 ?_
              refine z_iadd hY eX8_members_52 ?_
              refine z_istore hY eX8_members_53 (ls' := [(2, z_i (n + 1)), (0, .ref (A 40)), (1, z_i g), (3, z_i o)]) rfl ?_
              refine z_iinc hY eX8_members_54 3 rfl (ls' := [(3, z_i (o + 1)), (2, z_i (n + 1)), (0, .ref (A 40)), (1, z_i g)]) rfl ?_
              refine z_goto hY eX8_members_57 ?_
              refine z_sub [2, 3, 0, 1] (ls' := [(0, .ref (A 40)), (1, z_i g), (3, z_i (o + 1)), (2, z_i (n + 1))]) rfl ?_
              exact ih19 (o + 1) (n + 1) (by omega) (by omega) (by rw [z_smS (by omega), ← hn]; split <;> omega) (by omega)
    exact lp19 _ 0 0 (Nat.lt_succ_self _) (by omega) (z_sm0 (by omega)).symm (by omega)
  · refine z_callV (As := [z_i g]) (rest := []) hY eX8_members_7 (m_noG_f hG hA hB hV h00 (by omega) g1) (mH_at hA (k := 40) (by decide)) (by decide) (Nat.le_of_ble_eq_true rfl) ⟨Nat.zero_le _, Nat.zero_le _⟩ (fun _ _ q => q.elim) (fun v5 h5 q5 => ?_)
    obtain ⟨rfl, rfl⟩ := q5
    refine z_ifeq hY eX8_members_10 (by omega) (fun c => absurd c (by omega)) (fun _ => ?_)
    refine z_const hY eX8_members_13 ?_
    exact z_ireturn hY eX8_members_14 rfl (by rw [hφ]; exact ⟨1, _, rfl, rfl, by unfold S_members; (repeat' split) <;> omega⟩) ⟨Nat.zero_le _, Nat.zero_le _⟩
def S_errors (σ : z_S)  (c r : Int) : Prop := c = 0 ∧ r = 0
theorem p_errors {G : z_G} {A : Nat → Nat} {σ τ : z_S} {h : z_H} (hτ : z_u σ 0 0 0 = τ) (hG : z_OK G) (hA : mI A) (hB : mB τ) (hV : mV τ) : z_T G mX8_errors [.ref (A 40)] (mH A σ h) 1 0 0 (fun v h' => ∃ c r : Int, v = some (z_i r) ∧ h' = mH A (z_u τ 0 0 c) h ∧ S_errors τ  c r) (z_no) := by
  have h00 : τ 0 0 = 0 := by rw [← hτ]; rfl
  obtain ⟨hf, hsc, hcm, hcr, hth, hgr, hlm, hld, hlo, hro, htm, hre, hpa, htp, hgp⟩ := id hV
  refine z_T_of hG pX8_errors (Nat.le_of_ble_eq_true rfl) (ls0 := [(0, .ref (A 40))]) rfl fun Y hY hg hmc hms hφ hψ => ?_
  subst hg
  refine z_aload hY eX8_errors_0 0 rfl ?_
  refine z_const hY eX8_errors_1 ?_
  refine m_pf hY hA eX8_errors_2 (by decide) ?_
  rw [hτ]
  refine z_const hY eX8_errors_5 ?_
  exact z_ireturn hY eX8_errors_6 rfl (by rw [hφ]; exact ⟨0, _, rfl, by rw [z_u_id h00], by unfold S_errors; (repeat' split) <;> omega⟩) ⟨Nat.zero_le _, Nat.zero_le _⟩
end M2
