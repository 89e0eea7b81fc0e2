/-! The class's grammar against the model's (laid by wip/whole/gen/gm27.py). -/
section C5
/-- the factors told so far: those of the first n criteria, and no others -/
def FO (κ : c_K) (σ : z_S) (o n : Int) : Prop := ∀ j, 0 ≤ j → j < 16 → κ 12 o j = if j < 4 * n then σ 9 j else 0
def SO (κ : c_K) (σ : z_S) (o n : Int) : Prop := ∀ j, 0 ≤ j → j < 4 → κ 14 o j = if j < n then (if σ 11 j = 1 then 1 else -1) else 0
def kRg (κ : c_K) : Prop := ∀ k, 6 ≤ k → k ≤ 10 → -2147483648 ≤ κ k 0 0 ∧ κ k 0 0 ≤ 2147483647
/-- the same but for the reader and the order o -/
def kSo (κ κ' : c_K) (o : Int) : Prop := (∀ k, k < 6 ∨ 10 < k → k ≠ 12 → k ≠ 14 → k ≠ 16 → κ' k = κ k) ∧ ∀ q, q ≠ o → κ' 12 q = κ 12 q ∧ κ' 14 q = κ 14 q ∧ κ' 16 q = κ 16 q
theorem kSo_m {κ κ' : c_K} {o : Int} (h : kSm κ κ') : kSo κ κ' o := ⟨fun k h1 _ _ _ => h k h1, fun q _ => ⟨by rw [h 12 (by omega)], by rw [h 14 (by omega)], by rw [h 16 (by omega)]⟩⟩
theorem kSo_t {κ κ' κ'' : c_K} {o : Int} (h1 : kSo κ κ' o) (h2 : kSo κ' κ'' o) : kSo κ κ'' o := ⟨fun k a b c d => (h2.1 k a b c d).trans (h1.1 k a b c d), fun q hq => ⟨(h2.2 q hq).1.trans (h1.2 q hq).1, (h2.2 q hq).2.1.trans (h1.2 q hq).2.1, (h2.2 q hq).2.2.trans (h1.2 q hq).2.2⟩⟩
theorem kSo_u {κ : c_K} {k : Nat} {o j v : Int} (hk : k = 12 ∨ k = 14 ∨ k = 16) : kSo κ (k_u κ k o j v) o := by
  refine ⟨fun q a b c d => k_u_ne (by omega), fun q hq => ?_⟩
  rcases hk with rfl | rfl | rfl
  · exact ⟨k_u_ni hq, by rw [k_u_ne (by decide)], by rw [k_u_ne (by decide)]⟩
  · exact ⟨by rw [k_u_ne (by decide)], k_u_ni hq, by rw [k_u_ne (by decide)]⟩
  · exact ⟨by rw [k_u_ne (by decide)], by rw [k_u_ne (by decide)], k_u_ni hq⟩
theorem kSo_J {B : Nat → Int → Nat} {κ κ' : c_K} {o : Int} (hS : kSo κ κ' o) (hJ : cJ B κ) : cJ B κ' := cJ_of hJ (cL_other (by rw [hS.1 24 (by omega) (by decide) (by decide) (by decide)]) (fun i => by rw [hS.1 26 (by omega) (by decide) (by decide) (by decide)]))
theorem FO_m {κ κ' : c_K} {σ ρ : z_S} {o n : Int} (h : κ' 12 o = κ 12 o) (h9 : ρ 9 = σ 9) (hF : FO κ σ o n) : FO κ' ρ o n := by
  unfold FO
  rw [h, h9]
  exact hF
theorem SO_m {κ κ' : c_K} {σ ρ : z_S} {o n : Int} (h : κ' 14 o = κ 14 o) (h9 : ρ 11 = σ 11) (hF : SO κ σ o n) : SO κ' ρ o n := by
  unfold SO
  rw [h, h9]
  exact hF
theorem FO_add {κ : c_K} {σ : z_S} {o n i i' f g : Int} (hF : FO κ σ o n) (hi : i = i') (h0 : 0 ≤ i ∧ i < 4 * n ∧ i < 16) (hfg : f = g) : FO (k_u κ 12 o i (κ 12 o i + f)) (z_u σ 9 i' (σ 9 i' + g)) o n := by
  subst hi hfg
  intro j h1 h2
  rw [k_u_eq, z_u_eq]
  unfold z_up
  by_cases c : j = i
  · rw [if_pos c, if_pos (by omega), if_pos c, hF i h0.1 h0.2.2, if_pos h0.2.1]
  · rw [if_neg c, if_neg c]
    exact hF j h1 h2
theorem Rk_u {κ : c_K} {ρ : z_S} {k : Nat} {o j v : Int} (hk : k < 6 ∨ 10 < k) (h : Rk κ ρ) : Rk (k_u κ k o j v) ρ := by
  unfold Rk
  rw [k_u_ne (by omega), k_u_ne (by omega), k_u_ne (by omega), k_u_ne (by omega), k_u_ne (by omega)]
  exact h
theorem Rk_9 {κ : c_K} {ρ : z_S} {i v : Int} (h : Rk κ ρ) : Rk κ (z_u ρ 9 i v) := h
theorem TR_u {κ : c_K} {ρ : z_S} {k : Nat} {o j v : Int} (hk : k ≠ 4 ∧ k ≠ 5) (h : TR κ ρ) : TR (k_u κ k o j v) ρ := by
  unfold TR
  rw [k_u_ne (by omega), k_u_ne (by omega)]
  exact h
theorem kRg_u {κ : c_K} {k : Nat} {o j v : Int} (hk : k < 6 ∨ 10 < k) (h : kRg κ) : kRg (k_u κ k o j v) := fun q h1 h2 => by
  rw [k_u_ne (by omega)]
  exact h q h1 h2
def cTl : Nat → z_S → Int → Int × z_S
  | 0, μ, _ => (0, μ)
  | f + 1, μ, s => if (yRt μ s).1 = 0 then (0, (yRt μ s).2) else if (yRt μ s).2 4 0 = 1 ∧ ((yRt μ s).2 6 0 = 43 ∨ (yRt μ s).2 6 0 = 45) then cTl f (yRd (yRt μ s).2) (ySg (yRt μ s).2) else (1, (yRt μ s).2)
theorem yTl_cTl : ∀ (f : Nat) (ρ : z_S), yTl f ρ = if ρ 4 0 = 1 ∧ (ρ 6 0 = 43 ∨ ρ 6 0 = 45) then cTl f (yRd ρ) (ySg ρ) else (1, ρ) := by
  intro f
  induction f with
  | zero => intro ρ; rfl
  | succ f ih =>
    intro ρ
    unfold yTl
    by_cases c : ρ 4 0 = 1 ∧ (ρ 6 0 = 43 ∨ ρ 6 0 = 45)
    · rw [if_pos c, if_pos c]
      unfold cTl
      by_cases c1 : (yRt (yRd ρ) (ySg ρ)).1 = 0
      · rw [if_pos c1, if_pos c1]
        exact Prod.ext c1 rfl
      · rw [if_neg c1, if_neg c1, ih]
    · rw [if_neg c, if_neg c]
theorem yRc_cTl (σ : z_S) : yRc σ = if yGo σ then yNc (cTl 4 (yRd (yC0 σ)) 1) else (0, σ) := by
  unfold yRc
  by_cases c : yGo σ
  · rw [if_pos c, if_pos c]
    refine congrArg yNc ?_
    show _ = ite _ _ _
    by_cases c1 : (yRt (yRd (yC0 σ)) 1).1 = 0
    · rw [if_pos c1, if_pos c1]
      exact Prod.ext c1 rfl
    · rw [if_neg c1, if_neg c1, yTl_cTl]
  · rw [if_neg c, if_neg c]
theorem cTl_0 {i s : Int} {μ : z_S} (h : 4 ≤ i) : cTl (4 - i).toNat μ s = (0, μ) := by
  rw [show (4 - i).toNat = 0 by omega]
  rfl
theorem cTl_f {i s : Int} {μ : z_S} (h : i < 4) (h1 : (yRt μ s).1 = 0) : cTl (4 - i).toNat μ s = (0, (yRt μ s).2) := by
  rw [show (4 - i).toNat = (4 - (i + 1)).toNat + 1 by omega]
  exact if_pos h1
theorem cTl_e {i s : Int} {μ : z_S} (h : i < 4) (h1 : (yRt μ s).1 ≠ 0) (h2 : ¬ ((yRt μ s).2 4 0 = 1 ∧ ((yRt μ s).2 6 0 = 43 ∨ (yRt μ s).2 6 0 = 45))) : cTl (4 - i).toNat μ s = (1, (yRt μ s).2) := by
  rw [show (4 - i).toNat = (4 - (i + 1)).toNat + 1 by omega]
  exact (if_neg h1).trans (if_neg h2)
theorem cTl_c {i s : Int} {μ : z_S} (h : i < 4) (h1 : (yRt μ s).1 ≠ 0) (h2 : (yRt μ s).2 4 0 = 1 ∧ ((yRt μ s).2 6 0 = 43 ∨ (yRt μ s).2 6 0 = 45)) : cTl (4 - i).toNat μ s = cTl (4 - (i + 1)).toNat (yRd (yRt μ s).2) (ySg (yRt μ s).2) := by
  rw [show (4 - i).toNat = (4 - (i + 1)).toNat + 1 by omega]
  exact (if_neg h1).trans (if_pos h2)
def cCl : Nat → z_S → Int × z_S
  | 0, μ => (0, μ)
  | f + 1, μ => if (yRc μ).1 = 0 then (0, (yRc μ).2) else if (yRc μ).2 4 0 = 1 ∧ (yRc μ).2 6 0 = 59 then cCl f (yRd (yRc μ).2) else (if (yRc μ).2 4 0 = 0 then 1 else 0, (yRc μ).2)
theorem yCl_cCl : ∀ (f : Nat) (μ : z_S), mP μ → μ 13 0 = 4 - f → (if (yRc μ).1 = 0 then yRc μ else yCl2 (f + 1) (yRc μ).2) = cCl f μ := by
  intro f
  induction f with
  | zero =>
    intro μ hP h
    have : yRc μ = (0, μ) := if_neg (fun q => q.2.2 (by omega))
    rw [this]
    rfl
  | succ f ih =>
    intro μ hP h
    unfold cCl
    by_cases c : (yRc μ).1 = 0
    · rw [if_pos c, if_pos c]
      exact Prod.ext c rfl
    · rw [if_neg c, if_neg c]
      obtain ⟨h1, h2⟩ := yRc_s hP
      have e13 : yRd (yRc μ).2 13 0 = (yRc μ).2 13 0 := congrFun (yRd_k (by decide)) 0
      show ite _ _ _ = _
      by_cases c2 : (yRc μ).2 4 0 = 1 ∧ (yRc μ).2 6 0 = 59
      · rw [if_pos c2, if_pos c2]
        exact ih _ (mP_r h1) (by omega)
      · rw [if_neg c2, if_neg c2]
theorem yRo_cCl {σ : z_S} (hP : mP (yRo0 σ)) : yRo σ = cCl 4 (yRo0 σ) := yCl_cCl 4 _ hP (by
  have : yRo0 σ 13 0 = 0 := congrFun (yRd_k (by decide)) 0
  omega)
theorem cCl_0 {i : Int} {μ : z_S} (h : 4 ≤ i) : cCl (4 - i).toNat μ = (0, μ) := by
  rw [show (4 - i).toNat = 0 by omega]
  rfl
theorem cCl_f {i : Int} {μ : z_S} (h : i < 4) (h1 : (yRc μ).1 = 0) : cCl (4 - i).toNat μ = (0, (yRc μ).2) := by
  rw [show (4 - i).toNat = (4 - (i + 1)).toNat + 1 by omega]
  exact if_pos h1
theorem cCl_e {i : Int} {μ : z_S} (h : i < 4) (h1 : (yRc μ).1 ≠ 0) (h2 : ¬ ((yRc μ).2 4 0 = 1 ∧ (yRc μ).2 6 0 = 59)) : cCl (4 - i).toNat μ = (if (yRc μ).2 4 0 = 0 then 1 else 0, (yRc μ).2) := by
  rw [show (4 - i).toNat = (4 - (i + 1)).toNat + 1 by omega]
  exact (if_neg h1).trans (if_neg h2)
theorem cCl_c {i : Int} {μ : z_S} (h : i < 4) (h1 : (yRc μ).1 ≠ 0) (h2 : (yRc μ).2 4 0 = 1 ∧ (yRc μ).2 6 0 = 59) : cCl (4 - i).toNat μ = cCl (4 - (i + 1)).toNat (yRd (yRc μ).2) := by
  rw [show (4 - i).toNat = (4 - (i + 1)).toNat + 1 by omega]
  exact (if_neg h1).trans (if_pos h2)
theorem tk_n {κ : c_K} {σ : z_S} (hK : Rk κ σ) : (κ 6 0 0 = 257 ↔ σ 4 0 = 2) := by
  obtain ⟨h6, h4, h1, -⟩ := hK
  unfold cTok at h6
  (repeat' split at h6) <;> omega
theorem tk_k {κ : c_K} {σ : z_S} (hK : Rk κ σ) : (κ 6 0 0 = 258 ↔ σ 4 0 = 3) := by
  obtain ⟨h6, h4, h1, -⟩ := hK
  unfold cTok at h6
  (repeat' split at h6) <;> omega
theorem tk_e {κ : c_K} {σ : z_S} (hK : Rk κ σ) : (κ 6 0 0 = 256 ↔ σ 4 0 = 0) := by
  obtain ⟨h6, h4, h1, -⟩ := hK
  unfold cTok at h6
  (repeat' split at h6) <;> omega
theorem tk_s {κ : c_K} {σ : z_S} (hK : Rk κ σ) {b : Int} (hb : sgn b) : (κ 6 0 0 = b ↔ (σ 4 0 = 1 ∧ σ 6 0 = b)) := by
  obtain ⟨h6, h4, h1, -⟩ := hK
  unfold cTok at h6
  (repeat' split at h6) <;> omega

theorem o_begin2 {G : z_G} {D : Nat} {B : Nat → Int → Nat} {κ : c_K} {h : z_H} (hG : z_OK G) (hJ : cJ B κ) {o c s : Int} (ho : 0 ≤ o ∧ o ≤ 1) (hc : 0 ≤ c ∧ c < 4) : z_T G mX2_begin [.ref (B 4 o), z_i c, z_i s] (cH D B κ h) 1 0 0 (fun v h' => v = none ∧ h' = cH D B (k_u (k_u κ 14 o c s) 16 o 0 (c + 1)) h) (z_no) := by
  refine z_T_of hG pX2_begin (Nat.le_of_ble_eq_true rfl) (ls0 := [(0, .ref (B 4 o)), (1, z_i c), (2, z_i s)]) rfl fun Y hY hg hmc hms hφ hψ => ?_
  subst hg
  refine z_aload hY eX2_begin_0 0 rfl ?_
  refine z_iload hY eX2_begin_1 1 rfl ?_
  refine z_callVr (As := [z_i c]) (rest := []) (r := z_i (z_bl (0 ≤ c ∧ c < 4))) hY eX2_begin_2 (o_isCriterion hG (by omega)) (cH_at (t := 4) (i := o) hJ (by omega)) (by decide) (Nat.le_of_ble_eq_true rfl) ⟨Nat.zero_le _, Nat.zero_le _⟩ ?_
  refine z_ifeqb hY eX2_begin_5 (fun c5 => ?_) (fun c5 => ?_)
  · exact z_return hY eX2_begin_22 rfl (by rw [hφ]; first | (exfalso; omega) | exact ⟨rfl, rfl⟩) ⟨Nat.zero_le _, Nat.zero_le _⟩
  · refine z_aload hY eX2_begin_8 0 rfl ?_
    refine c_gf hY hJ eX2_begin_9 (t := 4) (i := o) (v := .ref (B 6 o)) (by omega) rfl rfl ?_
    refine z_iload hY eX2_begin_12 1 rfl ?_
    refine z_iload hY eX2_begin_13 2 rfl ?_
    refine c_ias hY hJ eX2_begin_14 (t := 6) (N := 4) (key := 14) (i := o) (by decide) rfl (by omega) (fun _ => rfl) (by omega) ?_
    refine z_aload hY eX2_begin_15 0 rfl ?_
    refine z_iload hY eX2_begin_16 1 rfl ?_
    refine z_const hY eX2_begin_17 ?_
    refine z_iadd hY eX2_begin_18 ?_
    refine c_pf hY (cJ_u (by decide) hJ) eX2_begin_19 (key := 16) (t := 4) (i := o) (by decide) rfl ((cL_u (by decide) _ _).mpr (by omega)) rfl (Nat.le_of_ble_eq_true rfl) (by simp [cC, k_u, k_r]) ?_
    exact z_return hY eX2_begin_22 rfl (by rw [hφ]; first | (exfalso; omega) | exact ⟨rfl, rfl⟩) ⟨Nat.zero_le _, Nat.zero_le _⟩
theorem o_addTerm2 {G : z_G} {D : Nat} {B : Nat → Int → Nat} {κ : c_K} {h : z_H} (hG : z_OK G) (hJ : cJ B κ) {o c k f : Int} (ho : 0 ≤ o ∧ o ≤ 1) (hc : 0 ≤ c ∧ c < 4) (hk : 0 ≤ k ∧ k < 4) : z_T G mX2_addTerm [.ref (B 4 o), z_i c, z_i k, z_i f] (cH D B κ h) 1 0 0 (fun v h' => v = none ∧ h' = cH D B (k_u κ 12 o (4 * c + k) (κ 12 o (4 * c + k) + f)) h) (z_no) := by
  refine z_T_of hG pX2_addTerm (Nat.le_of_ble_eq_true rfl) (ls0 := [(0, .ref (B 4 o)), (1, z_i c), (2, z_i k), (3, z_i f)]) rfl fun Y hY hg hmc hms hφ hψ => ?_
  subst hg
  refine z_aload hY eX2_addTerm_0 0 rfl ?_
  refine z_iload hY eX2_addTerm_1 1 rfl ?_
  refine z_callVr (As := [z_i c]) (rest := []) (r := z_i (z_bl (0 ≤ c ∧ c < 4))) hY eX2_addTerm_2 (o_isCriterion hG (by omega)) (cH_at (t := 4) (i := o) hJ (by omega)) (by decide) (Nat.le_of_ble_eq_true rfl) ⟨Nat.zero_le _, Nat.zero_le _⟩ ?_
  refine z_ifeqb hY eX2_addTerm_5 (fun c5 => ?_) (fun c5 => ?_)
  · exact z_return hY eX2_addTerm_31 rfl (by rw [hφ]; first | (exfalso; omega) | exact ⟨rfl, rfl⟩) ⟨Nat.zero_le _, Nat.zero_le _⟩
  · refine z_iload hY eX2_addTerm_8 2 rfl ?_
    refine z_iflt hY eX2_addTerm_9 (by omega) (fun c => by exfalso; omega) (fun c9 => ?_)
    refine z_iload hY eX2_addTerm_12 2 rfl ?_
    refine z_const hY eX2_addTerm_13 ?_
    refine z_icmpge hY eX2_addTerm_14 (by omega) (fun c => by exfalso; omega) (fun c14 => ?_)
    refine z_aload hY eX2_addTerm_17 0 rfl ?_
    refine c_gf hY hJ eX2_addTerm_18 (t := 4) (i := o) (v := .ref (B 5 o)) (by omega) rfl rfl ?_
    refine z_iload hY eX2_addTerm_21 1 rfl ?_
    refine z_const hY eX2_addTerm_22 ?_
    refine z_imul hY eX2_addTerm_23 ?_
    refine z_top (b := 4 * c) (by omega) ?_
    refine z_iload hY eX2_addTerm_24 2 rfl ?_
    refine z_iadd hY eX2_addTerm_25 ?_
    refine z_dup2 hY eX2_addTerm_26 rfl rfl ?_
    refine c_ial hY hJ eX2_addTerm_27 (t := 5) (N := 16) (key := 12) (i := o) (x := κ 12 o (4 * c + k)) (by omega) rfl (by omega) rfl ?_
    refine z_iload hY eX2_addTerm_28 3 rfl ?_
    refine z_iadd hY eX2_addTerm_29 ?_
    refine c_ias hY hJ eX2_addTerm_30 (t := 5) (N := 16) (key := 12) (i := o) (by decide) rfl (by omega) (fun _ => rfl) (by omega) ?_
    exact z_return hY eX2_addTerm_31 rfl (by rw [hφ]; first | (exfalso; omega) | exact ⟨rfl, rfl⟩) ⟨Nat.zero_le _, Nat.zero_le _⟩
theorem o_empty2 {G : z_G} {D : Nat} {B : Nat → Int → Nat} {κ : c_K} {h : z_H} (hG : z_OK G) (hJ : cJ B κ) {o : Int} (ho : 0 ≤ o ∧ o ≤ 1) : z_T G mX2_empty [.ref (B 4 o)] (cH D B κ h) 1 0 0 (fun v h' => v = none ∧ h' = cH D B (kE κ o) h) (z_no) := by
  refine z_T_of hG pX2_empty (Nat.le_of_ble_eq_true rfl) (ls0 := [(0, .ref (B 4 o))]) rfl fun Y hY hg hmc hms hφ hψ => ?_
  subst hg
  refine z_aload hY eX2_empty_0 0 rfl ?_
  refine c_gf hY hJ eX2_empty_1 (t := 4) (i := o) (v := .ref (B 5 o)) (by omega) rfl rfl ?_
  refine z_const hY eX2_empty_4 ?_
  refine z_callS (As := [.ref (B 5 o), z_i 0]) (rest := []) hY eX2_empty_5 (c_fill (t := 5) (N := 16) (key := 12) (i := o) hG hJ (by decide) rfl (by omega) (fun _ => rfl) (by decide)) (by decide) (Nat.le_of_ble_eq_true rfl) ⟨Nat.zero_le _, Nat.zero_le _⟩ (fun _ _ q => q.elim) (fun vv1 hh1 q1 => ?_)
  obtain ⟨rfl, rfl⟩ := q1
  refine z_heq (show _ = cH D B (k_r κ 12 o (fun j => if 0 ≤ j ∧ j < 16 then 0 else κ 12 o j)) h from rfl) ?_
  refine z_aload hY eX2_empty_8 0 rfl ?_
  refine c_gf hY (cJ_r (by decide) hJ) eX2_empty_9 (t := 4) (i := o) (v := .ref (B 6 o)) ((cL_r (by decide) _ _).mpr (by omega)) rfl rfl ?_
  refine z_const hY eX2_empty_12 ?_
  refine z_callS (As := [.ref (B 6 o), z_i 0]) (rest := []) hY eX2_empty_13 (c_fill (t := 6) (N := 4) (key := 14) (i := o) hG (cJ_r (by decide) hJ) (by decide) rfl ((cL_r (by decide) _ _).mpr (by omega)) (fun _ => rfl) (by decide)) (by decide) (Nat.le_of_ble_eq_true rfl) ⟨Nat.zero_le _, Nat.zero_le _⟩ (fun _ _ q => q.elim) (fun vv2 hh2 q2 => ?_)
  obtain ⟨rfl, rfl⟩ := q2
  refine z_heq (show _ = cH D B (k_r (k_r κ 12 o (fun j => if 0 ≤ j ∧ j < 16 then 0 else κ 12 o j)) 14 o (fun j => if 0 ≤ j ∧ j < 4 then 0 else (k_r κ 12 o (fun j => if 0 ≤ j ∧ j < 16 then 0 else κ 12 o j)) 14 o j)) h from rfl) ?_
  refine z_aload hY eX2_empty_16 0 rfl ?_
  refine z_const hY eX2_empty_17 ?_
  refine c_pf hY (cJ_r (by decide) (cJ_r (by decide) hJ)) eX2_empty_18 (key := 16) (t := 4) (i := o) (by decide) rfl ((cL_r (by decide) _ _).mpr ((cL_r (by decide) _ _).mpr (by omega))) rfl (Nat.le_of_ble_eq_true rfl) (by simp [cC, k_u, k_r]) ?_
  exact z_return hY eX2_empty_21 rfl (by rw [hφ]; exact ⟨rfl, rfl⟩) ⟨Nat.zero_le _, Nat.zero_le _⟩
theorem r_readTerm {G : z_G} {D : Nat} {B : Nat → Int → Nat} {κ : c_K} {h : z_H} (hG : z_OK G) (hJ : cJ B κ) {σ : z_S} (hT : TR κ σ) (hK : Rk κ σ) (hP : mP σ) (hRg : kRg κ) {o c s : Int} (ho : 0 ≤ o ∧ o ≤ 1) (hc : c = σ 13 0 ∧ 0 ≤ c ∧ c ≤ 3) (hs : -1 ≤ s ∧ s ≤ 1) (hF : FO κ σ o (c + 1)) : z_T G mX3_readTerm [.ref (B 3 0), .ref (B 4 o), z_i c, z_i s] (cH D B κ h) 3 0 0 (fun v h' => ∃ κ' : c_K, v = some (z_i (yRt σ s).1) ∧ h' = cH D B κ' h ∧ kSo κ κ' o ∧ kRg κ' ∧ Rk κ' (yRt σ s).2 ∧ TR κ' (yRt σ s).2 ∧ FO κ' (yRt σ s).2 o (c + 1)) (z_no) := by
  have hS0 : kSo κ κ o := kSo_m (fun _ _ => rfl)
  refine z_T_of hG pX3_readTerm (Nat.le_of_ble_eq_true rfl) (ls0 := [(0, .ref (B 3 0)), (1, .ref (B 4 o)), (2, z_i c), (3, z_i s)]) rfl fun Y hY hg hmc hms hφ hψ => ?_
  subst hg
  obtain ⟨-, hk4_1, -, hk2_1, hk3_1, -, -, -⟩ := id hK
  have hg6_1 := hRg 6 (by decide) (by decide)
  have hg9_1 := hRg 9 (by decide) (by decide)
  have hg10_1 := hRg 10 (by decide) (by decide)
  refine z_iload hY eX3_readTerm_0 3 rfl ?_
  refine z_istore hY eX3_readTerm_1 (ls' := [(4, z_i s), (0, .ref (B 3 0)), (1, .ref (B 4 o)), (2, z_i c), (3, z_i s)]) rfl ?_
  refine z_aload hY eX3_readTerm_3 1 rfl ?_
  refine c_gf hY hJ eX3_readTerm_4 (t := 3) (i := 0) (v := z_i (κ 6 0 0)) (by omega) rfl rfl ?_
  refine z_const hY eX3_readTerm_7 ?_
  have htk2 := tk_n hK
  refine z_icmpne hY eX3_readTerm_10 (by omega) (fun c10 => ?_) (fun c10 => ?_)
  · refine z_aload hY eX3_readTerm_40 1 rfl ?_
    refine c_gf hY hJ eX3_readTerm_41 (t := 3) (i := 0) (v := z_i (κ 6 0 0)) (by omega) rfl rfl ?_
    refine z_const hY eX3_readTerm_44 ?_
    have htk3 := tk_k hK
    refine z_icmpeq hY eX3_readTerm_47 (by omega) (fun c47 => ?_) (fun c47 => ?_)
    · refine z_aload hY eX3_readTerm_52 2 rfl ?_
      refine z_iload hY eX3_readTerm_53 3 rfl ?_
      refine z_aload hY eX3_readTerm_54 1 rfl ?_
      refine c_gf hY hJ eX3_readTerm_55 (t := 3) (i := 0) (v := z_i (κ 10 0 0)) (by omega) rfl rfl ?_
      refine z_iload hY eX3_readTerm_58 0 rfl ?_
      refine z_callV (As := [z_i c, z_i (κ 10 0 0), z_i s]) (rest := []) hY eX3_readTerm_60 (o_addTerm2 (κ := κ) (o := o) hG hJ ho (by omega) (by omega)) (cH_at (t := 4) (i := o) hJ (by omega)) (by decide) (Nat.le_of_ble_eq_true rfl) ⟨Nat.zero_le _, Nat.zero_le _⟩ (fun _ _ q => q.elim) (fun vv4 hh4 q4 => ?_)
      obtain ⟨rfl, rfl⟩ := q4
      have hFn5 : FO (k_u κ 12 o (4 * c + κ 10 0 0) (κ 12 o (4 * c + κ 10 0 0) + s)) (z_u σ 9 (4 * σ 13 0 + σ 6 0 - 97) (σ 9 (4 * σ 13 0 + σ 6 0 - 97) + s * 1)) o (c + 1) := FO_add hF (by omega) (by omega) ((Int.mul_one s).symm)
      have hSo5 : kSo κ (k_u κ 12 o (4 * c + κ 10 0 0) (κ 12 o (4 * c + κ 10 0 0) + s)) o := kSo_t hS0 (kSo_u (Or.inl rfl))
      have hRn5 : kRg (k_u κ 12 o (4 * c + κ 10 0 0) (κ 12 o (4 * c + κ 10 0 0) + s)) := kRg_u (by decide) hRg
      have hKn5 : Rk (k_u κ 12 o (4 * c + κ 10 0 0) (κ 12 o (4 * c + κ 10 0 0) + s)) (z_u σ 9 (4 * σ 13 0 + σ 6 0 - 97) (σ 9 (4 * σ 13 0 + σ 6 0 - 97) + s * 1)) := Rk_u (by decide) hK
      have hTn5 : TR (k_u κ 12 o (4 * c + κ 10 0 0) (κ 12 o (4 * c + κ 10 0 0) + s)) (z_u σ 9 (4 * σ 13 0 + σ 6 0 - 97) (σ 9 (4 * σ 13 0 + σ 6 0 - 97) + s * 1)) := TR_u (by decide) hT
      have hPn5 : mP (z_u σ 9 (4 * σ 13 0 + σ 6 0 - 97) (σ 9 (4 * σ 13 0 + σ 6 0 - 97) + s * 1)) := mP_u9 hP
      refine z_aload hY eX3_readTerm_63 1 rfl ?_
      refine z_callV (As := []) (rest := []) hY eX3_readTerm_64 (r_readToken (κ := k_u κ 12 o (4 * c + κ 10 0 0) (κ 12 o (4 * c + κ 10 0 0) + s)) (σ := z_u σ 9 (4 * σ 13 0 + σ 6 0 - 97) (σ 9 (4 * σ 13 0 + σ 6 0 - 97) + s * 1)) hG (cJ_u (by decide) hJ) hTn5 hPn5.1 (hKn5.2.2.2.2.2.2.1) hRn5) (cH_at (t := 3) (i := 0) (cJ_u (by decide) hJ) ((cL_u (by decide) _ _).mpr (by omega))) (by decide) (Nat.le_of_ble_eq_true rfl) ⟨Nat.zero_le _, Nat.zero_le _⟩ (fun _ _ q => q.elim) (fun vv6 hh6 q6 => ?_)
      obtain ⟨rfl, κ6, rfl, hSn6, hRn6, hKn6, hTn6⟩ := q6
      have hJn6 : cJ B κ6 := kSm_J hSn6 (cJ_u (by decide) hJ)
      have hPn6 : mP (yRd (z_u σ 9 (4 * σ 13 0 + σ 6 0 - 97) (σ 9 (4 * σ 13 0 + σ 6 0 - 97) + s * 1))) := mP_r hPn5
      have hk13_6 : (yRd (z_u σ 9 (4 * σ 13 0 + σ 6 0 - 97) (σ 9 (4 * σ 13 0 + σ 6 0 - 97) + s * 1))) 13 0 = (z_u σ 9 (4 * σ 13 0 + σ 6 0 - 97) (σ 9 (4 * σ 13 0 + σ 6 0 - 97) + s * 1)) 13 0 := congrFun (yRd_k (by decide)) 0
      have hSo6 : kSo κ κ6 o := kSo_t hSo5 (kSo_m hSn6)
      have hFn6 := FO_m (κ' := κ6) (ρ := yRd (z_u σ 9 (4 * σ 13 0 + σ 6 0 - 97) (σ 9 (4 * σ 13 0 + σ 6 0 - 97) + s * 1))) (by rw [hSn6 12 (by decide)]) (yRd_k (by decide)) hFn5
      obtain ⟨-, hk4_7, -, hk2_7, hk3_7, -, -, -⟩ := id hKn6
      have hg6_7 := hRn6 6 (by decide) (by decide)
      have hg9_7 := hRn6 9 (by decide) (by decide)
      have hg10_7 := hRn6 10 (by decide) (by decide)
      refine z_const hY eX3_readTerm_67 ?_
      exact z_zreturn hY eX3_readTerm_68 rfl (by omega) (by rw [hφ]; have ee : yRt σ s = (1, yRd (z_u σ 9 (4 * σ 13 0 + σ 6 0 - 97) (σ 9 (4 * σ 13 0 + σ 6 0 - 97) + s * 1))) := (by unfold yRt yTt; first | (rw [if_pos (by omega), if_pos (by omega), if_neg (by omega)]; done) | (rw [if_neg (by omega), if_neg (by omega)]; done)); exact ⟨_, by rw [ee], rfl, hSo6, hRn6, by rw [ee]; exact hKn6, by rw [ee]; exact hTn6, by rw [ee]; exact hFn6⟩) ⟨Nat.zero_le _, Nat.zero_le _⟩
    · refine z_const hY eX3_readTerm_50 ?_
      exact z_zreturn hY eX3_readTerm_51 rfl (by omega) (by rw [hφ]; have ee : yRt σ s = (0, σ) := (by unfold yRt yTt; first | (rw [if_pos (by omega), if_pos (by omega), if_pos (by omega)]; done) | (rw [if_neg (by omega), if_pos (by omega)]; done)); exact ⟨_, by rw [ee], rfl, hS0, hRg, by rw [ee]; exact hK, by rw [ee]; exact hT, by rw [ee]; exact hF⟩) ⟨Nat.zero_le _, Nat.zero_le _⟩
  · refine z_iload hY eX3_readTerm_13 4 rfl ?_
    refine z_aload hY eX3_readTerm_14 1 rfl ?_
    refine c_gf hY hJ eX3_readTerm_15 (t := 3) (i := 0) (v := z_i (κ 9 0 0)) (by omega) rfl rfl ?_
    refine z_imul hY eX3_readTerm_18 ?_
    refine z_istore hY eX3_readTerm_19 (ls' := [(4, z_i (s * (κ 9 0 0))), (0, .ref (B 3 0)), (1, .ref (B 4 o)), (2, z_i c), (3, z_i s)]) rfl ?_
    refine z_aload hY eX3_readTerm_21 1 rfl ?_
    refine z_callV (As := []) (rest := []) hY eX3_readTerm_22 (r_readToken (κ := κ) (σ := σ) hG hJ hT hP.1 (hK.2.2.2.2.2.2.1) hRg) (cH_at (t := 3) (i := 0) hJ (by omega)) (by decide) (Nat.le_of_ble_eq_true rfl) ⟨Nat.zero_le _, Nat.zero_le _⟩ (fun _ _ q => q.elim) (fun vv8 hh8 q8 => ?_)
    obtain ⟨rfl, κ8, rfl, hSn8, hRn8, hKn8, hTn8⟩ := q8
    have hJn8 : cJ B κ8 := kSm_J hSn8 hJ
    have hPn8 : mP (yRd σ) := mP_r hP
    have hk13_8 : (yRd σ) 13 0 = σ 13 0 := congrFun (yRd_k (by decide)) 0
    have hSo8 : kSo κ κ8 o := kSo_t hS0 (kSo_m hSn8)
    have hFn8 := FO_m (κ' := κ8) (ρ := yRd σ) (by rw [hSn8 12 (by decide)]) (yRd_k (by decide)) hF
    obtain ⟨-, hk4_9, -, hk2_9, hk3_9, -, -, -⟩ := id hKn8
    have hg6_9 := hRn8 6 (by decide) (by decide)
    have hg9_9 := hRn8 9 (by decide) (by decide)
    have hg10_9 := hRn8 10 (by decide) (by decide)
    refine z_aload hY eX3_readTerm_25 1 rfl ?_
    refine c_gf hY hJn8 eX3_readTerm_26 (t := 3) (i := 0) (v := z_i (κ8 6 0 0)) (by omega) rfl rfl ?_
    refine z_const hY eX3_readTerm_29 ?_
    have htk10 := tk_s hKn8 (b := 42) (by decide)
    refine z_icmpeq hY eX3_readTerm_31 (by omega) (fun c31 => ?_) (fun c31 => ?_)
    · refine z_aload hY eX3_readTerm_36 1 rfl ?_
      refine z_callV (As := []) (rest := []) hY eX3_readTerm_37 (r_readToken (κ := κ8) (σ := yRd σ) hG hJn8 hTn8 hPn8.1 (hKn8.2.2.2.2.2.2.1) hRn8) (cH_at (t := 3) (i := 0) hJn8 (by omega)) (by decide) (Nat.le_of_ble_eq_true rfl) ⟨Nat.zero_le _, Nat.zero_le _⟩ (fun _ _ q => q.elim) (fun vv11 hh11 q11 => ?_)
      obtain ⟨rfl, κ11, rfl, hSn11, hRn11, hKn11, hTn11⟩ := q11
      have hJn11 : cJ B κ11 := kSm_J hSn11 hJn8
      have hPn11 : mP (yRd (yRd σ)) := mP_r hPn8
      have hk13_11 : (yRd (yRd σ)) 13 0 = (yRd σ) 13 0 := congrFun (yRd_k (by decide)) 0
      have hSo11 : kSo κ κ11 o := kSo_t hSo8 (kSo_m hSn11)
      have hFn11 := FO_m (κ' := κ11) (ρ := yRd (yRd σ)) (by rw [hSn11 12 (by decide)]) (yRd_k (by decide)) hFn8
      obtain ⟨-, hk4_12, -, hk2_12, hk3_12, -, -, -⟩ := id hKn11
      have hg6_12 := hRn11 6 (by decide) (by decide)
      have hg9_12 := hRn11 9 (by decide) (by decide)
      have hg10_12 := hRn11 10 (by decide) (by decide)
      refine z_aload hY eX3_readTerm_40 1 rfl ?_
      refine c_gf hY hJn11 eX3_readTerm_41 (t := 3) (i := 0) (v := z_i (κ11 6 0 0)) (by omega) rfl rfl ?_
      refine z_const hY eX3_readTerm_44 ?_
      have htk13 := tk_k hKn11
      refine z_icmpeq hY eX3_readTerm_47 (by omega) (fun c47 => ?_) (fun c47 => ?_)
      · refine z_aload hY eX3_readTerm_52 2 rfl ?_
        refine z_iload hY eX3_readTerm_53 3 rfl ?_
        refine z_aload hY eX3_readTerm_54 1 rfl ?_
        refine c_gf hY hJn11 eX3_readTerm_55 (t := 3) (i := 0) (v := z_i (κ11 10 0 0)) (by omega) rfl rfl ?_
        refine z_iload hY eX3_readTerm_58 0 rfl ?_
        refine z_callV (As := [z_i c, z_i (κ11 10 0 0), z_i (s * (κ 9 0 0))]) (rest := []) hY eX3_readTerm_60 (o_addTerm2 (κ := κ11) (o := o) hG hJn11 ho (by omega) (by omega)) (cH_at (t := 4) (i := o) hJn11 (by omega)) (by decide) (Nat.le_of_ble_eq_true rfl) ⟨Nat.zero_le _, Nat.zero_le _⟩ (fun _ _ q => q.elim) (fun vv14 hh14 q14 => ?_)
        obtain ⟨rfl, rfl⟩ := q14
        have hFn15 : FO (k_u κ11 12 o (4 * c + κ11 10 0 0) (κ11 12 o (4 * c + κ11 10 0 0) + (s * (κ 9 0 0)))) (z_u (yRd (yRd σ)) 9 (4 * (yRd (yRd σ)) 13 0 + (yRd (yRd σ)) 6 0 - 97) ((yRd (yRd σ)) 9 (4 * (yRd (yRd σ)) 13 0 + (yRd (yRd σ)) 6 0 - 97) + s * σ 6 0)) o (c + 1) := FO_add hFn11 (by omega) (by omega) (by rw [(hK.2.2.2.1 (by omega)).1])
        have hSo15 : kSo κ (k_u κ11 12 o (4 * c + κ11 10 0 0) (κ11 12 o (4 * c + κ11 10 0 0) + (s * (κ 9 0 0)))) o := kSo_t hSo11 (kSo_u (Or.inl rfl))
        have hRn15 : kRg (k_u κ11 12 o (4 * c + κ11 10 0 0) (κ11 12 o (4 * c + κ11 10 0 0) + (s * (κ 9 0 0)))) := kRg_u (by decide) hRn11
        have hKn15 : Rk (k_u κ11 12 o (4 * c + κ11 10 0 0) (κ11 12 o (4 * c + κ11 10 0 0) + (s * (κ 9 0 0)))) (z_u (yRd (yRd σ)) 9 (4 * (yRd (yRd σ)) 13 0 + (yRd (yRd σ)) 6 0 - 97) ((yRd (yRd σ)) 9 (4 * (yRd (yRd σ)) 13 0 + (yRd (yRd σ)) 6 0 - 97) + s * σ 6 0)) := Rk_u (by decide) hKn11
        have hTn15 : TR (k_u κ11 12 o (4 * c + κ11 10 0 0) (κ11 12 o (4 * c + κ11 10 0 0) + (s * (κ 9 0 0)))) (z_u (yRd (yRd σ)) 9 (4 * (yRd (yRd σ)) 13 0 + (yRd (yRd σ)) 6 0 - 97) ((yRd (yRd σ)) 9 (4 * (yRd (yRd σ)) 13 0 + (yRd (yRd σ)) 6 0 - 97) + s * σ 6 0)) := TR_u (by decide) hTn11
        have hPn15 : mP (z_u (yRd (yRd σ)) 9 (4 * (yRd (yRd σ)) 13 0 + (yRd (yRd σ)) 6 0 - 97) ((yRd (yRd σ)) 9 (4 * (yRd (yRd σ)) 13 0 + (yRd (yRd σ)) 6 0 - 97) + s * σ 6 0)) := mP_u9 hPn11
        refine z_aload hY eX3_readTerm_63 1 rfl ?_
        refine z_callV (As := []) (rest := []) hY eX3_readTerm_64 (r_readToken (κ := k_u κ11 12 o (4 * c + κ11 10 0 0) (κ11 12 o (4 * c + κ11 10 0 0) + (s * (κ 9 0 0)))) (σ := z_u (yRd (yRd σ)) 9 (4 * (yRd (yRd σ)) 13 0 + (yRd (yRd σ)) 6 0 - 97) ((yRd (yRd σ)) 9 (4 * (yRd (yRd σ)) 13 0 + (yRd (yRd σ)) 6 0 - 97) + s * σ 6 0)) hG (cJ_u (by decide) hJn11) hTn15 hPn15.1 (hKn15.2.2.2.2.2.2.1) hRn15) (cH_at (t := 3) (i := 0) (cJ_u (by decide) hJn11) ((cL_u (by decide) _ _).mpr (by omega))) (by decide) (Nat.le_of_ble_eq_true rfl) ⟨Nat.zero_le _, Nat.zero_le _⟩ (fun _ _ q => q.elim) (fun vv16 hh16 q16 => ?_)
        obtain ⟨rfl, κ16, rfl, hSn16, hRn16, hKn16, hTn16⟩ := q16
        have hJn16 : cJ B κ16 := kSm_J hSn16 (cJ_u (by decide) hJn11)
        have hPn16 : mP (yRd (z_u (yRd (yRd σ)) 9 (4 * (yRd (yRd σ)) 13 0 + (yRd (yRd σ)) 6 0 - 97) ((yRd (yRd σ)) 9 (4 * (yRd (yRd σ)) 13 0 + (yRd (yRd σ)) 6 0 - 97) + s * σ 6 0))) := mP_r hPn15
        have hk13_16 : (yRd (z_u (yRd (yRd σ)) 9 (4 * (yRd (yRd σ)) 13 0 + (yRd (yRd σ)) 6 0 - 97) ((yRd (yRd σ)) 9 (4 * (yRd (yRd σ)) 13 0 + (yRd (yRd σ)) 6 0 - 97) + s * σ 6 0))) 13 0 = (z_u (yRd (yRd σ)) 9 (4 * (yRd (yRd σ)) 13 0 + (yRd (yRd σ)) 6 0 - 97) ((yRd (yRd σ)) 9 (4 * (yRd (yRd σ)) 13 0 + (yRd (yRd σ)) 6 0 - 97) + s * σ 6 0)) 13 0 := congrFun (yRd_k (by decide)) 0
        have hSo16 : kSo κ κ16 o := kSo_t hSo15 (kSo_m hSn16)
        have hFn16 := FO_m (κ' := κ16) (ρ := yRd (z_u (yRd (yRd σ)) 9 (4 * (yRd (yRd σ)) 13 0 + (yRd (yRd σ)) 6 0 - 97) ((yRd (yRd σ)) 9 (4 * (yRd (yRd σ)) 13 0 + (yRd (yRd σ)) 6 0 - 97) + s * σ 6 0))) (by rw [hSn16 12 (by decide)]) (yRd_k (by decide)) hFn15
        obtain ⟨-, hk4_17, -, hk2_17, hk3_17, -, -, -⟩ := id hKn16
        have hg6_17 := hRn16 6 (by decide) (by decide)
        have hg9_17 := hRn16 9 (by decide) (by decide)
        have hg10_17 := hRn16 10 (by decide) (by decide)
        refine z_const hY eX3_readTerm_67 ?_
        exact z_zreturn hY eX3_readTerm_68 rfl (by omega) (by rw [hφ]; have ee : yRt σ s = (1, yRd (z_u (yRd (yRd σ)) 9 (4 * (yRd (yRd σ)) 13 0 + (yRd (yRd σ)) 6 0 - 97) ((yRd (yRd σ)) 9 (4 * (yRd (yRd σ)) 13 0 + (yRd (yRd σ)) 6 0 - 97) + s * σ 6 0))) := (by unfold yRt yTt; first | (rw [if_pos (by omega), if_pos (by omega), if_neg (by omega)]; done) | (rw [if_neg (by omega), if_neg (by omega)]; done)); exact ⟨_, by rw [ee], rfl, hSo16, hRn16, by rw [ee]; exact hKn16, by rw [ee]; exact hTn16, by rw [ee]; exact hFn16⟩) ⟨Nat.zero_le _, Nat.zero_le _⟩
      · refine z_const hY eX3_readTerm_50 ?_
        exact z_zreturn hY eX3_readTerm_51 rfl (by omega) (by rw [hφ]; have ee : yRt σ s = (0, yRd (yRd σ)) := (by unfold yRt yTt; first | (rw [if_pos (by omega), if_pos (by omega), if_pos (by omega)]; done) | (rw [if_neg (by omega), if_pos (by omega)]; done)); exact ⟨_, by rw [ee], rfl, hSo11, hRn11, by rw [ee]; exact hKn11, by rw [ee]; exact hTn11, by rw [ee]; exact hFn11⟩) ⟨Nat.zero_le _, Nat.zero_le _⟩
    · refine z_const hY eX3_readTerm_34 ?_
      exact z_zreturn hY eX3_readTerm_35 rfl (by omega) (by rw [hφ]; have ee : yRt σ s = (0, yRd σ) := (by unfold yRt; rw [if_pos (by omega), if_neg (by omega)]); exact ⟨_, by rw [ee], rfl, hSo8, hRn8, by rw [ee]; exact hKn8, by rw [ee]; exact hTn8, by rw [ee]; exact hFn8⟩) ⟨Nat.zero_le _, Nat.zero_le _⟩
end C5
