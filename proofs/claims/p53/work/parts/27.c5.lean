/-! The class's grammar against the model's (laid by wip/whole/gen/gm27.py). -/
section C5
/-- the factors told so far: those of the first n criteria, and no others -/
def FO (κ : c_K) (σ : z_S) (o n : Int) : Prop := ∀ j, 0 ≤ j → j < 16 → κ 12 o j = if j < 4 * n then σ 9 j else 0
def SO (κ : c_K) (σ : z_S) (o n : Int) : Prop := ∀ j, 0 ≤ j → j < 4 → κ 14 o j = if j < n then (if σ 11 j = 1 then 1 else -1) else 0
def kRg (κ : c_K) : Prop := ∀ k, 6 ≤ k → k ≤ 10 → -2147483648 ≤ κ k 0 0 ∧ κ k 0 0 ≤ 2147483647
/-- the same but for the reader and what the order o has room for -/
def kSo (κ κ' : c_K) (o : Int) : Prop := ∀ (k : Nat) (q j : Int), ¬ ((6 ≤ k ∧ k ≤ 10) ∨ (q = o ∧ ((k = 12 ∧ 0 ≤ j ∧ j < 16) ∨ (k = 14 ∧ 0 ≤ j ∧ j < 4) ∨ (k = 16 ∧ j = 0)))) → κ' k q j = κ k q j
theorem kSo_m {κ κ' : c_K} {o : Int} (h : kSm κ κ') : kSo κ κ' o := fun k q j hn => by rw [h k (by omega)]
theorem kSo_t {κ κ' κ'' : c_K} {o : Int} (h1 : kSo κ κ' o) (h2 : kSo κ' κ'' o) : kSo κ κ'' o := fun k q j hn => (h2 k q j hn).trans (h1 k q j hn)
theorem kSo_u {κ : c_K} {k : Nat} {o j v : Int} (hk : (k = 12 ∧ 0 ≤ j ∧ j < 16) ∨ (k = 14 ∧ 0 ≤ j ∧ j < 4) ∨ (k = 16 ∧ j = 0)) : kSo κ (k_u κ k o j v) o := fun k' q j' hn => by
  by_cases e1 : k' = k
  · subst e1
    by_cases e2 : q = o
    · subst e2
      by_cases e3 : j' = j
      · subst e3; exact absurd (Or.inr ⟨rfl, hk⟩) hn
      · rw [k_u_eq]; exact if_neg e3
    · rw [k_u_ni e2]
  · rw [k_u_ne e1]
theorem kSo_f {κ κ' : c_K} {o : Int} (h : kSo κ κ' o) {k : Nat} (hk : (k < 6 ∨ 10 < k) ∧ k ≠ 12 ∧ k ≠ 14 ∧ k ≠ 16) : κ' k = κ k := funext fun q => funext fun j => h k q j (by omega)
theorem kSo_J {B : Nat → Int → Nat} {κ κ' : c_K} {o : Int} (hS : kSo κ κ' o) (hJ : cJ B κ) : cJ B κ' := cJ_of hJ (cL_other (hS 24 0 0 (by omega)) (fun i => hS 26 i 0 (by omega)))
theorem FO_m {κ κ' : c_K} {σ ρ : z_S} {o n : Int} (h : κ' 12 o = κ 12 o) (h9 : ρ 9 = σ 9) (hF : FO κ σ o n) : FO κ' ρ o n := by
  unfold FO
  rw [h, h9]
  exact hF
theorem SO_m {κ κ' : c_K} {σ ρ : z_S} {o n : Int} (h : κ' 14 o = κ 14 o) (h9 : ρ 11 = σ 11) (hF : SO κ σ o n) : SO κ' ρ o n := by
  unfold SO
  rw [h, h9]
  exact hF
theorem FO_add {κ : c_K} {σ : z_S} {o n i i' f g : Int} (hF : FO κ σ o n) (hi : i = i') (h0 : 0 ≤ i ∧ i < 4 * n ∧ i < 16) (hfg : f = g) : FO (k_u κ 12 o i (κ 12 o i + f)) (z_u σ 9 i' (σ 9 i' + g)) o n := by
  subst hi hfg
  intro j h1 h2
  rw [k_u_eq, z_u_eq]
  unfold z_up
  by_cases c : j = i
  · rw [if_pos c, if_pos (by omega), if_pos c, hF i h0.1 h0.2.2, if_pos h0.2.1]
  · rw [if_neg c, if_neg c]
    exact hF j h1 h2
theorem Rk_u {κ : c_K} {ρ : z_S} {k : Nat} {o j v : Int} (hk : k < 6 ∨ 10 < k) (h : Rk κ ρ) : Rk (k_u κ k o j v) ρ := by
  unfold Rk
  rw [k_u_ne (by omega), k_u_ne (by omega), k_u_ne (by omega), k_u_ne (by omega), k_u_ne (by omega)]
  exact h
theorem Rk_9 {κ : c_K} {ρ : z_S} {i v : Int} (h : Rk κ ρ) : Rk κ (z_u ρ 9 i v) := h
theorem TR_u {κ : c_K} {ρ : z_S} {k : Nat} {o j v : Int} (hk : k ≠ 4 ∧ k ≠ 5) (h : TR κ ρ) : TR (k_u κ k o j v) ρ := by
  unfold TR
  rw [k_u_ne (by omega), k_u_ne (by omega)]
  exact h
theorem kRg_u {κ : c_K} {k : Nat} {o j v : Int} (hk : k < 6 ∨ 10 < k) (h : kRg κ) : kRg (k_u κ k o j v) := fun q h1 h2 => by
  rw [k_u_ne (by omega)]
  exact h q h1 h2
def cTl : Nat → z_S → Int → Int × z_S
  | 0, μ, _ => (0, μ)
  | f + 1, μ, s => if (yRt μ s).1 = 0 then (0, (yRt μ s).2) else if (yRt μ s).2 4 0 = 1 ∧ ((yRt μ s).2 6 0 = 43 ∨ (yRt μ s).2 6 0 = 45) then cTl f (yRd (yRt μ s).2) (ySg (yRt μ s).2) else (1, (yRt μ s).2)
theorem yTl_cTl : ∀ (f : Nat) (ρ : z_S), yTl f ρ = if ρ 4 0 = 1 ∧ (ρ 6 0 = 43 ∨ ρ 6 0 = 45) then cTl f (yRd ρ) (ySg ρ) else (1, ρ) := by
  intro f
  induction f with
  | zero => intro ρ; rfl
  | succ f ih =>
    intro ρ
    unfold yTl
    by_cases c : ρ 4 0 = 1 ∧ (ρ 6 0 = 43 ∨ ρ 6 0 = 45)
    · rw [if_pos c, if_pos c]
      unfold cTl
      by_cases c1 : (yRt (yRd ρ) (ySg ρ)).1 = 0
      · rw [if_pos c1, if_pos c1]
        exact Prod.ext c1 rfl
      · rw [if_neg c1, if_neg c1, ih]
    · rw [if_neg c, if_neg c]
theorem yRc_cTl (σ : z_S) : yRc σ = if yGo σ then yNc (cTl 4 (yRd (yC0 σ)) 1) else (0, σ) := by
  unfold yRc
  by_cases c : yGo σ
  · rw [if_pos c, if_pos c]
    refine congrArg yNc ?_
    show _ = ite _ _ _
    by_cases c1 : (yRt (yRd (yC0 σ)) 1).1 = 0
    · rw [if_pos c1, if_pos c1]
      exact Prod.ext c1 rfl
    · rw [if_neg c1, if_neg c1, yTl_cTl]
  · rw [if_neg c, if_neg c]
theorem cTl_0 {i s : Int} {μ : z_S} (h : 4 ≤ i) : cTl (4 - i).toNat μ s = (0, μ) := by
  rw [show (4 - i).toNat = 0 by omega]
  rfl
theorem cTl_f {i s : Int} {μ : z_S} (h : i < 4) (h1 : (yRt μ s).1 = 0) : cTl (4 - i).toNat μ s = (0, (yRt μ s).2) := by
  rw [show (4 - i).toNat = (4 - (i + 1)).toNat + 1 by omega]
  exact if_pos h1
theorem cTl_e {i s : Int} {μ : z_S} (h : i < 4) (h1 : (yRt μ s).1 ≠ 0) (h2 : ¬ ((yRt μ s).2 4 0 = 1 ∧ ((yRt μ s).2 6 0 = 43 ∨ (yRt μ s).2 6 0 = 45))) : cTl (4 - i).toNat μ s = (1, (yRt μ s).2) := by
  rw [show (4 - i).toNat = (4 - (i + 1)).toNat + 1 by omega]
  exact (if_neg h1).trans (if_neg h2)
theorem cTl_c {i s : Int} {μ : z_S} (h : i < 4) (h1 : (yRt μ s).1 ≠ 0) (h2 : (yRt μ s).2 4 0 = 1 ∧ ((yRt μ s).2 6 0 = 43 ∨ (yRt μ s).2 6 0 = 45)) : cTl (4 - i).toNat μ s = cTl (4 - (i + 1)).toNat (yRd (yRt μ s).2) (ySg (yRt μ s).2) := by
  rw [show (4 - i).toNat = (4 - (i + 1)).toNat + 1 by omega]
  exact (if_neg h1).trans (if_pos h2)
def cCl : Nat → z_S → Int × z_S
  | 0, μ => (0, μ)
  | f + 1, μ => if (yRc μ).1 = 0 then (0, (yRc μ).2) else if (yRc μ).2 4 0 = 1 ∧ (yRc μ).2 6 0 = 59 then cCl f (yRd (yRc μ).2) else (if (yRc μ).2 4 0 = 0 then 1 else 0, (yRc μ).2)
theorem yCl_cCl : ∀ (f : Nat) (μ : z_S), mP μ → μ 13 0 = 4 - f → (if (yRc μ).1 = 0 then yRc μ else yCl2 (f + 1) (yRc μ).2) = cCl f μ := by
  intro f
  induction f with
  | zero =>
    intro μ hP h
    have : yRc μ = (0, μ) := if_neg (fun q => q.2.2 (by omega))
    rw [this]
    rfl
  | succ f ih =>
    intro μ hP h
    unfold cCl
    by_cases c : (yRc μ).1 = 0
    · rw [if_pos c, if_pos c]
      exact Prod.ext c rfl
    · rw [if_neg c, if_neg c]
      obtain ⟨h1, h2⟩ := yRc_s hP
      have e13 : yRd (yRc μ).2 13 0 = (yRc μ).2 13 0 := congrFun (yRd_k (by decide)) 0
      show ite _ _ _ = _
      by_cases c2 : (yRc μ).2 4 0 = 1 ∧ (yRc μ).2 6 0 = 59
      · rw [if_pos c2, if_pos c2]
        exact ih _ (mP_r h1) (by omega)
      · rw [if_neg c2, if_neg c2]
theorem yRo_cCl {σ : z_S} (hP : mP (yRo0 σ)) : yRo σ = cCl 4 (yRo0 σ) := yCl_cCl 4 _ hP (by
  have : yRo0 σ 13 0 = 0 := congrFun (yRd_k (by decide)) 0
  omega)
theorem cCl_0 {i : Int} {μ : z_S} (h : 4 ≤ i) : cCl (4 - i).toNat μ = (0, μ) := by
  rw [show (4 - i).toNat = 0 by omega]
  rfl
theorem cCl_f {i : Int} {μ : z_S} (h : i < 4) (h1 : (yRc μ).1 = 0) : cCl (4 - i).toNat μ = (0, (yRc μ).2) := by
  rw [show (4 - i).toNat = (4 - (i + 1)).toNat + 1 by omega]
  exact if_pos h1
theorem cCl_e {i : Int} {μ : z_S} (h : i < 4) (h1 : (yRc μ).1 ≠ 0) (h2 : ¬ ((yRc μ).2 4 0 = 1 ∧ (yRc μ).2 6 0 = 59)) : cCl (4 - i).toNat μ = (if (yRc μ).2 4 0 = 0 then 1 else 0, (yRc μ).2) := by
  rw [show (4 - i).toNat = (4 - (i + 1)).toNat + 1 by omega]
  exact (if_neg h1).trans (if_neg h2)
theorem cCl_c {i : Int} {μ : z_S} (h : i < 4) (h1 : (yRc μ).1 ≠ 0) (h2 : (yRc μ).2 4 0 = 1 ∧ (yRc μ).2 6 0 = 59) : cCl (4 - i).toNat μ = cCl (4 - (i + 1)).toNat (yRd (yRc μ).2) := by
  rw [show (4 - i).toNat = (4 - (i + 1)).toNat + 1 by omega]
  exact (if_neg h1).trans (if_pos h2)
theorem tk_n {κ : c_K} {σ : z_S} (hK : Rk κ σ) : (κ 6 0 0 = 257 ↔ σ 4 0 = 2) := by
  obtain ⟨h6, h4, h1, -⟩ := hK
  unfold cTok at h6
  (repeat' split at h6) <;> omega
theorem tk_k {κ : c_K} {σ : z_S} (hK : Rk κ σ) : (κ 6 0 0 = 258 ↔ σ 4 0 = 3) := by
  obtain ⟨h6, h4, h1, -⟩ := hK
  unfold cTok at h6
  (repeat' split at h6) <;> omega
theorem tk_e {κ : c_K} {σ : z_S} (hK : Rk κ σ) : (κ 6 0 0 = 256 ↔ σ 4 0 = 0) := by
  obtain ⟨h6, h4, h1, -⟩ := hK
  unfold cTok at h6
  (repeat' split at h6) <;> omega
theorem tk_s {κ : c_K} {σ : z_S} (hK : Rk κ σ) {b : Int} (hb : sgn b) : (κ 6 0 0 = b ↔ (σ 4 0 = 1 ∧ σ 6 0 = b)) := by
  obtain ⟨h6, h4, h1, -⟩ := hK
  unfold cTok at h6
  (repeat' split at h6) <;> omega
/-- the same but for the reader and the factors that the order o has room for -/
def kSt (κ κ' : c_K) (o : Int) : Prop := ∀ (k : Nat) (q j : Int), ¬ ((6 ≤ k ∧ k ≤ 10) ∨ (q = o ∧ k = 12 ∧ 0 ≤ j ∧ j < 16)) → κ' k q j = κ k q j
theorem kSt_m {κ κ' : c_K} {o : Int} (h : kSm κ κ') : kSt κ κ' o := fun k q j hn => by rw [h k (by omega)]
theorem kSt_t {κ κ' κ'' : c_K} {o : Int} (h1 : kSt κ κ' o) (h2 : kSt κ' κ'' o) : kSt κ κ'' o := fun k q j hn => (h2 k q j hn).trans (h1 k q j hn)
theorem kSt_u {κ : c_K} {o j v : Int} (hj : 0 ≤ j ∧ j < 16) : kSt κ (k_u κ 12 o j v) o := fun k' q j' hn => by
  by_cases e1 : k' = 12
  · subst e1
    by_cases e2 : q = o
    · subst e2
      by_cases e3 : j' = j
      · subst e3; exact absurd (Or.inr ⟨rfl, rfl, hj⟩) hn
      · rw [k_u_eq]; exact if_neg e3
    · rw [k_u_ni e2]
  · rw [k_u_ne e1]
theorem kSt_f {κ κ' : c_K} {o : Int} (h : kSt κ κ' o) {k : Nat} (hk : (k < 6 ∨ 10 < k) ∧ k ≠ 12) : κ' k = κ k := funext fun q => funext fun j => h k q j (by omega)
theorem kSt_J {B : Nat → Int → Nat} {κ κ' : c_K} {o : Int} (hS : kSt κ κ' o) (hJ : cJ B κ) : cJ B κ' := cJ_of hJ (cL_other (hS 24 0 0 (by omega)) (fun i => hS 26 i 0 (by omega)))
theorem kSo_St {κ κ' : c_K} {o : Int} (h : kSt κ κ' o) : kSo κ κ' o := fun k q j hn => h k q j (by omega)
theorem FO_c0 {κ : c_K} {σ : z_S} {o c s : Int} (hF : FO κ σ o c) (hc : c = σ 13 0 ∧ 0 ≤ c ∧ c ≤ 3) : FO (k_u (k_u κ 14 o c s) 16 o 0 (c + 1)) (yC0 σ) o (c + 1) := by
  intro j h1 h2
  rw [k_u_ne (by decide), k_u_ne (by decide), hF j h1 h2]
  have e : yC0 σ 9 j = if 4 * σ 13 0 ≤ j ∧ j < 4 * σ 13 0 + 4 then 0 else σ 9 j := by
    unfold yC0
    rw [z_u_eq, z_u_eq, z_u_eq, z_u_eq, z_u_ne (by decide)]
    unfold z_up
    (repeat' split) <;> first | rfl | (exfalso; omega)
  rw [e]
  (repeat' split) <;> first | rfl | (exfalso; omega)
theorem SO_c0 {κ : c_K} {σ : z_S} {o c : Int} (hF : SO κ σ o c) (hc : c = σ 13 0 ∧ 0 ≤ c ∧ c ≤ 3) : SO (k_u (k_u κ 14 o c (if σ 6 0 = 62 then 1 else -1)) 16 o 0 (c + 1)) (yC0 σ) o (c + 1) := by
  intro j h1 h2
  rw [k_u_ne (by decide), k_u_eq]
  have e : yC0 σ 11 j = if j = σ 13 0 then (if σ 6 0 = 62 then 1 else 0) else σ 11 j := by
    unfold yC0
    rw [z_u_ne (by decide), z_u_ne (by decide), z_u_ne (by decide), z_u_ne (by decide), z_u_eq]
    rfl
  rw [e]
  have := hF j h1 h2
  unfold z_up
  by_cases c1 : j = c
  · rw [if_pos c1, if_pos (show j < c + 1 by omega), if_pos (show j = σ 13 0 by omega)]
    by_cases c6 : σ 6 0 = 62
    · rw [if_pos c6, if_pos c6, if_pos rfl]
    · rw [if_neg c6, if_neg c6, if_neg (show ¬ (0 : Int) = 1 by omega)]
  · rw [if_neg c1, this, if_neg (show ¬ j = σ 13 0 by omega)]
    by_cases c2 : j < c
    · rw [if_pos c2, if_pos (show j < c + 1 by omega)]
    · rw [if_neg c2, if_neg (show ¬ j < c + 1 by omega)]
theorem FO_e0 {κ : c_K} {σ : z_S} {o : Int} : FO (kE κ o) σ o 0 := by
  intro j h1 h2
  unfold kE kF
  rw [k_u_ne (by decide), k_r_ne (by decide), k_r_eq, if_neg (show ¬ j < 4 * 0 by omega)]
  exact if_pos ⟨h1, h2⟩
theorem SO_e0 {κ : c_K} {σ : z_S} {o : Int} : SO (kE κ o) σ o 0 := by
  intro j h1 h2
  unfold kE kF
  rw [k_u_ne (by decide), k_r_eq, if_neg (show ¬ j < 0 by omega)]
  exact if_pos ⟨h1, h2⟩
theorem kSo_e {κ : c_K} {o : Int} : kSo κ (kE κ o) o := fun k q j hn => by
  unfold kE kF
  by_cases h16 : k = 16
  · subst h16
    by_cases e2 : q = o
    · subst e2
      rw [k_u_eq]
      unfold z_up
      rw [if_neg (by omega), k_r_ne (by decide), k_r_ne (by decide)]
    · rw [k_u_ni e2, k_r_ne (by decide), k_r_ne (by decide)]
  · rw [k_u_ne h16]
    by_cases h14 : k = 14
    · subst h14
      by_cases e2 : q = o
      · subst e2
        rw [k_r_eq, if_neg (by omega), k_r_ne (by decide)]
      · rw [k_r_ni e2, k_r_ne (by decide)]
    · rw [k_r_ne h14]
      by_cases h12 : k = 12
      · subst h12
        by_cases e2 : q = o
        · subst e2
          rw [k_r_eq, if_neg (by omega)]
        · rw [k_r_ni e2]
      · rw [k_r_ne h12]
theorem kSo_T {κ κ' : c_K} {σ ρ : z_S} {o : Int} (hS : kSo κ κ' o) (h2 : ρ 2 = σ 2) (h1 : ρ 1 = σ 1) (hT : TR κ σ) : TR κ' ρ := by
  unfold TR
  rw [kSo_f hS (k := 5) (by decide), kSo_f hS (k := 4) (by decide), h1, h2]
  exact hT

theorem o_begin2 {G : z_G} {D : Nat} {B : Nat → Int → Nat} {κ : c_K} {h : z_H} (hG : z_OK G) (hJ : cJ B κ) {o c s : Int} (ho : 0 ≤ o ∧ o ≤ 1) (hc : 0 ≤ c ∧ c < 4) : z_T G mX2_begin [.ref (B 4 o), z_i c, z_i s] (cH D B κ h) 1 0 0 (fun v h' => v = none ∧ h' = cH D B (k_u (k_u κ 14 o c s) 16 o 0 (c + 1)) h) (z_no) := by
  refine z_T_of hG pX2_begin (Nat.le_of_ble_eq_true rfl) (ls0 := [(0, .ref (B 4 o)), (1, z_i c), (2, z_i s)]) rfl fun Y hY hg hmc hms hφ hψ => ?_
  subst hg
  refine z_aload hY eX2_begin_0 0 rfl ?_
  refine z_iload hY eX2_begin_1 1 rfl ?_
  refine z_callVr (As := [z_i c]) (rest := []) (r := z_i (z_bl (0 ≤ c ∧ c < 4))) hY eX2_begin_2 (o_isCriterion hG (by omega)) (cH_at (t := 4) (i := o) hJ (by omega)) (by decide) (Nat.le_of_ble_eq_true rfl) ⟨Nat.zero_le _, Nat.zero_le _⟩ ?_
  refine z_ifeqb hY eX2_begin_5 (fun c5 => ?_) (fun c5 => ?_)
  · exact z_return hY eX2_begin_22 rfl (by rw [hφ]; first | (exfalso; omega) | exact ⟨rfl, rfl⟩) ⟨Nat.zero_le _, Nat.zero_le _⟩
  · refine z_aload hY eX2_begin_8 0 rfl ?_
    refine c_gf hY hJ eX2_begin_9 (t := 4) (i := o) (v := .ref (B 6 o)) (by omega) rfl rfl ?_
    refine z_iload hY eX2_begin_12 1 rfl ?_
    refine z_iload hY eX2_begin_13 2 rfl ?_
    refine c_ias hY hJ eX2_begin_14 (t := 6) (N := 4) (key := 14) (i := o) (by decide) rfl (by omega) (fun _ => rfl) (by omega) ?_
    refine z_aload hY eX2_begin_15 0 rfl ?_
    refine z_iload hY eX2_begin_16 1 rfl ?_
    refine z_const hY eX2_begin_17 ?_
    refine z_iadd hY eX2_begin_18 ?_
    refine c_pf hY (cJ_u (by decide) hJ) eX2_begin_19 (key := 16) (t := 4) (i := o) (by decide) rfl ((cL_u (by decide) _ _).mpr (by omega)) rfl (Nat.le_of_ble_eq_true rfl) (by simp [cC, k_u, k_r]) ?_
    exact z_return hY eX2_begin_22 rfl (by rw [hφ]; first | (exfalso; omega) | exact ⟨rfl, rfl⟩) ⟨Nat.zero_le _, Nat.zero_le _⟩
theorem o_addTerm2 {G : z_G} {D : Nat} {B : Nat → Int → Nat} {κ : c_K} {h : z_H} (hG : z_OK G) (hJ : cJ B κ) {o c k f : Int} (ho : 0 ≤ o ∧ o ≤ 1) (hc : 0 ≤ c ∧ c < 4) (hk : 0 ≤ k ∧ k < 4) : z_T G mX2_addTerm [.ref (B 4 o), z_i c, z_i k, z_i f] (cH D B κ h) 1 0 0 (fun v h' => v = none ∧ h' = cH D B (k_u κ 12 o (4 * c + k) (κ 12 o (4 * c + k) + f)) h) (z_no) := by
  refine z_T_of hG pX2_addTerm (Nat.le_of_ble_eq_true rfl) (ls0 := [(0, .ref (B 4 o)), (1, z_i c), (2, z_i k), (3, z_i f)]) rfl fun Y hY hg hmc hms hφ hψ => ?_
  subst hg
  refine z_aload hY eX2_addTerm_0 0 rfl ?_
  refine z_iload hY eX2_addTerm_1 1 rfl ?_
  refine z_callVr (As := [z_i c]) (rest := []) (r := z_i (z_bl (0 ≤ c ∧ c < 4))) hY eX2_addTerm_2 (o_isCriterion hG (by omega)) (cH_at (t := 4) (i := o) hJ (by omega)) (by decide) (Nat.le_of_ble_eq_true rfl) ⟨Nat.zero_le _, Nat.zero_le _⟩ ?_
  refine z_ifeqb hY eX2_addTerm_5 (fun c5 => ?_) (fun c5 => ?_)
  · exact z_return hY eX2_addTerm_31 rfl (by rw [hφ]; first | (exfalso; omega) | exact ⟨rfl, rfl⟩) ⟨Nat.zero_le _, Nat.zero_le _⟩
  · refine z_iload hY eX2_addTerm_8 2 rfl ?_
    refine z_iflt hY eX2_addTerm_9 (by omega) (fun c => by exfalso; omega) (fun c9 => ?_)
    refine z_iload hY eX2_addTerm_12 2 rfl ?_
    refine z_const hY eX2_addTerm_13 ?_
    refine z_icmpge hY eX2_addTerm_14 (by omega) (fun c => by exfalso; omega) (fun c14 => ?_)
    refine z_aload hY eX2_addTerm_17 0 rfl ?_
    refine c_gf hY hJ eX2_addTerm_18 (t := 4) (i := o) (v := .ref (B 5 o)) (by omega) rfl rfl ?_
    refine z_iload hY eX2_addTerm_21 1 rfl ?_
    refine z_const hY eX2_addTerm_22 ?_
    refine z_imul hY eX2_addTerm_23 ?_
    refine z_top (b := 4 * c) (by omega) ?_
    refine z_iload hY eX2_addTerm_24 2 rfl ?_
    refine z_iadd hY eX2_addTerm_25 ?_
    refine z_dup2 hY eX2_addTerm_26 rfl rfl ?_
    refine c_ial hY hJ eX2_addTerm_27 (t := 5) (N := 16) (key := 12) (i := o) (x := κ 12 o (4 * c + k)) (by omega) rfl (by omega) rfl ?_
    refine z_iload hY eX2_addTerm_28 3 rfl ?_
    refine z_iadd hY eX2_addTerm_29 ?_
    refine c_ias hY hJ eX2_addTerm_30 (t := 5) (N := 16) (key := 12) (i := o) (by decide) rfl (by omega) (fun _ => rfl) (by omega) ?_
    exact z_return hY eX2_addTerm_31 rfl (by rw [hφ]; first | (exfalso; omega) | exact ⟨rfl, rfl⟩) ⟨Nat.zero_le _, Nat.zero_le _⟩
theorem o_empty2 {G : z_G} {D : Nat} {B : Nat → Int → Nat} {κ : c_K} {h : z_H} (hG : z_OK G) (hJ : cJ B κ) {o : Int} (ho : 0 ≤ o ∧ o ≤ 1) : z_T G mX2_empty [.ref (B 4 o)] (cH D B κ h) 1 0 0 (fun v h' => v = none ∧ h' = cH D B (kE κ o) h) (z_no) := by
  refine z_T_of hG pX2_empty (Nat.le_of_ble_eq_true rfl) (ls0 := [(0, .ref (B 4 o))]) rfl fun Y hY hg hmc hms hφ hψ => ?_
  subst hg
  refine z_aload hY eX2_empty_0 0 rfl ?_
  refine c_gf hY hJ eX2_empty_1 (t := 4) (i := o) (v := .ref (B 5 o)) (by omega) rfl rfl ?_
  refine z_const hY eX2_empty_4 ?_
  refine z_callS (As := [.ref (B 5 o), z_i 0]) (rest := []) hY eX2_empty_5 (c_fill (t := 5) (N := 16) (key := 12) (i := o) hG hJ (by decide) rfl (by omega) (fun _ => rfl) (by decide)) (by decide) (Nat.le_of_ble_eq_true rfl) ⟨Nat.zero_le _, Nat.zero_le _⟩ (fun _ _ q => q.elim) (fun vv1 hh1 q1 => ?_)
  obtain ⟨rfl, rfl⟩ := q1
  refine z_heq (show _ = cH D B (k_r κ 12 o (fun j => if 0 ≤ j ∧ j < 16 then 0 else κ 12 o j)) h from rfl) ?_
  refine z_aload hY eX2_empty_8 0 rfl ?_
  refine c_gf hY (cJ_r (by decide) hJ) eX2_empty_9 (t := 4) (i := o) (v := .ref (B 6 o)) ((cL_r (by decide) _ _).mpr (by omega)) rfl rfl ?_
  refine z_const hY eX2_empty_12 ?_
  refine z_callS (As := [.ref (B 6 o), z_i 0]) (rest := []) hY eX2_empty_13 (c_fill (t := 6) (N := 4) (key := 14) (i := o) hG (cJ_r (by decide) hJ) (by decide) rfl ((cL_r (by decide) _ _).mpr (by omega)) (fun _ => rfl) (by decide)) (by decide) (Nat.le_of_ble_eq_true rfl) ⟨Nat.zero_le _, Nat.zero_le _⟩ (fun _ _ q => q.elim) (fun vv2 hh2 q2 => ?_)
  obtain ⟨rfl, rfl⟩ := q2
  refine z_heq (show _ = cH D B (k_r (k_r κ 12 o (fun j => if 0 ≤ j ∧ j < 16 then 0 else κ 12 o j)) 14 o (fun j => if 0 ≤ j ∧ j < 4 then 0 else (k_r κ 12 o (fun j => if 0 ≤ j ∧ j < 16 then 0 else κ 12 o j)) 14 o j)) h from rfl) ?_
  refine z_aload hY eX2_empty_16 0 rfl ?_
  refine z_const hY eX2_empty_17 ?_
  refine c_pf hY (cJ_r (by decide) (cJ_r (by decide) hJ)) eX2_empty_18 (key := 16) (t := 4) (i := o) (by decide) rfl ((cL_r (by decide) _ _).mpr ((cL_r (by decide) _ _).mpr (by omega))) rfl (Nat.le_of_ble_eq_true rfl) (by simp [cC, k_u, k_r]) ?_
  exact z_return hY eX2_empty_21 rfl (by rw [hφ]; exact ⟨rfl, rfl⟩) ⟨Nat.zero_le _, Nat.zero_le _⟩
theorem r_readTerm {G : z_G} {D : Nat} {B : Nat → Int → Nat} {κ : c_K} {h : z_H} (hG : z_OK G) (hJ : cJ B κ) {σ : z_S} (hT : TR κ σ) (hK : Rk κ σ) (hP : mP σ) (hRg : kRg κ) {o c s : Int} (ho : 0 ≤ o ∧ o ≤ 1) (hc : c = σ 13 0 ∧ 0 ≤ c ∧ c ≤ 3) (hs : -1 ≤ s ∧ s ≤ 1) (hF : FO κ σ o (c + 1)) : z_T G mX3_readTerm [.ref (B 3 0), .ref (B 4 o), z_i c, z_i s] (cH D B κ h) 3 0 0 (fun v h' => ∃ κ' : c_K, v = some (z_i (yRt σ s).1) ∧ h' = cH D B κ' h ∧ kSt κ κ' o ∧ kRg κ' ∧ Rk κ' (yRt σ s).2 ∧ TR κ' (yRt σ s).2 ∧ FO κ' (yRt σ s).2 o (c + 1)) (z_no) := by
  have hS0 : kSt κ κ o := kSt_m (fun _ _ => rfl)
  refine z_T_of hG pX3_readTerm (Nat.le_of_ble_eq_true rfl) (ls0 := [(0, .ref (B 3 0)), (1, .ref (B 4 o)), (2, z_i c), (3, z_i s)]) rfl fun Y hY hg hmc hms hφ hψ => ?_
  subst hg
  obtain ⟨-, hk4_1, -, hk2_1, hk3_1, -, -, -⟩ := id hK
  have hg6_1 := hRg 6 (by decide) (by decide)
  have hg9_1 := hRg 9 (by decide) (by decide)
  have hg10_1 := hRg 10 (by decide) (by decide)
  refine z_iload hY eX3_readTerm_0 3 rfl ?_
  refine z_istore hY eX3_readTerm_1 (ls' := [(4, z_i s), (0, .ref (B 3 0)), (1, .ref (B 4 o)), (2, z_i c), (3, z_i s)]) rfl ?_
  refine z_aload hY eX3_readTerm_3 1 rfl ?_
  refine c_gf hY hJ eX3_readTerm_4 (t := 3) (i := 0) (v := z_i (κ 6 0 0)) (by omega) rfl rfl ?_
  refine z_const hY eX3_readTerm_7 ?_
  have htk2 := tk_n hK
  refine z_icmpne hY eX3_readTerm_10 (by omega) (fun c10 => ?_) (fun c10 => ?_)
  · refine z_aload hY eX3_readTerm_40 1 rfl ?_
    refine c_gf hY hJ eX3_readTerm_41 (t := 3) (i := 0) (v := z_i (κ 6 0 0)) (by omega) rfl rfl ?_
    refine z_const hY eX3_readTerm_44 ?_
    have htk3 := tk_k hK
    refine z_icmpeq hY eX3_readTerm_47 (by omega) (fun c47 => ?_) (fun c47 => ?_)
    · refine z_aload hY eX3_readTerm_52 2 rfl ?_
      refine z_iload hY eX3_readTerm_53 3 rfl ?_
      refine z_aload hY eX3_readTerm_54 1 rfl ?_
      refine c_gf hY hJ eX3_readTerm_55 (t := 3) (i := 0) (v := z_i (κ 10 0 0)) (by omega) rfl rfl ?_
      refine z_iload hY eX3_readTerm_58 0 rfl ?_
      refine z_callV (As := [z_i c, z_i (κ 10 0 0), z_i s]) (rest := []) hY eX3_readTerm_60 (o_addTerm2 (κ := κ) (o := o) hG hJ ho (by omega) (by omega)) (cH_at (t := 4) (i := o) hJ (by omega)) (by decide) (Nat.le_of_ble_eq_true rfl) ⟨Nat.zero_le _, Nat.zero_le _⟩ (fun _ _ q => q.elim) (fun vv4 hh4 q4 => ?_)
      obtain ⟨rfl, rfl⟩ := q4
      have hFn5 : FO (k_u κ 12 o (4 * c + κ 10 0 0) (κ 12 o (4 * c + κ 10 0 0) + s)) (z_u σ 9 (4 * σ 13 0 + σ 6 0 - 97) (σ 9 (4 * σ 13 0 + σ 6 0 - 97) + s * 1)) o (c + 1) := FO_add hF (by omega) (by omega) ((Int.mul_one s).symm)
      have hSo5 : kSt κ (k_u κ 12 o (4 * c + κ 10 0 0) (κ 12 o (4 * c + κ 10 0 0) + s)) o := kSt_t hS0 (kSt_u (by omega))
      have hRn5 : kRg (k_u κ 12 o (4 * c + κ 10 0 0) (κ 12 o (4 * c + κ 10 0 0) + s)) := kRg_u (by decide) hRg
      have hKn5 : Rk (k_u κ 12 o (4 * c + κ 10 0 0) (κ 12 o (4 * c + κ 10 0 0) + s)) (z_u σ 9 (4 * σ 13 0 + σ 6 0 - 97) (σ 9 (4 * σ 13 0 + σ 6 0 - 97) + s * 1)) := Rk_u (by decide) hK
      have hTn5 : TR (k_u κ 12 o (4 * c + κ 10 0 0) (κ 12 o (4 * c + κ 10 0 0) + s)) (z_u σ 9 (4 * σ 13 0 + σ 6 0 - 97) (σ 9 (4 * σ 13 0 + σ 6 0 - 97) + s * 1)) := TR_u (by decide) hT
      have hPn5 : mP (z_u σ 9 (4 * σ 13 0 + σ 6 0 - 97) (σ 9 (4 * σ 13 0 + σ 6 0 - 97) + s * 1)) := mP_u9 hP
      refine z_aload hY eX3_readTerm_63 1 rfl ?_
      refine z_callV (As := []) (rest := []) hY eX3_readTerm_64 (r_readToken (κ := k_u κ 12 o (4 * c + κ 10 0 0) (κ 12 o (4 * c + κ 10 0 0) + s)) (σ := z_u σ 9 (4 * σ 13 0 + σ 6 0 - 97) (σ 9 (4 * σ 13 0 + σ 6 0 - 97) + s * 1)) hG (cJ_u (by decide) hJ) hTn5 hPn5.1 (hKn5.2.2.2.2.2.2.1) hRn5) (cH_at (t := 3) (i := 0) (cJ_u (by decide) hJ) ((cL_u (by decide) _ _).mpr (by omega))) (by decide) (Nat.le_of_ble_eq_true rfl) ⟨Nat.zero_le _, Nat.zero_le _⟩ (fun _ _ q => q.elim) (fun vv6 hh6 q6 => ?_)
      obtain ⟨rfl, κ6, rfl, hSn6, hRn6, hKn6, hTn6⟩ := q6
      have hJn6 : cJ B κ6 := kSm_J hSn6 (cJ_u (by decide) hJ)
      have hPn6 : mP (yRd (z_u σ 9 (4 * σ 13 0 + σ 6 0 - 97) (σ 9 (4 * σ 13 0 + σ 6 0 - 97) + s * 1))) := mP_r hPn5
      have hk13_6 : (yRd (z_u σ 9 (4 * σ 13 0 + σ 6 0 - 97) (σ 9 (4 * σ 13 0 + σ 6 0 - 97) + s * 1))) 13 0 = (z_u σ 9 (4 * σ 13 0 + σ 6 0 - 97) (σ 9 (4 * σ 13 0 + σ 6 0 - 97) + s * 1)) 13 0 := congrFun (yRd_k (by decide)) 0
      have hSo6 : kSt κ κ6 o := kSt_t hSo5 (kSt_m hSn6)
      have hFn6 := FO_m (κ' := κ6) (ρ := yRd (z_u σ 9 (4 * σ 13 0 + σ 6 0 - 97) (σ 9 (4 * σ 13 0 + σ 6 0 - 97) + s * 1))) (by rw [hSn6 12 (by decide)]) (yRd_k (by decide)) hFn5
      obtain ⟨-, hk4_7, -, hk2_7, hk3_7, -, -, -⟩ := id hKn6
      have hg6_7 := hRn6 6 (by decide) (by decide)
      have hg9_7 := hRn6 9 (by decide) (by decide)
      have hg10_7 := hRn6 10 (by decide) (by decide)
      refine z_const hY eX3_readTerm_67 ?_
      exact z_zreturn hY eX3_readTerm_68 rfl (by omega) (by rw [hφ]; have ee : yRt σ s = (1, yRd (z_u σ 9 (4 * σ 13 0 + σ 6 0 - 97) (σ 9 (4 * σ 13 0 + σ 6 0 - 97) + s * 1))) := (by unfold yRt yTt; first | (rw [if_pos (by omega), if_pos (by omega), if_neg (by omega)]; done) | (rw [if_neg (by omega), if_neg (by omega)]; done)); exact ⟨_, by rw [ee], rfl, hSo6, hRn6, by rw [ee]; exact hKn6, by rw [ee]; exact hTn6, by rw [ee]; exact hFn6⟩) ⟨Nat.zero_le _, Nat.zero_le _⟩
    · refine z_const hY eX3_readTerm_50 ?_
      exact z_zreturn hY eX3_readTerm_51 rfl (by omega) (by rw [hφ]; have ee : yRt σ s = (0, σ) := (by unfold yRt yTt; first | (rw [if_pos (by omega), if_pos (by omega), if_pos (by omega)]; done) | (rw [if_neg (by omega), if_pos (by omega)]; done)); exact ⟨_, by rw [ee], rfl, hS0, hRg, by rw [ee]; exact hK, by rw [ee]; exact hT, by rw [ee]; exact hF⟩) ⟨Nat.zero_le _, Nat.zero_le _⟩
  · refine z_iload hY eX3_readTerm_13 4 rfl ?_
    refine z_aload hY eX3_readTerm_14 1 rfl ?_
    refine c_gf hY hJ eX3_readTerm_15 (t := 3) (i := 0) (v := z_i (κ 9 0 0)) (by omega) rfl rfl ?_
    refine z_imul hY eX3_readTerm_18 ?_
    refine z_istore hY eX3_readTerm_19 (ls' := [(4, z_i (s * (κ 9 0 0))), (0, .ref (B 3 0)), (1, .ref (B 4 o)), (2, z_i c), (3, z_i s)]) rfl ?_
    refine z_aload hY eX3_readTerm_21 1 rfl ?_
    refine z_callV (As := []) (rest := []) hY eX3_readTerm_22 (r_readToken (κ := κ) (σ := σ) hG hJ hT hP.1 (hK.2.2.2.2.2.2.1) hRg) (cH_at (t := 3) (i := 0) hJ (by omega)) (by decide) (Nat.le_of_ble_eq_true rfl) ⟨Nat.zero_le _, Nat.zero_le _⟩ (fun _ _ q => q.elim) (fun vv8 hh8 q8 => ?_)
    obtain ⟨rfl, κ8, rfl, hSn8, hRn8, hKn8, hTn8⟩ := q8
    have hJn8 : cJ B κ8 := kSm_J hSn8 hJ
    have hPn8 : mP (yRd σ) := mP_r hP
    have hk13_8 : (yRd σ) 13 0 = σ 13 0 := congrFun (yRd_k (by decide)) 0
    have hSo8 : kSt κ κ8 o := kSt_t hS0 (kSt_m hSn8)
    have hFn8 := FO_m (κ' := κ8) (ρ := yRd σ) (by rw [hSn8 12 (by decide)]) (yRd_k (by decide)) hF
    obtain ⟨-, hk4_9, -, hk2_9, hk3_9, -, -, -⟩ := id hKn8
    have hg6_9 := hRn8 6 (by decide) (by decide)
    have hg9_9 := hRn8 9 (by decide) (by decide)
    have hg10_9 := hRn8 10 (by decide) (by decide)
    refine z_aload hY eX3_readTerm_25 1 rfl ?_
    refine c_gf hY hJn8 eX3_readTerm_26 (t := 3) (i := 0) (v := z_i (κ8 6 0 0)) (by omega) rfl rfl ?_
    refine z_const hY eX3_readTerm_29 ?_
    have htk10 := tk_s hKn8 (b := 42) (by decide)
    refine z_icmpeq hY eX3_readTerm_31 (by omega) (fun c31 => ?_) (fun c31 => ?_)
    · refine z_aload hY eX3_readTerm_36 1 rfl ?_
      refine z_callV (As := []) (rest := []) hY eX3_readTerm_37 (r_readToken (κ := κ8) (σ := yRd σ) hG hJn8 hTn8 hPn8.1 (hKn8.2.2.2.2.2.2.1) hRn8) (cH_at (t := 3) (i := 0) hJn8 (by omega)) (by decide) (Nat.le_of_ble_eq_true rfl) ⟨Nat.zero_le _, Nat.zero_le _⟩ (fun _ _ q => q.elim) (fun vv11 hh11 q11 => ?_)
      obtain ⟨rfl, κ11, rfl, hSn11, hRn11, hKn11, hTn11⟩ := q11
      have hJn11 : cJ B κ11 := kSm_J hSn11 hJn8
      have hPn11 : mP (yRd (yRd σ)) := mP_r hPn8
      have hk13_11 : (yRd (yRd σ)) 13 0 = (yRd σ) 13 0 := congrFun (yRd_k (by decide)) 0
      have hSo11 : kSt κ κ11 o := kSt_t hSo8 (kSt_m hSn11)
      have hFn11 := FO_m (κ' := κ11) (ρ := yRd (yRd σ)) (by rw [hSn11 12 (by decide)]) (yRd_k (by decide)) hFn8
      obtain ⟨-, hk4_12, -, hk2_12, hk3_12, -, -, -⟩ := id hKn11
      have hg6_12 := hRn11 6 (by decide) (by decide)
      have hg9_12 := hRn11 9 (by decide) (by decide)
      have hg10_12 := hRn11 10 (by decide) (by decide)
      refine z_aload hY eX3_readTerm_40 1 rfl ?_
      refine c_gf hY hJn11 eX3_readTerm_41 (t := 3) (i := 0) (v := z_i (κ11 6 0 0)) (by omega) rfl rfl ?_
      refine z_const hY eX3_readTerm_44 ?_
      have htk13 := tk_k hKn11
      refine z_icmpeq hY eX3_readTerm_47 (by omega) (fun c47 => ?_) (fun c47 => ?_)
      · refine z_aload hY eX3_readTerm_52 2 rfl ?_
        refine z_iload hY eX3_readTerm_53 3 rfl ?_
        refine z_aload hY eX3_readTerm_54 1 rfl ?_
        refine c_gf hY hJn11 eX3_readTerm_55 (t := 3) (i := 0) (v := z_i (κ11 10 0 0)) (by omega) rfl rfl ?_
        refine z_iload hY eX3_readTerm_58 0 rfl ?_
        refine z_callV (As := [z_i c, z_i (κ11 10 0 0), z_i (s * (κ 9 0 0))]) (rest := []) hY eX3_readTerm_60 (o_addTerm2 (κ := κ11) (o := o) hG hJn11 ho (by omega) (by omega)) (cH_at (t := 4) (i := o) hJn11 (by omega)) (by decide) (Nat.le_of_ble_eq_true rfl) ⟨Nat.zero_le _, Nat.zero_le _⟩ (fun _ _ q => q.elim) (fun vv14 hh14 q14 => ?_)
        obtain ⟨rfl, rfl⟩ := q14
        have hFn15 : FO (k_u κ11 12 o (4 * c + κ11 10 0 0) (κ11 12 o (4 * c + κ11 10 0 0) + (s * (κ 9 0 0)))) (z_u (yRd (yRd σ)) 9 (4 * (yRd (yRd σ)) 13 0 + (yRd (yRd σ)) 6 0 - 97) ((yRd (yRd σ)) 9 (4 * (yRd (yRd σ)) 13 0 + (yRd (yRd σ)) 6 0 - 97) + s * σ 6 0)) o (c + 1) := FO_add hFn11 (by omega) (by omega) (by rw [(hK.2.2.2.1 (by omega)).1])
        have hSo15 : kSt κ (k_u κ11 12 o (4 * c + κ11 10 0 0) (κ11 12 o (4 * c + κ11 10 0 0) + (s * (κ 9 0 0)))) o := kSt_t hSo11 (kSt_u (by omega))
        have hRn15 : kRg (k_u κ11 12 o (4 * c + κ11 10 0 0) (κ11 12 o (4 * c + κ11 10 0 0) + (s * (κ 9 0 0)))) := kRg_u (by decide) hRn11
        have hKn15 : Rk (k_u κ11 12 o (4 * c + κ11 10 0 0) (κ11 12 o (4 * c + κ11 10 0 0) + (s * (κ 9 0 0)))) (z_u (yRd (yRd σ)) 9 (4 * (yRd (yRd σ)) 13 0 + (yRd (yRd σ)) 6 0 - 97) ((yRd (yRd σ)) 9 (4 * (yRd (yRd σ)) 13 0 + (yRd (yRd σ)) 6 0 - 97) + s * σ 6 0)) := Rk_u (by decide) hKn11
        have hTn15 : TR (k_u κ11 12 o (4 * c + κ11 10 0 0) (κ11 12 o (4 * c + κ11 10 0 0) + (s * (κ 9 0 0)))) (z_u (yRd (yRd σ)) 9 (4 * (yRd (yRd σ)) 13 0 + (yRd (yRd σ)) 6 0 - 97) ((yRd (yRd σ)) 9 (4 * (yRd (yRd σ)) 13 0 + (yRd (yRd σ)) 6 0 - 97) + s * σ 6 0)) := TR_u (by decide) hTn11
        have hPn15 : mP (z_u (yRd (yRd σ)) 9 (4 * (yRd (yRd σ)) 13 0 + (yRd (yRd σ)) 6 0 - 97) ((yRd (yRd σ)) 9 (4 * (yRd (yRd σ)) 13 0 + (yRd (yRd σ)) 6 0 - 97) + s * σ 6 0)) := mP_u9 hPn11
        refine z_aload hY eX3_readTerm_63 1 rfl ?_
        refine z_callV (As := []) (rest := []) hY eX3_readTerm_64 (r_readToken (κ := k_u κ11 12 o (4 * c + κ11 10 0 0) (κ11 12 o (4 * c + κ11 10 0 0) + (s * (κ 9 0 0)))) (σ := z_u (yRd (yRd σ)) 9 (4 * (yRd (yRd σ)) 13 0 + (yRd (yRd σ)) 6 0 - 97) ((yRd (yRd σ)) 9 (4 * (yRd (yRd σ)) 13 0 + (yRd (yRd σ)) 6 0 - 97) + s * σ 6 0)) hG (cJ_u (by decide) hJn11) hTn15 hPn15.1 (hKn15.2.2.2.2.2.2.1) hRn15) (cH_at (t := 3) (i := 0) (cJ_u (by decide) hJn11) ((cL_u (by decide) _ _).mpr (by omega))) (by decide) (Nat.le_of_ble_eq_true rfl) ⟨Nat.zero_le _, Nat.zero_le _⟩ (fun _ _ q => q.elim) (fun vv16 hh16 q16 => ?_)
        obtain ⟨rfl, κ16, rfl, hSn16, hRn16, hKn16, hTn16⟩ := q16
        have hJn16 : cJ B κ16 := kSm_J hSn16 (cJ_u (by decide) hJn11)
        have hPn16 : mP (yRd (z_u (yRd (yRd σ)) 9 (4 * (yRd (yRd σ)) 13 0 + (yRd (yRd σ)) 6 0 - 97) ((yRd (yRd σ)) 9 (4 * (yRd (yRd σ)) 13 0 + (yRd (yRd σ)) 6 0 - 97) + s * σ 6 0))) := mP_r hPn15
        have hk13_16 : (yRd (z_u (yRd (yRd σ)) 9 (4 * (yRd (yRd σ)) 13 0 + (yRd (yRd σ)) 6 0 - 97) ((yRd (yRd σ)) 9 (4 * (yRd (yRd σ)) 13 0 + (yRd (yRd σ)) 6 0 - 97) + s * σ 6 0))) 13 0 = (z_u (yRd (yRd σ)) 9 (4 * (yRd (yRd σ)) 13 0 + (yRd (yRd σ)) 6 0 - 97) ((yRd (yRd σ)) 9 (4 * (yRd (yRd σ)) 13 0 + (yRd (yRd σ)) 6 0 - 97) + s * σ 6 0)) 13 0 := congrFun (yRd_k (by decide)) 0
        have hSo16 : kSt κ κ16 o := kSt_t hSo15 (kSt_m hSn16)
        have hFn16 := FO_m (κ' := κ16) (ρ := yRd (z_u (yRd (yRd σ)) 9 (4 * (yRd (yRd σ)) 13 0 + (yRd (yRd σ)) 6 0 - 97) ((yRd (yRd σ)) 9 (4 * (yRd (yRd σ)) 13 0 + (yRd (yRd σ)) 6 0 - 97) + s * σ 6 0))) (by rw [hSn16 12 (by decide)]) (yRd_k (by decide)) hFn15
        obtain ⟨-, hk4_17, -, hk2_17, hk3_17, -, -, -⟩ := id hKn16
        have hg6_17 := hRn16 6 (by decide) (by decide)
        have hg9_17 := hRn16 9 (by decide) (by decide)
        have hg10_17 := hRn16 10 (by decide) (by decide)
        refine z_const hY eX3_readTerm_67 ?_
        exact z_zreturn hY eX3_readTerm_68 rfl (by omega) (by rw [hφ]; have ee : yRt σ s = (1, yRd (z_u (yRd (yRd σ)) 9 (4 * (yRd (yRd σ)) 13 0 + (yRd (yRd σ)) 6 0 - 97) ((yRd (yRd σ)) 9 (4 * (yRd (yRd σ)) 13 0 + (yRd (yRd σ)) 6 0 - 97) + s * σ 6 0))) := (by unfold yRt yTt; first | (rw [if_pos (by omega), if_pos (by omega), if_neg (by omega)]; done) | (rw [if_neg (by omega), if_neg (by omega)]; done)); exact ⟨_, by rw [ee], rfl, hSo16, hRn16, by rw [ee]; exact hKn16, by rw [ee]; exact hTn16, by rw [ee]; exact hFn16⟩) ⟨Nat.zero_le _, Nat.zero_le _⟩
      · refine z_const hY eX3_readTerm_50 ?_
        exact z_zreturn hY eX3_readTerm_51 rfl (by omega) (by rw [hφ]; have ee : yRt σ s = (0, yRd (yRd σ)) := (by unfold yRt yTt; first | (rw [if_pos (by omega), if_pos (by omega), if_pos (by omega)]; done) | (rw [if_neg (by omega), if_pos (by omega)]; done)); exact ⟨_, by rw [ee], rfl, hSo11, hRn11, by rw [ee]; exact hKn11, by rw [ee]; exact hTn11, by rw [ee]; exact hFn11⟩) ⟨Nat.zero_le _, Nat.zero_le _⟩
    · refine z_const hY eX3_readTerm_34 ?_
      exact z_zreturn hY eX3_readTerm_35 rfl (by omega) (by rw [hφ]; have ee : yRt σ s = (0, yRd σ) := (by unfold yRt; rw [if_pos (by omega), if_neg (by omega)]); exact ⟨_, by rw [ee], rfl, hSo8, hRn8, by rw [ee]; exact hKn8, by rw [ee]; exact hTn8, by rw [ee]; exact hFn8⟩) ⟨Nat.zero_le _, Nat.zero_le _⟩
theorem r_readCriterion {G : z_G} {D : Nat} {B : Nat → Int → Nat} {κ : c_K} {h : z_H} (hG : z_OK G) (hJ : cJ B κ) {σ : z_S} (hT : TR κ σ) (hK : Rk κ σ) (hP : mP σ) (hRg : kRg κ) {o c : Int} (ho : 0 ≤ o ∧ o ≤ 1) (hc : c = σ 13 0 ∧ 0 ≤ c ∧ c ≤ 3) (hF : FO κ σ o c) (hS1 : SO κ σ o c) : z_T G mX3_readCriterion [.ref (B 3 0), .ref (B 4 o), z_i c] (cH D B κ h) 4 0 0 (fun v h' => ∃ κ' : c_K, v = some (z_i (yRc σ).1) ∧ h' = cH D B κ' h ∧ kSo κ κ' o ∧ kRg κ' ∧ Rk κ' (yRc σ).2 ∧ TR κ' (yRc σ).2 ∧ ((yRc σ).1 ≠ 0 → FO κ' (yRc σ).2 o (c + 1) ∧ SO κ' (yRc σ).2 o (c + 1) ∧ κ' 16 o 0 = c + 1) ∧ (∃ n, FO κ' (yRc σ).2 o n ∧ SO κ' (yRc σ).2 o n) ∧ (κ' 16 o 0 = κ 16 o 0 ∨ (0 ≤ κ' 16 o 0 ∧ κ' 16 o 0 ≤ 4))) (z_no) := by
  have hS0 : kSo κ κ o := kSo_m (fun _ _ => rfl)
  refine z_T_of hG pX3_readCriterion (Nat.le_of_ble_eq_true rfl) (ls0 := [(0, .ref (B 3 0)), (1, .ref (B 4 o)), (2, z_i c)]) rfl fun Y hY hg hmc hms hφ hψ => ?_
  subst hg
  obtain ⟨-, hk4_1, -, hk2_1, hk3_1, -, -, -⟩ := id hK
  have hg6_1 := hRg 6 (by decide) (by decide)
  have hg9_1 := hRg 9 (by decide) (by decide)
  have hg10_1 := hRg 10 (by decide) (by decide)
  refine z_aload hY eX3_readCriterion_0 0 rfl ?_
  refine c_gf hY hJ eX3_readCriterion_1 (t := 3) (i := 0) (v := z_i (κ 6 0 0)) (by omega) rfl rfl ?_
  refine z_const hY eX3_readCriterion_4 ?_
  have htk2 := tk_s hK (b := 62) (by decide)
  refine z_icmpeq hY eX3_readCriterion_6 (by omega) (fun c6 => ?_) (fun c6 => ?_)
  · have hgo : yGo σ := by omega
    have hJn3 : z_W Y 36 [(0, .ref (B 3 0)), (1, .ref (B 4 o)), (2, z_i c)] [z_i (if σ 6 0 = 62 then 1 else -1), z_i c, .ref (B 4 o)] (cH D B κ h) 0 0 := by
      refine z_callV (As := [z_i c, z_i (if σ 6 0 = 62 then 1 else -1)]) (rest := []) hY eX3_readCriterion_36 (o_begin2 (κ := κ) (o := o) hG hJ ho (by omega)) (cH_at (t := 4) (i := o) hJ (by omega)) (by decide) (Nat.le_of_ble_eq_true rfl) ⟨Nat.zero_le _, Nat.zero_le _⟩ (fun _ _ q => q.elim) (fun vv4 hh4 q4 => ?_)
      obtain ⟨rfl, rfl⟩ := q4
      have hSb : kSo κ (k_u (k_u κ 14 o c (if σ 6 0 = 62 then 1 else -1)) 16 o 0 (c + 1)) o := kSo_t (kSo_u (Or.inr (Or.inl ⟨rfl, by omega⟩))) (kSo_u (Or.inr (Or.inr ⟨rfl, rfl⟩)))
      have hRb : kRg (k_u (k_u κ 14 o c (if σ 6 0 = 62 then 1 else -1)) 16 o 0 (c + 1)) := kRg_u (by decide) (kRg_u (by decide) hRg)
      have hTb : TR (k_u (k_u κ 14 o c (if σ 6 0 = 62 then 1 else -1)) 16 o 0 (c + 1)) (yC0 σ) := TR_u (by decide) (TR_u (by decide) (show TR κ (yC0 σ) from hT))
      have hKb : Rk (k_u (k_u κ 14 o c (if σ 6 0 = 62 then 1 else -1)) 16 o 0 (c + 1)) (yC0 σ) := Rk_u (by decide) (Rk_u (by decide) (show Rk κ (yC0 σ) from hK))
      have hPb : mP (yC0 σ) := hP
      have hFb := FO_c0 (s := if σ 6 0 = 62 then 1 else -1) hF hc
      have hOb := SO_c0 hS1 hc
      have h16b : (k_u (k_u κ 14 o c (if σ 6 0 = 62 then 1 else -1)) 16 o 0 (c + 1)) 16 o 0 = c + 1 := k_u_at
      have h13b : yC0 σ 13 0 = c := hc.1.symm
      refine z_aload hY eX3_readCriterion_39 0 rfl ?_
      refine z_callV (As := []) (rest := []) hY eX3_readCriterion_40 (r_readToken (κ := k_u (k_u κ 14 o c (if σ 6 0 = 62 then 1 else -1)) 16 o 0 (c + 1)) (σ := yC0 σ) hG (cJ_u (by decide) (cJ_u (by decide) hJ)) hTb hPb.1 (hKb.2.2.2.2.2.2.1) hRb) (cH_at (t := 3) (i := 0) (cJ_u (by decide) (cJ_u (by decide) hJ)) ((cL_u (by decide) _ _).mpr ((cL_u (by decide) _ _).mpr (by omega)))) (by decide) (Nat.le_of_ble_eq_true rfl) ⟨Nat.zero_le _, Nat.zero_le _⟩ (fun _ _ q => q.elim) (fun vv5 hh5 q5 => ?_)
      obtain ⟨rfl, κ5, rfl, hSn5, hRn5, hKn5, hTn5⟩ := q5
      have hJn5 : cJ B κ5 := kSm_J hSn5 (cJ_u (by decide) (cJ_u (by decide) hJ))
      have hPn5 : mP (yRd (yC0 σ)) := mP_r hPb
      have hk13_5 : (yRd (yC0 σ)) 13 0 = (yC0 σ) 13 0 := congrFun (yRd_k (by decide)) 0
      have hSo5 : kSo κ κ5 o := kSo_t hSb (kSo_m hSn5)
      have hFn5 := FO_m (κ' := κ5) (ρ := yRd (yC0 σ)) (by rw [hSn5 12 (by decide)]) (yRd_k (by decide)) hFb
      have hOn5 := SO_m (κ' := κ5) (ρ := yRd (yC0 σ)) (by rw [hSn5 14 (by decide)]) (yRd_k (by decide)) hOb
      have h16_5 := (congrFun (congrFun (hSn5 16 (by decide)) o) 0).trans h16b
      have h13_5 := hk13_5.trans h13b
      obtain ⟨-, hk4_6, -, hk2_6, hk3_6, -, -, -⟩ := id hKn5
      have hg6_6 := hRn5 6 (by decide) (by decide)
      have hg9_6 := hRn5 9 (by decide) (by decide)
      have hg10_6 := hRn5 10 (by decide) (by decide)
      refine z_const hY eX3_readCriterion_43 ?_
      refine z_istore hY eX3_readCriterion_44 (ls' := [(3, z_i 1), (0, .ref (B 3 0)), (1, .ref (B 4 o)), (2, z_i c)]) rfl ?_
      refine z_const hY eX3_readCriterion_45 ?_
      refine z_istore hY eX3_readCriterion_46 (ls' := [(4, z_i 0), (3, z_i 1), (0, .ref (B 3 0)), (1, .ref (B 4 o)), (2, z_i c)]) rfl ?_
      refine z_sub [2, 3, 4, 0, 1] (ls' := [(0, .ref (B 3 0)), (1, .ref (B 4 o)), (2, z_i c), (4, z_i 0), (3, z_i 1)]) rfl ?_
      have lp : ∀ (fu : Nat) (i t : Int) (κ2 : c_K) (μ : z_S), (4 - i).toNat < fu → (0 ≤ i ∧ i ≤ 4 ∧ -1 ≤ t ∧ t ≤ 1) → kSo κ κ2 o → kRg κ2 → Rk κ2 μ → TR κ2 μ → mP μ → FO κ2 μ o (c + 1) → SO κ2 μ o (c + 1) → (κ2 16 o 0 = c + 1) → μ 13 0 = c → cTl (4 - i).toNat μ t = cTl 4 (yRd (yC0 σ)) 1 → cJ B κ2 → z_W Y 48 [(0, .ref (B 3 0)), (1, .ref (B 4 o)), (2, z_i c), (4, z_i i), (3, z_i t)] [] (cH D B κ2 h) 0 0 := by
        intro fu
        induction fu with
        | zero => intro i t κ2 μ hf; exact absurd hf (Nat.not_lt_zero _)
        | succ fu ih =>
          intro i t κ2 μ hf h0 gS gR gK gT gP gF gO g16 g13 hn gJ
          obtain ⟨-, hk4_7, -, hk2_7, hk3_7, -, -, -⟩ := id gK
          have hg6_7 := gR 6 (by decide) (by decide)
          have hg9_7 := gR 9 (by decide) (by decide)
          have hg10_7 := gR 10 (by decide) (by decide)
          refine z_iload hY eX3_readCriterion_48 3 rfl ?_
          refine z_const hY eX3_readCriterion_50 ?_
          refine z_icmpge hY eX3_readCriterion_51 (by omega) (fun c51 => ?_) (fun c51 => ?_)
          · refine z_const hY eX3_readCriterion_111 ?_
            exact z_zreturn hY eX3_readCriterion_112 rfl (by omega) (by rw [hφ]; have ee : yRc σ = (0, μ) := (by rw [yRc_cTl, if_pos hgo]; unfold yNc; rw [← hn, cTl_0 (by omega)]; rfl); exact ⟨_, by rw [ee], rfl, gS, gR, by rw [ee]; exact gK, by rw [ee]; exact gT, fun hne => absurd (by rw [ee]) hne, by rw [ee]; exact ⟨_, FO_m rfl rfl gF, SO_m rfl rfl gO⟩, Or.inr (by rw [g16]; omega)⟩) ⟨Nat.zero_le _, Nat.zero_le _⟩
          · refine z_aload hY eX3_readCriterion_54 0 rfl ?_
            refine z_aload hY eX3_readCriterion_55 1 rfl ?_
            refine z_iload hY eX3_readCriterion_56 2 rfl ?_
            refine z_iload hY eX3_readCriterion_57 4 rfl ?_
            refine z_callV (As := [.ref (B 4 o), z_i c, z_i t]) (rest := []) hY eX3_readCriterion_58 (r_readTerm (κ := κ2) (σ := μ) (o := o) (c := c) (s := t) hG gJ gT gK gP gR ho (by have := g13; omega) (by omega) gF) (cH_at (t := 3) (i := 0) gJ (by omega)) (by decide) (Nat.le_of_ble_eq_true rfl) ⟨Nat.zero_le _, Nat.zero_le _⟩ (fun _ _ q => q.elim) (fun vv8 hh8 q8 => ?_)
            obtain ⟨κ8, rfl, rfl, hSn8, hRn8, hKn8, hTn8, hFn8⟩ := q8
            have hJn8 : cJ B κ8 := kSt_J hSn8 gJ
            have hPn8 : mP (yRt μ t).2 := mP_yRt gP _
            have h01_8 := yRt_01 μ t
            have hSo8 : kSo κ κ8 o := kSo_t gS (kSo_St hSn8)
            have hOn8 := SO_m (κ' := κ8) (ρ := (yRt μ t).2) (by rw [kSt_f hSn8 (k := 14) (by decide)]) (yRt_k (by decide)) gO
            have h16_8 := (congrFun (congrFun (kSt_f hSn8 (k := 16) (by decide)) o) 0).trans g16
            have h13_8 := (congrFun (yRt_k (σ := μ) (s := t) (k := 13) (by decide)) 0).trans g13
            obtain ⟨-, hk4_9, -, hk2_9, hk3_9, -, -, -⟩ := id hKn8
            have hg6_9 := hRn8 6 (by decide) (by decide)
            have hg9_9 := hRn8 9 (by decide) (by decide)
            have hg10_9 := hRn8 10 (by decide) (by decide)
            refine z_ifne hY eX3_readCriterion_61 (by omega) (fun c61 => ?_) (fun c61 => ?_)
            · refine z_aload hY eX3_readCriterion_66 0 rfl ?_
              refine c_gf hY hJn8 eX3_readCriterion_67 (t := 3) (i := 0) (v := z_i (κ8 6 0 0)) (by omega) rfl rfl ?_
              refine z_const hY eX3_readCriterion_70 ?_
              have htk10 := tk_s hKn8 (b := 43) (by decide)
              refine z_icmpeq hY eX3_readCriterion_72 (by omega) (fun c72 => ?_) (fun c72 => ?_)
              · have hsg : -1 ≤ ySg ((yRt μ t).2) ∧ ySg ((yRt μ t).2) ≤ 1 := by unfold ySg; split <;> omega
                have hsgn : ((yRt μ t).2) 4 0 = 1 ∧ (((yRt μ t).2) 6 0 = 43 ∨ ((yRt μ t).2) 6 0 = 45) := by omega
                have hJn11 : z_W Y 100 [(0, .ref (B 3 0)), (1, .ref (B 4 o)), (2, z_i c), (4, z_i i), (3, z_i t)] [z_i (ySg ((yRt μ t).2))] (cH D B κ8 h) 0 0 := by
                  refine z_istore hY eX3_readCriterion_100 (ls' := [(3, z_i (ySg ((yRt μ t).2))), (0, .ref (B 3 0)), (1, .ref (B 4 o)), (2, z_i c), (4, z_i i)]) rfl ?_
                  refine z_aload hY eX3_readCriterion_101 1 rfl ?_
                  refine z_callV (As := []) (rest := []) hY eX3_readCriterion_102 (r_readToken (κ := κ8) (σ := (yRt μ t).2) hG hJn8 hTn8 hPn8.1 (hKn8.2.2.2.2.2.2.1) hRn8) (cH_at (t := 3) (i := 0) hJn8 (by omega)) (by decide) (Nat.le_of_ble_eq_true rfl) ⟨Nat.zero_le _, Nat.zero_le _⟩ (fun _ _ q => q.elim) (fun vv12 hh12 q12 => ?_)
                  obtain ⟨rfl, κ12, rfl, hSn12, hRn12, hKn12, hTn12⟩ := q12
                  have hJn12 : cJ B κ12 := kSm_J hSn12 hJn8
                  have hPn12 : mP (yRd ((yRt μ t).2)) := mP_r hPn8
                  have hk13_12 : (yRd ((yRt μ t).2)) 13 0 = ((yRt μ t).2) 13 0 := congrFun (yRd_k (by decide)) 0
                  have hSo12 : kSo κ κ12 o := kSo_t hSo8 (kSo_m hSn12)
                  have hFn12 := FO_m (κ' := κ12) (ρ := yRd ((yRt μ t).2)) (by rw [hSn12 12 (by decide)]) (yRd_k (by decide)) hFn8
                  have hOn12 := SO_m (κ' := κ12) (ρ := yRd ((yRt μ t).2)) (by rw [hSn12 14 (by decide)]) (yRd_k (by decide)) hOn8
                  have h16_12 := (congrFun (congrFun (hSn12 16 (by decide)) o) 0).trans h16_8
                  have h13_12 := hk13_12.trans h13_8
                  obtain ⟨-, hk4_13, -, hk2_13, hk3_13, -, -, -⟩ := id hKn12
                  have hg6_13 := hRn12 6 (by decide) (by decide)
                  have hg9_13 := hRn12 9 (by decide) (by decide)
                  have hg10_13 := hRn12 10 (by decide) (by decide)
                  refine z_iinc hY eX3_readCriterion_105 4 rfl (ls' := [(4, z_i (i + 1)), (3, z_i (ySg ((yRt μ t).2))), (0, .ref (B 3 0)), (1, .ref (B 4 o)), (2, z_i c)]) rfl ?_
                  refine z_goto hY eX3_readCriterion_108 ?_
                  refine z_sub [2, 3, 4, 0, 1] (ls' := [(0, .ref (B 3 0)), (1, .ref (B 4 o)), (2, z_i c), (4, z_i (i + 1)), (3, z_i (ySg ((yRt μ t).2)))]) rfl ?_
                  exact ih (i + 1) (ySg ((yRt μ t).2)) κ12 (yRd ((yRt μ t).2)) (by omega) (by omega) hSo12 hRn12 hKn12 hTn12 hPn12 hFn12 hOn12 h16_12 h13_12 ((cTl_c (by omega) (by omega) hsgn).symm.trans hn) hJn12
                refine z_aload hY eX3_readCriterion_86 0 rfl ?_
                refine c_gf hY hJn8 eX3_readCriterion_87 (t := 3) (i := 0) (v := z_i (κ8 6 0 0)) (by omega) rfl rfl ?_
                refine z_const hY eX3_readCriterion_90 ?_
                have htk14 := tk_s hKn8 (b := 43) (by decide)
                refine z_icmpne hY eX3_readCriterion_92 (by omega) (fun c92 => ?_) (fun c92 => ?_)
                · refine z_const hY eX3_readCriterion_99 ?_
                  refine z_top (b := ySg ((yRt μ t).2)) (by unfold ySg; first | exact (if_pos (by omega)).symm | exact (if_neg (by omega)).symm) ?_
                  exact hJn11
                · refine z_const hY eX3_readCriterion_95 ?_
                  refine z_goto hY eX3_readCriterion_96 ?_
                  refine z_top (b := ySg ((yRt μ t).2)) (by unfold ySg; first | exact (if_pos (by omega)).symm | exact (if_neg (by omega)).symm) ?_
                  exact hJn11
              · refine z_aload hY eX3_readCriterion_75 0 rfl ?_
                refine c_gf hY hJn8 eX3_readCriterion_76 (t := 3) (i := 0) (v := z_i (κ8 6 0 0)) (by omega) rfl rfl ?_
                refine z_const hY eX3_readCriterion_79 ?_
                have htk15 := tk_s hKn8 (b := 45) (by decide)
                refine z_icmpeq hY eX3_readCriterion_81 (by omega) (fun c81 => ?_) (fun c81 => ?_)
                · have hsg : -1 ≤ ySg ((yRt μ t).2) ∧ ySg ((yRt μ t).2) ≤ 1 := by unfold ySg; split <;> omega
                  have hsgn : ((yRt μ t).2) 4 0 = 1 ∧ (((yRt μ t).2) 6 0 = 43 ∨ ((yRt μ t).2) 6 0 = 45) := by omega
                  have hJn16 : z_W Y 100 [(0, .ref (B 3 0)), (1, .ref (B 4 o)), (2, z_i c), (4, z_i i), (3, z_i t)] [z_i (ySg ((yRt μ t).2))] (cH D B κ8 h) 0 0 := by
                    refine z_istore hY eX3_readCriterion_100 (ls' := [(3, z_i (ySg ((yRt μ t).2))), (0, .ref (B 3 0)), (1, .ref (B 4 o)), (2, z_i c), (4, z_i i)]) rfl ?_
                    refine z_aload hY eX3_readCriterion_101 1 rfl ?_
                    refine z_callV (As := []) (rest := []) hY eX3_readCriterion_102 (r_readToken (κ := κ8) (σ := (yRt μ t).2) hG hJn8 hTn8 hPn8.1 (hKn8.2.2.2.2.2.2.1) hRn8) (cH_at (t := 3) (i := 0) hJn8 (by omega)) (by decide) (Nat.le_of_ble_eq_true rfl) ⟨Nat.zero_le _, Nat.zero_le _⟩ (fun _ _ q => q.elim) (fun vv17 hh17 q17 => ?_)
                    obtain ⟨rfl, κ17, rfl, hSn17, hRn17, hKn17, hTn17⟩ := q17
                    have hJn17 : cJ B κ17 := kSm_J hSn17 hJn8
                    have hPn17 : mP (yRd ((yRt μ t).2)) := mP_r hPn8
                    have hk13_17 : (yRd ((yRt μ t).2)) 13 0 = ((yRt μ t).2) 13 0 := congrFun (yRd_k (by decide)) 0
                    have hSo17 : kSo κ κ17 o := kSo_t hSo8 (kSo_m hSn17)
                    have hFn17 := FO_m (κ' := κ17) (ρ := yRd ((yRt μ t).2)) (by rw [hSn17 12 (by decide)]) (yRd_k (by decide)) hFn8
                    have hOn17 := SO_m (κ' := κ17) (ρ := yRd ((yRt μ t).2)) (by rw [hSn17 14 (by decide)]) (yRd_k (by decide)) hOn8
                    have h16_17 := (congrFun (congrFun (hSn17 16 (by decide)) o) 0).trans h16_8
                    have h13_17 := hk13_17.trans h13_8
                    obtain ⟨-, hk4_18, -, hk2_18, hk3_18, -, -, -⟩ := id hKn17
                    have hg6_18 := hRn17 6 (by decide) (by decide)
                    have hg9_18 := hRn17 9 (by decide) (by decide)
                    have hg10_18 := hRn17 10 (by decide) (by decide)
                    refine z_iinc hY eX3_readCriterion_105 4 rfl (ls' := [(4, z_i (i + 1)), (3, z_i (ySg ((yRt μ t).2))), (0, .ref (B 3 0)), (1, .ref (B 4 o)), (2, z_i c)]) rfl ?_
                    refine z_goto hY eX3_readCriterion_108 ?_
                    refine z_sub [2, 3, 4, 0, 1] (ls' := [(0, .ref (B 3 0)), (1, .ref (B 4 o)), (2, z_i c), (4, z_i (i + 1)), (3, z_i (ySg ((yRt μ t).2)))]) rfl ?_
                    exact ih (i + 1) (ySg ((yRt μ t).2)) κ17 (yRd ((yRt μ t).2)) (by omega) (by omega) hSo17 hRn17 hKn17 hTn17 hPn17 hFn17 hOn17 h16_17 h13_17 ((cTl_c (by omega) (by omega) hsgn).symm.trans hn) hJn17
                  refine z_aload hY eX3_readCriterion_86 0 rfl ?_
                  refine c_gf hY hJn8 eX3_readCriterion_87 (t := 3) (i := 0) (v := z_i (κ8 6 0 0)) (by omega) rfl rfl ?_
                  refine z_const hY eX3_readCriterion_90 ?_
                  have htk19 := tk_s hKn8 (b := 43) (by decide)
                  refine z_icmpne hY eX3_readCriterion_92 (by omega) (fun c92 => ?_) (fun c92 => ?_)
                  · refine z_const hY eX3_readCriterion_99 ?_
                    refine z_top (b := ySg ((yRt μ t).2)) (by unfold ySg; first | exact (if_pos (by omega)).symm | exact (if_neg (by omega)).symm) ?_
                    exact hJn16
                  · refine z_const hY eX3_readCriterion_95 ?_
                    refine z_goto hY eX3_readCriterion_96 ?_
                    refine z_top (b := ySg ((yRt μ t).2)) (by unfold ySg; first | exact (if_pos (by omega)).symm | exact (if_neg (by omega)).symm) ?_
                    exact hJn16
                · refine z_const hY eX3_readCriterion_84 ?_
                  exact z_zreturn hY eX3_readCriterion_85 rfl (by omega) (by rw [hφ]; have ee : yRc σ = (1, z_u ((yRt μ t).2) 13 0 (((yRt μ t).2) 13 0 + 1)) := (by rw [yRc_cTl, if_pos hgo]; unfold yNc; rw [← hn, cTl_e (by omega) (by omega) (by omega)]; rfl); exact ⟨_, by rw [ee], rfl, hSo8, hRn8, by rw [ee]; exact hKn8, by rw [ee]; exact hTn8, fun _ => by rw [ee]; exact ⟨FO_m rfl rfl hFn8, SO_m rfl rfl hOn8, h16_8⟩, by rw [ee]; exact ⟨_, FO_m rfl rfl hFn8, SO_m rfl rfl hOn8⟩, Or.inr (by rw [h16_8]; omega)⟩) ⟨Nat.zero_le _, Nat.zero_le _⟩
            · refine z_const hY eX3_readCriterion_64 ?_
              exact z_zreturn hY eX3_readCriterion_65 rfl (by omega) (by rw [hφ]; have ee : yRc σ = (0, (yRt μ t).2) := (by rw [yRc_cTl, if_pos hgo]; unfold yNc; rw [← hn, cTl_f (by omega) (by omega)]; rfl); exact ⟨_, by rw [ee], rfl, hSo8, hRn8, by rw [ee]; exact hKn8, by rw [ee]; exact hTn8, fun hne => absurd (by rw [ee]) hne, by rw [ee]; exact ⟨_, FO_m rfl rfl hFn8, SO_m rfl rfl hOn8⟩, Or.inr (by rw [h16_8]; omega)⟩) ⟨Nat.zero_le _, Nat.zero_le _⟩
      exact lp _ 0 1 κ5 (yRd (yC0 σ)) (Nat.lt_succ_self _) (by omega) hSo5 hRn5 hKn5 hTn5 hPn5 hFn5 hOn5 h16_5 h13_5 rfl hJn5
    refine z_aload hY eX3_readCriterion_20 1 rfl ?_
    refine z_iload hY eX3_readCriterion_21 2 rfl ?_
    refine z_aload hY eX3_readCriterion_22 0 rfl ?_
    refine c_gf hY hJ eX3_readCriterion_23 (t := 3) (i := 0) (v := z_i (κ 6 0 0)) (by omega) rfl rfl ?_
    refine z_const hY eX3_readCriterion_26 ?_
    have htk20 := tk_s hK (b := 62) (by decide)
    refine z_icmpne hY eX3_readCriterion_28 (by omega) (fun c28 => ?_) (fun c28 => ?_)
    · refine z_const hY eX3_readCriterion_35 ?_
      refine z_top (b := (if σ 6 0 = 62 then 1 else -1)) (by first | exact (if_pos (by omega)).symm | exact (if_neg (by omega)).symm) ?_
      exact hJn3
    · refine z_const hY eX3_readCriterion_31 ?_
      refine z_goto hY eX3_readCriterion_32 ?_
      refine z_top (b := (if σ 6 0 = 62 then 1 else -1)) (by first | exact (if_pos (by omega)).symm | exact (if_neg (by omega)).symm) ?_
      exact hJn3
  · refine z_aload hY eX3_readCriterion_9 0 rfl ?_
    refine c_gf hY hJ eX3_readCriterion_10 (t := 3) (i := 0) (v := z_i (κ 6 0 0)) (by omega) rfl rfl ?_
    refine z_const hY eX3_readCriterion_13 ?_
    have htk21 := tk_s hK (b := 60) (by decide)
    refine z_icmpeq hY eX3_readCriterion_15 (by omega) (fun c15 => ?_) (fun c15 => ?_)
    · have hgo : yGo σ := by omega
      have hJn22 : z_W Y 36 [(0, .ref (B 3 0)), (1, .ref (B 4 o)), (2, z_i c)] [z_i (if σ 6 0 = 62 then 1 else -1), z_i c, .ref (B 4 o)] (cH D B κ h) 0 0 := by
        refine z_callV (As := [z_i c, z_i (if σ 6 0 = 62 then 1 else -1)]) (rest := []) hY eX3_readCriterion_36 (o_begin2 (κ := κ) (o := o) hG hJ ho (by omega)) (cH_at (t := 4) (i := o) hJ (by omega)) (by decide) (Nat.le_of_ble_eq_true rfl) ⟨Nat.zero_le _, Nat.zero_le _⟩ (fun _ _ q => q.elim) (fun vv23 hh23 q23 => ?_)
        obtain ⟨rfl, rfl⟩ := q23
        have hSb : kSo κ (k_u (k_u κ 14 o c (if σ 6 0 = 62 then 1 else -1)) 16 o 0 (c + 1)) o := kSo_t (kSo_u (Or.inr (Or.inl ⟨rfl, by omega⟩))) (kSo_u (Or.inr (Or.inr ⟨rfl, rfl⟩)))
        have hRb : kRg (k_u (k_u κ 14 o c (if σ 6 0 = 62 then 1 else -1)) 16 o 0 (c + 1)) := kRg_u (by decide) (kRg_u (by decide) hRg)
        have hTb : TR (k_u (k_u κ 14 o c (if σ 6 0 = 62 then 1 else -1)) 16 o 0 (c + 1)) (yC0 σ) := TR_u (by decide) (TR_u (by decide) (show TR κ (yC0 σ) from hT))
        have hKb : Rk (k_u (k_u κ 14 o c (if σ 6 0 = 62 then 1 else -1)) 16 o 0 (c + 1)) (yC0 σ) := Rk_u (by decide) (Rk_u (by decide) (show Rk κ (yC0 σ) from hK))
        have hPb : mP (yC0 σ) := hP
        have hFb := FO_c0 (s := if σ 6 0 = 62 then 1 else -1) hF hc
        have hOb := SO_c0 hS1 hc
        have h16b : (k_u (k_u κ 14 o c (if σ 6 0 = 62 then 1 else -1)) 16 o 0 (c + 1)) 16 o 0 = c + 1 := k_u_at
        have h13b : yC0 σ 13 0 = c := hc.1.symm
        refine z_aload hY eX3_readCriterion_39 0 rfl ?_
        refine z_callV (As := []) (rest := []) hY eX3_readCriterion_40 (r_readToken (κ := k_u (k_u κ 14 o c (if σ 6 0 = 62 then 1 else -1)) 16 o 0 (c + 1)) (σ := yC0 σ) hG (cJ_u (by decide) (cJ_u (by decide) hJ)) hTb hPb.1 (hKb.2.2.2.2.2.2.1) hRb) (cH_at (t := 3) (i := 0) (cJ_u (by decide) (cJ_u (by decide) hJ)) ((cL_u (by decide) _ _).mpr ((cL_u (by decide) _ _).mpr (by omega)))) (by decide) (Nat.le_of_ble_eq_true rfl) ⟨Nat.zero_le _, Nat.zero_le _⟩ (fun _ _ q => q.elim) (fun vv24 hh24 q24 => ?_)
        obtain ⟨rfl, κ24, rfl, hSn24, hRn24, hKn24, hTn24⟩ := q24
        have hJn24 : cJ B κ24 := kSm_J hSn24 (cJ_u (by decide) (cJ_u (by decide) hJ))
        have hPn24 : mP (yRd (yC0 σ)) := mP_r hPb
        have hk13_24 : (yRd (yC0 σ)) 13 0 = (yC0 σ) 13 0 := congrFun (yRd_k (by decide)) 0
        have hSo24 : kSo κ κ24 o := kSo_t hSb (kSo_m hSn24)
        have hFn24 := FO_m (κ' := κ24) (ρ := yRd (yC0 σ)) (by rw [hSn24 12 (by decide)]) (yRd_k (by decide)) hFb
        have hOn24 := SO_m (κ' := κ24) (ρ := yRd (yC0 σ)) (by rw [hSn24 14 (by decide)]) (yRd_k (by decide)) hOb
        have h16_24 := (congrFun (congrFun (hSn24 16 (by decide)) o) 0).trans h16b
        have h13_24 := hk13_24.trans h13b
        obtain ⟨-, hk4_25, -, hk2_25, hk3_25, -, -, -⟩ := id hKn24
        have hg6_25 := hRn24 6 (by decide) (by decide)
        have hg9_25 := hRn24 9 (by decide) (by decide)
        have hg10_25 := hRn24 10 (by decide) (by decide)
        refine z_const hY eX3_readCriterion_43 ?_
        refine z_istore hY eX3_readCriterion_44 (ls' := [(3, z_i 1), (0, .ref (B 3 0)), (1, .ref (B 4 o)), (2, z_i c)]) rfl ?_
        refine z_const hY eX3_readCriterion_45 ?_
        refine z_istore hY eX3_readCriterion_46 (ls' := [(4, z_i 0), (3, z_i 1), (0, .ref (B 3 0)), (1, .ref (B 4 o)), (2, z_i c)]) rfl ?_
        refine z_sub [2, 3, 4, 0, 1] (ls' := [(0, .ref (B 3 0)), (1, .ref (B 4 o)), (2, z_i c), (4, z_i 0), (3, z_i 1)]) rfl ?_
        have lp : ∀ (fu : Nat) (i t : Int) (κ2 : c_K) (μ : z_S), (4 - i).toNat < fu → (0 ≤ i ∧ i ≤ 4 ∧ -1 ≤ t ∧ t ≤ 1) → kSo κ κ2 o → kRg κ2 → Rk κ2 μ → TR κ2 μ → mP μ → FO κ2 μ o (c + 1) → SO κ2 μ o (c + 1) → (κ2 16 o 0 = c + 1) → μ 13 0 = c → cTl (4 - i).toNat μ t = cTl 4 (yRd (yC0 σ)) 1 → cJ B κ2 → z_W Y 48 [(0, .ref (B 3 0)), (1, .ref (B 4 o)), (2, z_i c), (4, z_i i), (3, z_i t)] [] (cH D B κ2 h) 0 0 := by
          intro fu
          induction fu with
          | zero => intro i t κ2 μ hf; exact absurd hf (Nat.not_lt_zero _)
          | succ fu ih =>
            intro i t κ2 μ hf h0 gS gR gK gT gP gF gO g16 g13 hn gJ
            obtain ⟨-, hk4_26, -, hk2_26, hk3_26, -, -, -⟩ := id gK
            have hg6_26 := gR 6 (by decide) (by decide)
            have hg9_26 := gR 9 (by decide) (by decide)
            have hg10_26 := gR 10 (by decide) (by decide)
            refine z_iload hY eX3_readCriterion_48 3 rfl ?_
            refine z_const hY eX3_readCriterion_50 ?_
            refine z_icmpge hY eX3_readCriterion_51 (by omega) (fun c51 => ?_) (fun c51 => ?_)
            · refine z_const hY eX3_readCriterion_111 ?_
              exact z_zreturn hY eX3_readCriterion_112 rfl (by omega) (by rw [hφ]; have ee : yRc σ = (0, μ) := (by rw [yRc_cTl, if_pos hgo]; unfold yNc; rw [← hn, cTl_0 (by omega)]; rfl); exact ⟨_, by rw [ee], rfl, gS, gR, by rw [ee]; exact gK, by rw [ee]; exact gT, fun hne => absurd (by rw [ee]) hne, by rw [ee]; exact ⟨_, FO_m rfl rfl gF, SO_m rfl rfl gO⟩, Or.inr (by rw [g16]; omega)⟩) ⟨Nat.zero_le _, Nat.zero_le _⟩
            · refine z_aload hY eX3_readCriterion_54 0 rfl ?_
              refine z_aload hY eX3_readCriterion_55 1 rfl ?_
              refine z_iload hY eX3_readCriterion_56 2 rfl ?_
              refine z_iload hY eX3_readCriterion_57 4 rfl ?_
              refine z_callV (As := [.ref (B 4 o), z_i c, z_i t]) (rest := []) hY eX3_readCriterion_58 (r_readTerm (κ := κ2) (σ := μ) (o := o) (c := c) (s := t) hG gJ gT gK gP gR ho (by have := g13; omega) (by omega) gF) (cH_at (t := 3) (i := 0) gJ (by omega)) (by decide) (Nat.le_of_ble_eq_true rfl) ⟨Nat.zero_le _, Nat.zero_le _⟩ (fun _ _ q => q.elim) (fun vv27 hh27 q27 => ?_)
              obtain ⟨κ27, rfl, rfl, hSn27, hRn27, hKn27, hTn27, hFn27⟩ := q27
              have hJn27 : cJ B κ27 := kSt_J hSn27 gJ
              have hPn27 : mP (yRt μ t).2 := mP_yRt gP _
              have h01_27 := yRt_01 μ t
              have hSo27 : kSo κ κ27 o := kSo_t gS (kSo_St hSn27)
              have hOn27 := SO_m (κ' := κ27) (ρ := (yRt μ t).2) (by rw [kSt_f hSn27 (k := 14) (by decide)]) (yRt_k (by decide)) gO
              have h16_27 := (congrFun (congrFun (kSt_f hSn27 (k := 16) (by decide)) o) 0).trans g16
              have h13_27 := (congrFun (yRt_k (σ := μ) (s := t) (k := 13) (by decide)) 0).trans g13
              obtain ⟨-, hk4_28, -, hk2_28, hk3_28, -, -, -⟩ := id hKn27
              have hg6_28 := hRn27 6 (by decide) (by decide)
              have hg9_28 := hRn27 9 (by decide) (by decide)
              have hg10_28 := hRn27 10 (by decide) (by decide)
              refine z_ifne hY eX3_readCriterion_61 (by omega) (fun c61 => ?_) (fun c61 => ?_)
              · refine z_aload hY eX3_readCriterion_66 0 rfl ?_
                refine c_gf hY hJn27 eX3_readCriterion_67 (t := 3) (i := 0) (v := z_i (κ27 6 0 0)) (by omega) rfl rfl ?_
                refine z_const hY eX3_readCriterion_70 ?_
                have htk29 := tk_s hKn27 (b := 43) (by decide)
                refine z_icmpeq hY eX3_readCriterion_72 (by omega) (fun c72 => ?_) (fun c72 => ?_)
                · have hsg : -1 ≤ ySg ((yRt μ t).2) ∧ ySg ((yRt μ t).2) ≤ 1 := by unfold ySg; split <;> omega
                  have hsgn : ((yRt μ t).2) 4 0 = 1 ∧ (((yRt μ t).2) 6 0 = 43 ∨ ((yRt μ t).2) 6 0 = 45) := by omega
                  have hJn30 : z_W Y 100 [(0, .ref (B 3 0)), (1, .ref (B 4 o)), (2, z_i c), (4, z_i i), (3, z_i t)] [z_i (ySg ((yRt μ t).2))] (cH D B κ27 h) 0 0 := by
                    refine z_istore hY eX3_readCriterion_100 (ls' := [(3, z_i (ySg ((yRt μ t).2))), (0, .ref (B 3 0)), (1, .ref (B 4 o)), (2, z_i c), (4, z_i i)]) rfl ?_
                    refine z_aload hY eX3_readCriterion_101 1 rfl ?_
                    refine z_callV (As := []) (rest := []) hY eX3_readCriterion_102 (r_readToken (κ := κ27) (σ := (yRt μ t).2) hG hJn27 hTn27 hPn27.1 (hKn27.2.2.2.2.2.2.1) hRn27) (cH_at (t := 3) (i := 0) hJn27 (by omega)) (by decide) (Nat.le_of_ble_eq_true rfl) ⟨Nat.zero_le _, Nat.zero_le _⟩ (fun _ _ q => q.elim) (fun vv31 hh31 q31 => ?_)
                    obtain ⟨rfl, κ31, rfl, hSn31, hRn31, hKn31, hTn31⟩ := q31
                    have hJn31 : cJ B κ31 := kSm_J hSn31 hJn27
                    have hPn31 : mP (yRd ((yRt μ t).2)) := mP_r hPn27
                    have hk13_31 : (yRd ((yRt μ t).2)) 13 0 = ((yRt μ t).2) 13 0 := congrFun (yRd_k (by decide)) 0
                    have hSo31 : kSo κ κ31 o := kSo_t hSo27 (kSo_m hSn31)
                    have hFn31 := FO_m (κ' := κ31) (ρ := yRd ((yRt μ t).2)) (by rw [hSn31 12 (by decide)]) (yRd_k (by decide)) hFn27
                    have hOn31 := SO_m (κ' := κ31) (ρ := yRd ((yRt μ t).2)) (by rw [hSn31 14 (by decide)]) (yRd_k (by decide)) hOn27
                    have h16_31 := (congrFun (congrFun (hSn31 16 (by decide)) o) 0).trans h16_27
                    have h13_31 := hk13_31.trans h13_27
                    obtain ⟨-, hk4_32, -, hk2_32, hk3_32, -, -, -⟩ := id hKn31
                    have hg6_32 := hRn31 6 (by decide) (by decide)
                    have hg9_32 := hRn31 9 (by decide) (by decide)
                    have hg10_32 := hRn31 10 (by decide) (by decide)
                    refine z_iinc hY eX3_readCriterion_105 4 rfl (ls' := [(4, z_i (i + 1)), (3, z_i (ySg ((yRt μ t).2))), (0, .ref (B 3 0)), (1, .ref (B 4 o)), (2, z_i c)]) rfl ?_
                    refine z_goto hY eX3_readCriterion_108 ?_
                    refine z_sub [2, 3, 4, 0, 1] (ls' := [(0, .ref (B 3 0)), (1, .ref (B 4 o)), (2, z_i c), (4, z_i (i + 1)), (3, z_i (ySg ((yRt μ t).2)))]) rfl ?_
                    exact ih (i + 1) (ySg ((yRt μ t).2)) κ31 (yRd ((yRt μ t).2)) (by omega) (by omega) hSo31 hRn31 hKn31 hTn31 hPn31 hFn31 hOn31 h16_31 h13_31 ((cTl_c (by omega) (by omega) hsgn).symm.trans hn) hJn31
                  refine z_aload hY eX3_readCriterion_86 0 rfl ?_
                  refine c_gf hY hJn27 eX3_readCriterion_87 (t := 3) (i := 0) (v := z_i (κ27 6 0 0)) (by omega) rfl rfl ?_
                  refine z_const hY eX3_readCriterion_90 ?_
                  have htk33 := tk_s hKn27 (b := 43) (by decide)
                  refine z_icmpne hY eX3_readCriterion_92 (by omega) (fun c92 => ?_) (fun c92 => ?_)
                  · refine z_const hY eX3_readCriterion_99 ?_
                    refine z_top (b := ySg ((yRt μ t).2)) (by unfold ySg; first | exact (if_pos (by omega)).symm | exact (if_neg (by omega)).symm) ?_
                    exact hJn30
                  · refine z_const hY eX3_readCriterion_95 ?_
                    refine z_goto hY eX3_readCriterion_96 ?_
                    refine z_top (b := ySg ((yRt μ t).2)) (by unfold ySg; first | exact (if_pos (by omega)).symm | exact (if_neg (by omega)).symm) ?_
                    exact hJn30
                · refine z_aload hY eX3_readCriterion_75 0 rfl ?_
                  refine c_gf hY hJn27 eX3_readCriterion_76 (t := 3) (i := 0) (v := z_i (κ27 6 0 0)) (by omega) rfl rfl ?_
                  refine z_const hY eX3_readCriterion_79 ?_
                  have htk34 := tk_s hKn27 (b := 45) (by decide)
                  refine z_icmpeq hY eX3_readCriterion_81 (by omega) (fun c81 => ?_) (fun c81 => ?_)
                  · have hsg : -1 ≤ ySg ((yRt μ t).2) ∧ ySg ((yRt μ t).2) ≤ 1 := by unfold ySg; split <;> omega
                    have hsgn : ((yRt μ t).2) 4 0 = 1 ∧ (((yRt μ t).2) 6 0 = 43 ∨ ((yRt μ t).2) 6 0 = 45) := by omega
                    have hJn35 : z_W Y 100 [(0, .ref (B 3 0)), (1, .ref (B 4 o)), (2, z_i c), (4, z_i i), (3, z_i t)] [z_i (ySg ((yRt μ t).2))] (cH D B κ27 h) 0 0 := by
                      refine z_istore hY eX3_readCriterion_100 (ls' := [(3, z_i (ySg ((yRt μ t).2))), (0, .ref (B 3 0)), (1, .ref (B 4 o)), (2, z_i c), (4, z_i i)]) rfl ?_
                      refine z_aload hY eX3_readCriterion_101 1 rfl ?_
                      refine z_callV (As := []) (rest := []) hY eX3_readCriterion_102 (r_readToken (κ := κ27) (σ := (yRt μ t).2) hG hJn27 hTn27 hPn27.1 (hKn27.2.2.2.2.2.2.1) hRn27) (cH_at (t := 3) (i := 0) hJn27 (by omega)) (by decide) (Nat.le_of_ble_eq_true rfl) ⟨Nat.zero_le _, Nat.zero_le _⟩ (fun _ _ q => q.elim) (fun vv36 hh36 q36 => ?_)
                      obtain ⟨rfl, κ36, rfl, hSn36, hRn36, hKn36, hTn36⟩ := q36
                      have hJn36 : cJ B κ36 := kSm_J hSn36 hJn27
                      have hPn36 : mP (yRd ((yRt μ t).2)) := mP_r hPn27
                      have hk13_36 : (yRd ((yRt μ t).2)) 13 0 = ((yRt μ t).2) 13 0 := congrFun (yRd_k (by decide)) 0
                      have hSo36 : kSo κ κ36 o := kSo_t hSo27 (kSo_m hSn36)
                      have hFn36 := FO_m (κ' := κ36) (ρ := yRd ((yRt μ t).2)) (by rw [hSn36 12 (by decide)]) (yRd_k (by decide)) hFn27
                      have hOn36 := SO_m (κ' := κ36) (ρ := yRd ((yRt μ t).2)) (by rw [hSn36 14 (by decide)]) (yRd_k (by decide)) hOn27
                      have h16_36 := (congrFun (congrFun (hSn36 16 (by decide)) o) 0).trans h16_27
                      have h13_36 := hk13_36.trans h13_27
                      obtain ⟨-, hk4_37, -, hk2_37, hk3_37, -, -, -⟩ := id hKn36
                      have hg6_37 := hRn36 6 (by decide) (by decide)
                      have hg9_37 := hRn36 9 (by decide) (by decide)
                      have hg10_37 := hRn36 10 (by decide) (by decide)
                      refine z_iinc hY eX3_readCriterion_105 4 rfl (ls' := [(4, z_i (i + 1)), (3, z_i (ySg ((yRt μ t).2))), (0, .ref (B 3 0)), (1, .ref (B 4 o)), (2, z_i c)]) rfl ?_
                      refine z_goto hY eX3_readCriterion_108 ?_
                      refine z_sub [2, 3, 4, 0, 1] (ls' := [(0, .ref (B 3 0)), (1, .ref (B 4 o)), (2, z_i c), (4, z_i (i + 1)), (3, z_i (ySg ((yRt μ t).2)))]) rfl ?_
                      exact ih (i + 1) (ySg ((yRt μ t).2)) κ36 (yRd ((yRt μ t).2)) (by omega) (by omega) hSo36 hRn36 hKn36 hTn36 hPn36 hFn36 hOn36 h16_36 h13_36 ((cTl_c (by omega) (by omega) hsgn).symm.trans hn) hJn36
                    refine z_aload hY eX3_readCriterion_86 0 rfl ?_
                    refine c_gf hY hJn27 eX3_readCriterion_87 (t := 3) (i := 0) (v := z_i (κ27 6 0 0)) (by omega) rfl rfl ?_
                    refine z_const hY eX3_readCriterion_90 ?_
                    have htk38 := tk_s hKn27 (b := 43) (by decide)
                    refine z_icmpne hY eX3_readCriterion_92 (by omega) (fun c92 => ?_) (fun c92 => ?_)
                    · refine z_const hY eX3_readCriterion_99 ?_
                      refine z_top (b := ySg ((yRt μ t).2)) (by unfold ySg; first | exact (if_pos (by omega)).symm | exact (if_neg (by omega)).symm) ?_
                      exact hJn35
                    · refine z_const hY eX3_readCriterion_95 ?_
                      refine z_goto hY eX3_readCriterion_96 ?_
                      refine z_top (b := ySg ((yRt μ t).2)) (by unfold ySg; first | exact (if_pos (by omega)).symm | exact (if_neg (by omega)).symm) ?_
                      exact hJn35
                  · refine z_const hY eX3_readCriterion_84 ?_
                    exact z_zreturn hY eX3_readCriterion_85 rfl (by omega) (by rw [hφ]; have ee : yRc σ = (1, z_u ((yRt μ t).2) 13 0 (((yRt μ t).2) 13 0 + 1)) := (by rw [yRc_cTl, if_pos hgo]; unfold yNc; rw [← hn, cTl_e (by omega) (by omega) (by omega)]; rfl); exact ⟨_, by rw [ee], rfl, hSo27, hRn27, by rw [ee]; exact hKn27, by rw [ee]; exact hTn27, fun _ => by rw [ee]; exact ⟨FO_m rfl rfl hFn27, SO_m rfl rfl hOn27, h16_27⟩, by rw [ee]; exact ⟨_, FO_m rfl rfl hFn27, SO_m rfl rfl hOn27⟩, Or.inr (by rw [h16_27]; omega)⟩) ⟨Nat.zero_le _, Nat.zero_le _⟩
              · refine z_const hY eX3_readCriterion_64 ?_
                exact z_zreturn hY eX3_readCriterion_65 rfl (by omega) (by rw [hφ]; have ee : yRc σ = (0, (yRt μ t).2) := (by rw [yRc_cTl, if_pos hgo]; unfold yNc; rw [← hn, cTl_f (by omega) (by omega)]; rfl); exact ⟨_, by rw [ee], rfl, hSo27, hRn27, by rw [ee]; exact hKn27, by rw [ee]; exact hTn27, fun hne => absurd (by rw [ee]) hne, by rw [ee]; exact ⟨_, FO_m rfl rfl hFn27, SO_m rfl rfl hOn27⟩, Or.inr (by rw [h16_27]; omega)⟩) ⟨Nat.zero_le _, Nat.zero_le _⟩
        exact lp _ 0 1 κ24 (yRd (yC0 σ)) (Nat.lt_succ_self _) (by omega) hSo24 hRn24 hKn24 hTn24 hPn24 hFn24 hOn24 h16_24 h13_24 rfl hJn24
      refine z_aload hY eX3_readCriterion_20 1 rfl ?_
      refine z_iload hY eX3_readCriterion_21 2 rfl ?_
      refine z_aload hY eX3_readCriterion_22 0 rfl ?_
      refine c_gf hY hJ eX3_readCriterion_23 (t := 3) (i := 0) (v := z_i (κ 6 0 0)) (by omega) rfl rfl ?_
      refine z_const hY eX3_readCriterion_26 ?_
      have htk39 := tk_s hK (b := 62) (by decide)
      refine z_icmpne hY eX3_readCriterion_28 (by omega) (fun c28 => ?_) (fun c28 => ?_)
      · refine z_const hY eX3_readCriterion_35 ?_
        refine z_top (b := (if σ 6 0 = 62 then 1 else -1)) (by first | exact (if_pos (by omega)).symm | exact (if_neg (by omega)).symm) ?_
        exact hJn22
      · refine z_const hY eX3_readCriterion_31 ?_
        refine z_goto hY eX3_readCriterion_32 ?_
        refine z_top (b := (if σ 6 0 = 62 then 1 else -1)) (by first | exact (if_pos (by omega)).symm | exact (if_neg (by omega)).symm) ?_
        exact hJn22
    · refine z_const hY eX3_readCriterion_18 ?_
      exact z_zreturn hY eX3_readCriterion_19 rfl (by omega) (by rw [hφ]; have ee : yRc σ = (0, σ) := (by rw [yRc_cTl, if_neg (by omega)]); exact ⟨_, by rw [ee], rfl, hS0, hRg, by rw [ee]; exact hK, by rw [ee]; exact hT, fun hne => absurd (by rw [ee]) hne, by rw [ee]; exact ⟨_, FO_m rfl rfl hF, SO_m rfl rfl hS1⟩, Or.inl rfl⟩) ⟨Nat.zero_le _, Nat.zero_le _⟩
end C5
