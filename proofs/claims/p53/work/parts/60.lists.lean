/-! THE CLASS's LISTS: one taken out, one put in; places numbered. -/
section LST
variable {κ : c_K} {σ ρ : z_S}
theorem Np_37 : ∀ (m : Nat), (∀ i j : Int, 0 ≤ i → i < m → 0 ≤ j → j < m → κ 20 1 i = κ 20 1 j → i = j) → (∀ i : Int, 0 ≤ i → i < m → kNp κ m 37 (κ 20 1 i) 0 = i + 1) ∧ ∀ x, (∀ i : Int, 0 ≤ i → i < m → κ 20 1 i ≠ x) → kNp κ m 37 x 0 = κ 37 x 0 := by
  intro m
  induction m with
  | zero => intro _; exact ⟨fun i a b => by omega, fun x _ => rfl⟩
  | succ m ih =>
    intro hi
    obtain ⟨a, b⟩ := ih (fun i j h1 h2 h3 h4 => hi i j h1 (by omega) h3 (by omega))
    refine ⟨fun i h0 h1 => ?_, fun x hx => ?_⟩
    · show k_u (kNp κ m) 37 (κ 20 1 m) 0 (m + 1) 37 (κ 20 1 i) 0 = i + 1
      by_cases c : i = m
      · subst c; exact k_u_at
      · rw [k_u_ni (fun q => c (hi i m h0 h1 (by omega) (by omega) q))]
        exact a i h0 (by omega)
    · show k_u (kNp κ m) 37 (κ 20 1 m) 0 (m + 1) 37 x 0 = κ 37 x 0
      rw [k_u_ni (fun q => hx m (by omega) (by omega) q.symm)]
      exact b x (fun i h0 h1 => hx i h0 (by omega))
/-- a standing: who is in it, in order, numbered -/
def jSt (lt : Int → Int → Prop) (P : Int → Prop) (κ : c_K) : Prop := jS lt P (κ 20 1) (κ 24 1 0) ∧ ∀ i, 0 ≤ i → i < κ 24 1 0 → κ 37 (κ 20 1 i) 0 = i + 1
theorem Na_st {lt : Int → Int → Prop} {P : Int → Prop} (hO : jO lt) (hS : jS lt P (κ 20 1) (κ 24 1 0)) : jSt lt P (kNa κ) ∧ ∀ x, ¬ P x → kNa κ 37 x 0 = κ 37 x 0 := by
  have e20 : kNa κ 20 = κ 20 := kNp_ne (by decide) _
  have e24 : kNa κ 24 = κ 24 := kNp_ne (by decide) _
  have hn := hS.1
  obtain ⟨a, b⟩ := Np_37 (κ := κ) (κ 24 1 0).toNat (fun i j h1 h2 h3 h4 q => jS_inj hO hS ⟨h1, by omega⟩ ⟨h3, by omega⟩ q)
  refine ⟨⟨by rw [e20, e24]; exact hS, fun i h0 h1 => ?_⟩, fun x hx => b x (fun i h0 h1 q => hx (q ▸ hS.2.1 i h0 (by omega)))⟩
  rw [e24] at h1
  rw [e20]
  exact a i h0 (by omega)
theorem Ta_st {lt : Int → Int → Prop} {P : Int → Prop} (hO : jO lt) (h : jSt lt P κ) {e : Int} (he : P e) : jSt lt (fun x => P x ∧ x ≠ e) (kTa κ e) ∧ ∀ x, ¬ P x → kTa κ e 37 x 0 = κ 37 x 0 := by
  obtain ⟨i, h0, h1, rfl⟩ := h.1.2.2.2 e he
  have h37 := h.2 i h0 h1
  have e1 : kTa κ (κ 20 1 i) = kNa (kRw κ 1 (fDl κ 1 i) (κ 24 1 0 - 1) (kW (κ 25 1 0))) := by
    unfold kTa
    rw [if_pos (by omega), h37, show i + 1 - 1 = i by omega]
  rw [e1]
  have hS : jS lt (fun x => P x ∧ x ≠ κ 20 1 i) (kRw κ 1 (fDl κ 1 i) (κ 24 1 0 - 1) (kW (κ 25 1 0)) 20 1) (kRw κ 1 (fDl κ 1 i) (κ 24 1 0 - 1) (kW (κ 25 1 0)) 24 1 0) := by
    rw [kRw_20, kRw_24]
    exact jS_out hO h.1 ⟨h0, h1⟩ (fun x => Iff.rfl)
  obtain ⟨a, b⟩ := Na_st hO hS
  refine ⟨a, fun x hx => ?_⟩
  rw [b x (fun q => hx q.1), kRw_ne (by decide)]
theorem Sp_st {lt : Int → Int → Prop} {P P' : Int → Prop} (hO : jO lt) (hS : jS lt P (κ 20 1) (κ 24 1 0)) {e N : Int} (hQ : ∀ i, 0 ≤ i → i < κ 24 1 0 → (hI κ (κ 20 1 i) e ≠ 0 ↔ lt (κ 20 1 i) e)) (ht : ∀ x, P x → lt x e ∨ lt e x) (hP : ∀ x, P' x ↔ (P x ∨ x = e)) : jSt lt P' (kSp κ e N) ∧ ∀ x, ¬ P' x → kSp κ e N 37 x 0 = κ 37 x 0 := by
  have h2 : jS lt P' (kAd κ 1 (fIn κ 1 (sW κ e) e) (kW (κ 25 1 0)) N 20 1) (kAd κ 1 (fIn κ 1 (sW κ e) e) (kW (κ 25 1 0)) N 24 1 0) := by
    rw [kAd_20, kAd_24]
    exact jS_put (Q := fun i => hI κ (κ 20 1 i) e ≠ 0) hO hS hQ ht hP
  obtain ⟨a, b⟩ := Na_st hO h2
  refine ⟨a, fun x hx => ?_⟩
  show kNa _ 37 x 0 = _
  rw [b x hx, kAd_ne (by decide)]
theorem Tp_st {lt : Int → Int → Prop} {P : Int → Prop} (hO : jO lt) (h : jS lt P (κ 20 2) (κ 24 2 0)) {e : Int} (he : P e) : jS lt (fun x => P x ∧ x ≠ e) (kTp κ e 20 2) (kTp κ e 24 2 0) := by
  obtain ⟨i, h0, h1, rfl⟩ := h.2.2.2 e he
  have hf : z_ff (fun j => κ 20 2 j = κ 20 2 i) (κ 24 2 0) = i := jn_ff (P := fun j => κ 20 2 j = κ 20 2 i) (a := i) (n := κ 24 2 0) ⟨h0, h1⟩ rfl (fun j a b q => by have := jS_inj hO h ⟨a, by omega⟩ ⟨h0, h1⟩ q; omega)
  unfold kTp
  rw [if_neg (by rw [hf]; omega), hf, kRw_20, kRw_24]
  exact jS_out hO h ⟨h0, h1⟩ (fun x => Iff.rfl)
theorem Pp_st {P P' : Int → Prop} {e N : Int} (hS : jS (pp ρ) P (κ 20 2) (κ 24 2 0)) (h30 : ∀ x, P x → κ 30 x 0 = ρ 14 (4 * x)) (he : κ 30 e 0 = ρ 14 (4 * e)) (h16 : ∀ x, P x → ρ 16 x < ρ 16 e) (hP : ∀ x, P' x ↔ (P x ∨ x = e)) : jS (pp ρ) P' (kPp κ e N 20 2) (kPp κ e N 24 2 0) := by
  unfold kPp
  rw [kAd_20, kAd_24]
  refine jS_put (Q := fun i => κ 30 (κ 20 2 i) 0 ≤ κ 30 e 0) (pp_o ρ) hS (fun i h0 h1 => ?_) (fun x hx => ?_) hP
  · have hx := hS.2.1 i h0 h1
    have a := h30 _ hx
    have b := h16 _ hx
    rw [a, he]
    constructor <;> intro q <;> omega
  · have b := h16 _ hx
    omega
theorem jud1 (hO : jRo κ ρ) {e o : Int} (ho : o = κ 17 0 0) (h30 : ∀ k, 0 ≤ k → k < 4 → κ 30 e k = ρ 14 (4 * e + k)) : mrt (kJd κ o e) ρ e e := fun c h0 h1 => by
  subst ho
  unfold kJd
  rw [k_r_eq]
  show (if 0 ≤ c ∧ c < 4 then κ 14 (κ 17 0 0) c * cVl κ (κ 17 0 0) e c else κ 31 e c) = _
  rw [if_pos ⟨h0, h1⟩]
  exact jud hO rfl rfl rfl rfl h30 ⟨h0, h1⟩
theorem kJd_ni {o e x : Int} {k : Nat} (h : x ≠ e) : kJd κ o e k x = κ k x := by
  unfold kJd
  by_cases hk : k = 31
  · subst hk; exact k_r_ni h
  · rw [k_r_ne hk]
end LST
section LSV
end LSV
