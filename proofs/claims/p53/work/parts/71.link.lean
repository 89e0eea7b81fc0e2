/-! THE LAW's STATE beside the model's. -/
section LNK
def wLs (ρ σ : z_S) : Prop := ρ 19 0 = σ 14 0 ∧ ρ 25 0 = σ 16 0 ∧ ρ 26 0 = σ 17 0 ∧ ρ 27 0 = σ 18 0 ∧ ρ 30 0 = σ 19 0
def wLe (ρ σ : z_S) : Prop := (∀ j, 0 ≤ j → j < 120 → ρ 14 j = σ 2 j) ∧ (∀ e, 0 ≤ e → e < σ 14 0 → ρ 15 e = σ 3 e) ∧ (∀ e, 0 ≤ e → e < 30 → ρ 18 e = σ 7 e) ∧ ∀ e, 0 ≤ e → e < 30 → ρ 17 e = σ 5 e
def wLl (ρ σ : z_S) : Prop := (∀ i, 0 ≤ i → i < σ 16 0 → ρ 21 i = σ 9 i) ∧ ∀ i, 0 ≤ i → i < σ 16 0 → ρ 22 (σ 9 i) = σ 10 (σ 9 i) ∧ ρ 23 (σ 9 i) = σ 11 (σ 9 i)
def wLg (ρ σ : z_S) : Prop := ∀ e r, 0 ≤ e → e < 30 → 0 ≤ r → r < σ 19 0 → ρ 28 (200 * e + r) = σ 12 (40 * e + r)
def wLt (ρ σ : z_S) : Prop := ∀ e r, 0 ≤ e → e < 30 → 0 ≤ r → r < σ 19 0 → σ 19 0 - 20 ≤ r → ρ 29 (20 * e + r % 20) = σ 13 (30 * r + e)
def wL (ρ σ : z_S) : Prop := wLs ρ σ ∧ wLe ρ σ ∧ wLl ρ σ ∧ wLg ρ σ ∧ wLt ρ σ
def wO (ρ σ : z_S) : Prop := ρ 12 0 = σ 15 0 ∧ (∀ j, 0 ≤ j → j < 4 * σ 15 0 → ρ 8 j = σ 4 j) ∧ ∀ c, 0 ≤ c → c < σ 15 0 → ρ 10 c = σ 8 c
theorem wL_E {ρ σ σ' : z_S} (hE : wE σ' σ) (h : wL ρ σ) : wL ρ σ' := by
  have e : ∀ k, k ≠ 0 → k ≠ 6 → k ≠ 20 → σ' k = σ k := hE
  unfold wL wLs wLe wLl wLg wLt at h ⊢
  rw [e 14 (by decide) (by decide) (by decide), e 16 (by decide) (by decide) (by decide), e 17 (by decide) (by decide) (by decide), e 18 (by decide) (by decide) (by decide), e 19 (by decide) (by decide) (by decide), e 2 (by decide) (by decide) (by decide), e 3 (by decide) (by decide) (by decide), e 7 (by decide) (by decide) (by decide), e 5 (by decide) (by decide) (by decide), e 9 (by decide) (by decide) (by decide), e 10 (by decide) (by decide) (by decide), e 11 (by decide) (by decide) (by decide), e 12 (by decide) (by decide) (by decide), e 13 (by decide) (by decide) (by decide)]
  exact h
theorem wO_E {ρ σ σ' : z_S} (hE : wE σ' σ) (h : wO ρ σ) : wO ρ σ' := by
  have e : ∀ k, k ≠ 0 → k ≠ 6 → k ≠ 20 → σ' k = σ k := hE
  unfold wO at h ⊢
  rw [e 15 (by decide) (by decide) (by decide), e 4 (by decide) (by decide) (by decide), e 8 (by decide) (by decide) (by decide)]
  exact h
/-- what holds between two calls: the class's heap, the model beside it, the law's numbers; o: the order has been told -/
def gS (t : Nat) (m : Int) (o : Prop) (B : Nat → Int → Nat) (κ : c_K) (A : Nat → Nat) (ρ σ : z_S) : Prop := gXX B κ A ∧ cJ B κ ∧ (cV κ ∧ cS κ) ∧ jJ t κ ρ ∧ wL ρ σ ∧ wB σ ∧ (∀ j, -m ≤ σ 2 j ∧ σ 2 j ≤ m) ∧ (o → wO ρ σ) ∧ ρ 2 0 = 0
section
variable {t : Nat} {m : Int} {o : Prop} {B : Nat → Int → Nat} {κ κ' : c_K} {A : Nat → Nat} {ρ ρ' σ σ' : z_S}
theorem gS_X (h : gS t m o B κ A ρ σ) : gXX B κ A := h.1
theorem gS_J (h : gS t m o B κ A ρ σ) : cJ B κ := h.2.1
theorem gS_V (h : gS t m o B κ A ρ σ) : cV κ := h.2.2.1.1
theorem gS_S (h : gS t m o B κ A ρ σ) : cS κ := h.2.2.1.2
theorem gS_B (h : gS t m o B κ A ρ σ) : cB κ := (gS_S h).b
theorem gS_j (h : gS t m o B κ A ρ σ) : jJ t κ ρ := h.2.2.2.1
theorem gS_R (h : gS t m o B κ A ρ σ) : jR κ ρ := (gS_j h).1
theorem gS_M (h : gS t m o B κ A ρ σ) : mV ρ := (gS_j h).V
theorem gS_L (h : gS t m o B κ A ρ σ) : wL ρ σ := h.2.2.2.2.1
theorem gS_b (h : gS t m o B κ A ρ σ) : wB σ := h.2.2.2.2.2.1
theorem gS_p (h : gS t m o B κ A ρ σ) : ∀ j, -m ≤ σ 2 j ∧ σ 2 j ≤ m := h.2.2.2.2.2.2.1
theorem gS_O (h : gS t m o B κ A ρ σ) (ho : o) : wO ρ σ := h.2.2.2.2.2.2.2.1 ho
/-- the tape is empty -/
theorem gS_tp (h : gS t m o B κ A ρ σ) : ρ 2 0 = 0 := h.2.2.2.2.2.2.2.2
theorem gS_n (h : gS t m o B κ A ρ σ) : κ 24 0 0 = σ 14 0 := (gS_R h).n.trans (gS_L h).1.1
theorem gS_19 (h : gS t m o B κ A ρ σ) : ρ 19 0 = σ 14 0 := (gS_L h).1.1
theorem gS_25 (h : gS t m o B κ A ρ σ) : ρ 25 0 = σ 16 0 := (gS_L h).1.2.1
theorem gS_26 (h : gS t m o B κ A ρ σ) : ρ 26 0 = σ 17 0 := (gS_L h).1.2.2.1
theorem gS_27 (h : gS t m o B κ A ρ σ) : ρ 27 0 = σ 18 0 := (gS_L h).1.2.2.2.1
theorem gS_30 (h : gS t m o B κ A ρ σ) : ρ 30 0 = σ 19 0 := (gS_L h).1.2.2.2.2
theorem gS_14 (h : gS t m o B κ A ρ σ) {j : Int} (hj : 0 ≤ j ∧ j < 120) : ρ 14 j = σ 2 j := (gS_L h).2.1.1 j hj.1 hj.2
theorem gS_18 (h : gS t m o B κ A ρ σ) {e : Int} (he : 0 ≤ e ∧ e < 30) : ρ 18 e = σ 7 e := (gS_L h).2.1.2.2.1 e he.1 he.2
theorem gS_pr (h : gS t m o B κ A ρ σ) {e : Int} : pr ρ e ↔ (0 ≤ e ∧ e < σ 14 0 ∧ σ 7 e ≠ 0) := by
  have hn := (gS_b h).s14 0
  have h1 := gS_19 h
  constructor
  · intro ⟨a, b, c⟩
    refine ⟨a, by omega, ?_⟩
    rw [← gS_18 h (by omega)]
    exact c
  · intro ⟨a, b, c⟩
    refine ⟨a, by omega, ?_⟩
    rw [gS_18 h (by omega)]
    exact c
theorem gS_cpr (h : gS t m o B κ A ρ σ) {e : Int} (he : pr ρ e) : 0 ≤ e ∧ e < κ 24 0 0 ∧ κ 36 e 0 ≠ 0 := ((gS_R h).xpr e).mpr he
theorem gS_pb (h : gS t m o B κ A ρ σ) {e : Int} (he : pr ρ e) : (0 ≤ e ∧ e < σ 14 0) ∧ σ 14 0 ≤ 30 ∧ e < κ 24 0 0 := by
  have h1 := (gS_pr h).mp he
  have h2 := (gS_b h).s14 0
  have h3 := gS_n h
  omega
/-- the law's scratch -/
theorem gS_E (h : gS t m o B κ A ρ σ) (hE : wE σ' σ) (hB : wB σ') : gS t m o B κ A ρ σ' := by
  obtain ⟨h1, h2, h3, h4, h5, h6, h7, h8⟩ := h
  refine ⟨h1, h2, h3, h4, wL_E hE h5, hB, ?_, fun ho => wO_E hE (h8.1 ho), h8.2⟩
  rw [hE 2 (by decide) (by decide) (by decide)]
  exact h7
theorem gS_m {m' : Int} (h : gS t m o B κ A ρ σ) (hm : m ≤ m') : gS t m' o B κ A ρ σ := by
  obtain ⟨h1, h2, h3, h4, h5, h6, h7, h8⟩ := h
  exact ⟨h1, h2, h3, h4, h5, h6, fun j => ⟨by have := (h7 j).1; omega, by have := (h7 j).2; omega⟩, h8⟩
theorem gS_t {t' : Nat} (h : gS t m o B κ A ρ σ) (ht : t ≤ t') : gS t' m o B κ A ρ σ := by
  obtain ⟨h1, h2, h3, h4, h5⟩ := h
  refine ⟨h1, h2, h3, ?_, h5⟩
  obtain ⟨k1, a1, a2, a3, a4, a5, a6⟩ := h4
  exact ⟨k1, a1, a2, a3, a4, ⟨a5.1, by have := a5.2; omega⟩, a6⟩
/-- the class's scratch, as the trials leave it -/
theorem gS_Et (h : gS t m o B κ A ρ σ) (hE : kEt κ' κ) : gS t m o B κ' A ρ σ := by
  have hV := gS_V h
  obtain ⟨h1, h2, h3, h4, h5⟩ := h
  exact ⟨⟨h1.1, fun k hk t i hl => h1.2 k hk t i ((kEt_L hE t i).mp hl)⟩, kEt_J hE h2, ⟨kEt_V hE h3.1, hE.2.2.2⟩, jJ_Et hV hE h4, h5⟩
theorem gS_r2 (h : gS t m o B κ A ρ σ) {R : Int → Int} (hR : ∀ j, -200000 ≤ R j ∧ R j ≤ 200000) : gS t m o B (k_r κ 2 0 R) A ρ σ := by
  have hV := gS_V h
  obtain ⟨h1, h2, h3, h4, h5⟩ := h
  exact ⟨⟨h1.1, fun k hk t i hl => h1.2 k hk t i ((cL_r (by decide) t i).mp hl)⟩, cJ_r (by decide) h2, ⟨cV_r hV (by decide), cS_r h3.2 (by decide) hR⟩, jJ_r2 hV (Or.inl rfl) h4, h5⟩
theorem gS_r3 (h : gS t m o B κ A ρ σ) {R : Int → Int} (hR : ∀ j, -1 ≤ R j ∧ R j ≤ 30) : gS t m o B (k_r κ 3 0 R) A ρ σ := by
  have hV := gS_V h
  obtain ⟨h1, h2, h3, h4, h5⟩ := h
  exact ⟨⟨h1.1, fun k hk t i hl => h1.2 k hk t i ((cL_r (by decide) t i).mp hl)⟩, cJ_r (by decide) h2, ⟨cV_r hV (by decide), cS_r h3.2 (by decide) hR⟩, jJ_r2 hV (Or.inr rfl) h4, h5⟩
theorem wI_vl (h : gS t m o B κ A ρ σ) (ho : o) {e c : Int} (he : 0 ≤ e ∧ e < 30) (hc : 0 ≤ c ∧ c < σ 15 0) : vl ρ e c = σ 4 (4 * c) * σ 2 (4 * e) + σ 4 (4 * c + 1) * σ 2 (4 * e + 1) + σ 4 (4 * c + 2) * σ 2 (4 * e + 2) + σ 4 (4 * c + 3) * σ 2 (4 * e + 3) := by
  have hO := gS_O h ho
  unfold vl
  rw [hO.2.1 (4 * c) (by omega) (by omega), hO.2.1 (4 * c + 1) (by omega) (by omega), hO.2.1 (4 * c + 2) (by omega) (by omega), hO.2.1 (4 * c + 3) (by omega) (by omega), gS_14 h (by omega), gS_14 h (by omega), gS_14 h (by omega), gS_14 h (by omega)]
end
end LNK
