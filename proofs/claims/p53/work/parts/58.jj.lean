/-! THE MODEL beside the class: numbers, what the relation does not look at. -/
section JJ
/-- the model's numbers -/
def jM (t : Nat) (σ : z_S) : Prop := mB σ ∧ mV σ ∧ m11 σ ∧ (∀ i, -100000 ≤ σ 17 i ∧ σ 17 i ≤ 100000) ∧ (0 ≤ σ 20 0 ∧ σ 20 0 ≤ t) ∧ (∀ i, -3996 ≤ σ 9 i ∧ σ 9 i ≤ 3996) ∧ (0 ≤ σ 5 0 ∧ σ 5 0 ≤ 100) ∧ ∀ e, jIl σ e → 0 ≤ σ 22 e
def jJ (t : Nat) (κ : c_K) (σ : z_S) : Prop := jR κ σ ∧ jM t σ
section
variable {t : Nat} {κ κ' : c_K} {σ ρ : z_S}
theorem jJ.mono (h : jJ t κ σ) : jJ (t + 1) κ σ := by
  obtain ⟨h1, a1, a2, a3, a4, a5, a6⟩ := h
  exact ⟨h1, a1, a2, a3, a4, ⟨a5.1, by have := a5.2; omega⟩, a6⟩
theorem jJ.B (h : jJ t κ σ) : mB σ := h.2.1
theorem jJ.V (h : jJ t κ σ) : mV σ := h.2.2.1
theorem jJ.m11 (h : jJ t κ σ) : m11 σ := h.2.2.2.1
theorem jJ.b17 (h : jJ t κ σ) : ∀ i, -100000 ≤ σ 17 i ∧ σ 17 i ≤ 100000 := h.2.2.2.2.1
theorem jJ.b20 (h : jJ t κ σ) : 0 ≤ σ 20 0 ∧ σ 20 0 ≤ t := h.2.2.2.2.2.1
theorem jJ.D (h : jJ t κ σ) : mD σ := h.1.l.2.2
theorem jJ.E (h : jJ t κ σ) : mE σ := h.1.xmE h.V
/-- what the relation does not look at -/
theorem jR_m (hk : ∀ k, ¬ (k = 0 ∨ k = 4 ∨ k = 5 ∨ k = 6 ∨ k = 7 ∨ k = 9 ∨ k = 11 ∨ k = 13 ∨ k = 24 ∨ k = 31) → ρ k = σ k) (h : jR κ σ) : jR κ ρ := by
  have e : ρ = fun k => if k = 0 ∨ k = 4 ∨ k = 5 ∨ k = 6 ∨ k = 7 ∨ k = 9 ∨ k = 11 ∨ k = 13 ∨ k = 24 ∨ k = 31 then ρ k else σ k := by
    funext k
    by_cases c : k = 0 ∨ k = 4 ∨ k = 5 ∨ k = 6 ∨ k = 7 ∨ k = 9 ∨ k = 11 ∨ k = 13 ∨ k = 24 ∨ k = 31
    · exact (if_pos c).symm
    · exact (hk k c).trans (if_neg c).symm
  exact Eq.subst (motive := fun s => jR κ s) e.symm (show jR κ (fun k => if k = 0 ∨ k = 4 ∨ k = 5 ∨ k = 6 ∨ k = 7 ∨ k = 9 ∨ k = 11 ∨ k = 13 ∨ k = 24 ∨ k = 31 then ρ k else σ k) from h)
theorem jR_u0 (h : jR κ σ) {k : Nat} {i v : Int} (hk : k = 0 ∨ k = 4 ∨ k = 5 ∨ k = 6 ∨ k = 7 ∨ k = 9 ∨ k = 11 ∨ k = 13 ∨ k = 24 ∨ k = 31) : jR κ (z_u σ k i v) := jR_m (fun m hm => z_u_ne (fun e => hm (by rw [e]; exact hk))) h
theorem jM_0 (h : jM t σ) {v : Int} (hv : -1000000 ≤ v ∧ v ≤ 1000000) : jM t (z_u σ 0 0 v) := ⟨mB_u h.1 hv, h.2.1, h.2.2.1, h.2.2.2.1, h.2.2.2.2.1, h.2.2.2.2.2.1, h.2.2.2.2.2.2.1, h.2.2.2.2.2.2.2⟩
theorem jJ_0 (h : jJ t κ σ) {v : Int} (hv : -1000000 ≤ v ∧ v ≤ 1000000) : jJ t κ (z_u σ 0 0 v) := ⟨jR_u0 h.1 (by omega), jM_0 h.2 hv⟩
theorem jJ_x (h : jJ t κ σ) : jJ t κ (z_u σ 0 0 0) := jJ_0 h (by omega)
theorem jJ_c (h : jJ t κ σ) {c : Int} (hc : c = 0 ∨ c = 1 ∨ c = 2) : jJ (t + 1) κ (z_u (z_u σ 0 0 0) 0 0 c) := (jJ_0 (jJ_x h) (by omega)).mono
/-- the class's rows of work, its drafts, its trials -/
theorem jR_k (hV : cV κ) (hk : ∀ (k : Nat) (i : Int), ¬ (k = 2 ∨ k = 3 ∨ (6 ≤ k ∧ k ≤ 10) ∨ k = 25 ∨ k = 26) → 0 ≤ i → ¬ (i = 1 - κ 17 0 0 ∧ (k = 12 ∨ k = 14 ∨ k = 16)) → κ' k i = κ k i) (hv : mV σ) (h : jR κ σ) : jR κ' σ := by
  have h17 := hV.2.2.2.1
  have e17 : κ' 17 0 0 = κ 17 0 0 := by rw [hk 17 0 (by omega) (by omega) (by omega)]
  have ek : ∀ (k : Nat) (i : Int), ¬ (k = 2 ∨ k = 3 ∨ (6 ≤ k ∧ k ≤ 10) ∨ k = 25 ∨ k = 26) → ¬ (k = 12 ∨ k = 14 ∨ k = 16) → 0 ≤ i → κ' k i = κ k i := fun k i a b c => hk k i a c (fun z => b z.2)
  obtain ⟨ht, ha, ho, he, hz, hs, hp, hl, hm, hj⟩ := h
  refine ⟨?_, ?_, ?_, fun e h0 h1 => ?_, hz, ?_, ?_, ?_, hm, hj⟩
  · unfold TR
    rw [ek 5 0 (by omega) (by omega) (by omega), ek 4 0 (by omega) (by omega) (by omega)]
    exact ht
  · unfold jRa
    rw [ek 0 0 (by omega) (by omega) (by omega), ek 1 0 (by omega) (by omega) (by omega), ek 18 0 (by omega) (by omega) (by omega), ek 19 0 (by omega) (by omega) (by omega), ek 24 0 (by omega) (by omega) (by omega)]
    exact ha
  · unfold jRo
    rw [e17, hk 16 (κ 17 0 0) (by omega) (by omega) (by omega), hk 12 (κ 17 0 0) (by omega) (by omega) (by omega), hk 14 (κ 17 0 0) (by omega) (by omega) (by omega)]
    exact ho
  · have q := he e h0 h1
    unfold jRe jRt at q ⊢
    unfold mrt at q ⊢
    rw [ek 30 e (by omega) (by omega) h0, ek 35 e (by omega) (by omega) h0, ek 36 e (by omega) (by omega) h0, ek 33 e (by omega) (by omega) h0, ek 32 e (by omega) (by omega) h0, ek 37 e (by omega) (by omega) h0, ek 38 e (by omega) (by omega) h0, ek 31 e (by omega) (by omega) h0, ek 39 e (by omega) (by omega) h0, ek 40 e (by omega) (by omega) h0]
    exact q
  · unfold jRs
    rw [ek 20 1 (by omega) (by omega) (by omega), ek 24 1 (by omega) (by omega) (by omega)]
    refine ⟨hs.1, fun i h0 h1 => ?_⟩
    rw [ek 37 _ (by omega) (by omega) (hs.1.2.1 i h0 h1).1]
    exact hs.2 i h0 h1
  · unfold jRp
    rw [ek 20 2 (by omega) (by omega) (by omega), ek 24 2 (by omega) (by omega) (by omega)]
    exact hp
  · unfold jRl
    rw [ek 20 3 (by omega) (by omega) (by omega), ek 24 3 (by omega) (by omega) (by omega)]
    exact hl
theorem jJ_k (hV : cV κ) (hk : ∀ (k : Nat) (i : Int), ¬ (k = 2 ∨ k = 3 ∨ (6 ≤ k ∧ k ≤ 10) ∨ k = 25 ∨ k = 26) → 0 ≤ i → ¬ (i = 1 - κ 17 0 0 ∧ (k = 12 ∨ k = 14 ∨ k = 16)) → κ' k i = κ k i) (h : jJ t κ σ) : jJ t κ' σ := ⟨jR_k hV hk h.V h.1, h.2⟩
theorem jJ_Et (hV : cV κ) (hE : kEt κ' κ) (h : jJ t κ σ) : jJ t κ' σ := jJ_k hV (fun k i _ h0 _ => hE.1 k i (Or.inr (by omega))) h
theorem jJ_r2 (hV : cV κ) {k : Nat} {R : Int → Int} (hk : k = 2 ∨ k = 3) (h : jJ t κ σ) : jJ t (k_r κ k 0 R) σ := jJ_k hV (fun m i a _ _ => by rw [k_r_ne (by omega)]) h
end
end JJ
