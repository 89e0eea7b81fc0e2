/-! THE MODEL's groups and standings that are apart (laid by wip/whole/gen/gm3.py). -/
section M3
/-- every place up to the number of entrants has one -/
def mE (σ : z_S) : Prop := ∀ p, 1 ≤ p → p ≤ my σ → ea σ p ≠ -1
def ogL (σ : z_S) (g : Int) : Nat → Int → Int → Int
  | 0, _, _ => -1
  | f + 1, p, u => if σ 15 (ea σ p) ≠ g then ogL σ g f (p + 1) u else if u = 0 then ea σ p else ogL σ g f (p + 1) (u - 1)
def yOg (σ : z_S) (g i : Int) : Int := ogL σ g (my σ + 1 - 1).toNat 1 i
theorem og_s {σ : z_S} {g m p u : Int} (h : p < m) (h1 : σ 15 (ea σ p) ≠ g) : ogL σ g (m - p).toNat p u = ogL σ g (m - (p + 1)).toNat (p + 1) u := by
  rw [show (m - p).toNat = (m - (p + 1)).toNat + 1 by omega]
  exact if_pos h1
theorem og_r {σ : z_S} {g m p u : Int} (h : p < m) (h1 : σ 15 (ea σ p) = g) (h2 : u = 0) : ogL σ g (m - p).toNat p u = ea σ p := by
  rw [show (m - p).toNat = (m - (p + 1)).toNat + 1 by omega]
  show (if σ 15 (ea σ p) ≠ g then _ else if u = 0 then ea σ p else _) = _
  rw [if_neg (fun q => q h1), if_pos h2]
theorem og_d {σ : z_S} {g m p u : Int} (h : p < m) (h1 : σ 15 (ea σ p) = g) (h2 : u ≠ 0) : ogL σ g (m - p).toNat p u = ogL σ g (m - (p + 1)).toNat (p + 1) (u - 1) := by
  rw [show (m - p).toNat = (m - (p + 1)).toNat + 1 by omega]
  show (if σ 15 (ea σ p) ≠ g then _ else if u = 0 then ea σ p else _) = _
  rw [if_neg (fun q => q h1), if_neg h2]
theorem og_e {σ : z_S} {g m p u : Int} (h : m ≤ p) : ogL σ g (m - p).toNat p u = -1 := by
  rw [show (m - p).toNat = 0 by omega]
  rfl
theorem ogL_b {σ : z_S} (hE : mE σ) (hV : mV σ) {g : Int} : ∀ (f : Nat) (p u : Int), 1 ≤ p → p + f ≤ my σ + 1 → ogL σ g f p u = -1 ∨ (0 ≤ ogL σ g f p u ∧ ogL σ g f p u < σ 19 0 ∧ ogL σ g f p u < 30) := by
  intro f
  induction f with
  | zero => intro p u _ _; exact Or.inl rfl
  | succ f ih =>
    intro p u h1 h2
    show ite _ _ _ = _ ∨ (_ ≤ ite _ _ _ ∧ ite _ _ _ < _ ∧ ite _ _ _ < _)
    split
    · exact ih _ _ (by omega) (by omega)
    · split
      · have := hE p h1 (by omega)
        rcases ea_b hV (p := p) with h | h
        · exact absurd h this
        · exact Or.inr ⟨h.1, h.2.1, h.2.2.1⟩
      · exact ih _ _ (by omega) (by omega)
theorem yOg_b {σ : z_S} (hE : mE σ) (hV : mV σ) (g i : Int) : yOg σ g i = -1 ∨ (0 ≤ yOg σ g i ∧ yOg σ g i < σ 19 0 ∧ yOg σ g i < 30) := ogL_b hE hV _ _ _ (by omega) (by have := my_b hV; omega)
theorem ogL_m {σ : z_S} (hE : mE σ) {g : Int} : ∀ (f : Nat) (p u : Int), 1 ≤ p → p + f ≤ my σ + 1 → 0 ≤ u → ogL σ g f p (u + 1) ≠ -1 → ogL σ g f p u ≠ -1 := by
  intro f
  induction f with
  | zero => intro p u _ _ _ h; exact fun _ => h rfl
  | succ f ih =>
    intro p u h1 h2 h3
    show ite _ _ _ ≠ _ → ite _ _ _ ≠ _
    by_cases c1 : σ 15 (ea σ p) ≠ g
    · rw [if_pos c1, if_pos c1]
      exact ih _ _ (by omega) (by omega) h3
    · rw [if_neg c1, if_neg c1, if_neg (show ¬ u + 1 = 0 by omega)]
      intro h
      by_cases c2 : u = 0
      · rw [if_pos c2]; exact hE p h1 (by omega)
      · rw [if_neg c2]
        rw [show u + 1 - 1 = (u - 1) + 1 by omega] at h
        exact ih _ _ (by omega) (by omega) (by omega) h
theorem yOg_m {σ : z_S} (hE : mE σ) (hV : mV σ) (g : Int) {i : Int} (hi : 0 ≤ i) (h : yOg σ g (i + 1) ≠ -1) : yOg σ g i ≠ -1 := ogL_m hE _ _ _ (by omega) (by have := my_b hV; omega) hi h
def yTm (σ : z_S) (g : Int) : Int := if yOg σ g 2 = -1 then -1 else pl σ (yOg σ g 0) + pl σ (yOg σ g 1) + pl σ (yOg σ g 2)
theorem yTm_o {σ : z_S} (hE : mE σ) (hV : mV σ) {g : Int} (h : yTm σ g ≠ -1) : (0 ≤ yOg σ g 0 ∧ yOg σ g 0 < 30) ∧ (0 ≤ yOg σ g 1 ∧ yOg σ g 1 < 30) ∧ (0 ≤ yOg σ g 2 ∧ yOg σ g 2 < 30) := by
  have h2 : yOg σ g 2 ≠ -1 := fun e => h (if_pos e)
  have h1 : yOg σ g 1 ≠ -1 := yOg_m hE hV g (by omega) h2
  have h0 : yOg σ g 0 ≠ -1 := yOg_m hE hV g (by omega) h1
  have b0 := yOg_b hE hV g 0
  have b1 := yOg_b hE hV g 1
  have b2 := yOg_b hE hV g 2
  omega
theorem yTm_b {σ : z_S} (hE : mE σ) (hV : mV σ) (g : Int) : -1 ≤ yTm σ g ∧ yTm σ g ≤ 600 := by
  by_cases h : yOg σ g 2 = -1
  · rw [show yTm σ g = -1 from if_pos h]; omega
  · have e : yTm σ g = pl σ (yOg σ g 0) + pl σ (yOg σ g 1) + pl σ (yOg σ g 2) := if_neg h
    have h1 : yOg σ g 1 ≠ -1 := yOg_m hE hV g (by omega) h
    have h0 : yOg σ g 0 ≠ -1 := yOg_m hE hV g (by omega) h1
    have b0 := yOg_b hE hV g 0
    have b1 := yOg_b hE hV g 1
    have b2 := yOg_b hE hV g 2
    have c0 := pl_b hV (e := yOg σ g 0) (by omega)
    have c1 := pl_b hV (e := yOg σ g 1) (by omega)
    have c2 := pl_b hV (e := yOg σ g 2) (by omega)
    omega
abbrev yGa (σ : z_S) (g o : Int) : Prop := yTm σ g < yTm σ o ∨ (yTm σ g = yTm σ o ∧ pl σ (yOg σ g 0) < pl σ (yOg σ o 0))
abbrev yAq (σ : z_S) (r o e f : Int) : Prop := yPi σ r e ≠ -1 ∧ yPi σ r f ≠ -1 ∧ yPi σ o e ≠ -1 ∧ yPi σ o f ≠ -1 ∧ ¬ (yPi σ r e < yPi σ r f ↔ yPi σ o e < yPi σ o f)
def yAp (σ : z_S) (r o : Int) : Int := z_sm (fun e => z_sm (fun f => if yAq σ r o e f then (1 : Int) else 0) e) (σ 19 0)

def S_best (σ : z_S) (g : Int) (c r : Int) : Prop := if 0 ≤ g ∧ g ≤ 4 then c = 0 ∧ r = yOg σ g 0 else c = 1
def S_teamScore (σ : z_S) (g : Int) (c r : Int) : Prop := if 0 ≤ g ∧ g ≤ 4 then c = 0 ∧ r = yTm σ g else c = 1
def yGh (σ : z_S) (g : Int) : Int := 1 + z_sm (fun o => if o ≠ g ∧ yTm σ o ≠ -1 ∧ yGa σ o g then (1 : Int) else 0) 5
def S_groupAt (σ : z_S) (p : Int) (c r : Int) : Prop := if z_ff (fun g => yTm σ g ≠ -1 ∧ yGh σ g = p) 5 = -1 then c = 1 else c = 0 ∧ r = z_ff (fun g => yTm σ g ≠ -1 ∧ yGh σ g = p) 5
def S_inversions (σ : z_S) (r0 q : Int) (c r : Int) : Prop := if (r0 = -1 ∨ kp σ r0) ∧ (q = -1 ∨ kp σ q) then c = 0 ∧ r = yAp σ r0 q else c = 1
def S_swaps (σ : z_S) (r0 q : Int) (c r : Int) : Prop := if (r0 = -1 ∨ kp σ r0) ∧ (q = -1 ∨ kp σ q) then c = 0 ∧ r = yAp σ r0 q else c = 1
end M3
