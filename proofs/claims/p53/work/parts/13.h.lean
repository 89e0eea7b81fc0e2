/-! THE MODEL's methods: what they answer (laid by wip/whole/gen/gm1.py). -/
section M1
def mB (σ : z_S) : Prop := ∀ (k : Nat) (i : Int), -1000000 ≤ σ k i ∧ σ k i ≤ 1000000
/-- what holds of the model's state: factors, scores, came, criteria, isThere, isGreater, ladderMany, ladder, looked, rounds, tapeMany, reach, patience, tape, group -/
def mV (σ : z_S) : Prop := (∀ i : Int, -3996 ≤ σ 8 i ∧ σ 8 i ≤ 3996) ∧ (∀ i : Int, -100000 ≤ σ 14 i ∧ σ 14 i ≤ 100000) ∧ (0 ≤ σ 19 0 ∧ σ 19 0 ≤ 30) ∧ (1 ≤ σ 12 0 ∧ σ 12 0 ≤ 4) ∧ (∀ i : Int, σ 18 i = 0 ∨ σ 18 i = 1) ∧ (∀ i : Int, σ 10 i = 0 ∨ σ 10 i = 1) ∧
  (0 ≤ σ 25 0 ∧ σ 25 0 ≤ 30) ∧ (∀ i : Int, 0 ≤ σ 21 i ∧ σ 21 i < 30) ∧ (∀ i : Int, 0 ≤ σ 24 i ∧ σ 24 i < 30) ∧ (0 ≤ σ 30 0 ∧ σ 30 0 ≤ 200) ∧ (0 ≤ σ 2 0 ∧ σ 2 0 ≤ 100) ∧ (1 ≤ σ 26 0 ∧ σ 26 0 ≤ 5) ∧ (1 ≤ σ 27 0 ∧ σ 27 0 ≤ 9) ∧ (∀ i : Int, 0 ≤ σ 1 i ∧ σ 1 i ≤ 255) ∧ (∀ i : Int, 0 ≤ σ 15 i ∧ σ 15 i ≤ 4)
theorem z_bl01 (p : Prop) [Decidable p] : z_bl p = 0 ∨ z_bl p = 1 := by
  unfold z_bl
  split <;> omega
theorem z_bl_t {p : Prop} [Decidable p] (hp : p) : z_bl p = 1 := if_pos hp
theorem z_bl_f {p : Prop} [Decidable p] (hp : ¬ p) : z_bl p = 0 := if_neg hp
-- a search
def z_fi (P : Int → Prop) [DecidablePred P] : Nat → Int → Int
  | 0, _ => -1
  | f + 1, i => if P i then i else z_fi P f (i + 1)
def z_ff (P : Int → Prop) [DecidablePred P] (n : Int) : Int := z_fi P (n - 0).toNat 0
theorem z_fi_t {P : Int → Prop} [DecidablePred P] {n i : Int} (h : i < n) (hp : P i) : z_fi P (n - i).toNat i = i := by
  rw [show (n - i).toNat = (n - (i + 1)).toNat + 1 by omega]
  exact if_pos hp
theorem z_fi_f {P : Int → Prop} [DecidablePred P] {n i : Int} (h : i < n) (hp : ¬ P i) : z_fi P (n - i).toNat i = z_fi P (n - (i + 1)).toNat (i + 1) := by
  rw [show (n - i).toNat = (n - (i + 1)).toNat + 1 by omega]
  exact if_neg hp
theorem z_fi_e {P : Int → Prop} [DecidablePred P] {n i : Int} (h : n ≤ i) : z_fi P (n - i).toNat i = -1 := by
  rw [show (n - i).toNat = 0 by omega]
  rfl
theorem z_fi_s {P : Int → Prop} [DecidablePred P] : ∀ (f : Nat) (i : Int), (z_fi P f i = -1 ∧ ∀ j, i ≤ j → j < i + f → ¬ P j) ∨ (i ≤ z_fi P f i ∧ z_fi P f i < i + f ∧ P (z_fi P f i) ∧ ∀ j, i ≤ j → j < z_fi P f i → ¬ P j) := by
  intro f
  induction f with
  | zero => intro i; exact Or.inl ⟨rfl, fun j h1 h2 => by omega⟩
  | succ f ih =>
    intro i
    show (ite _ _ _ = _ ∧ _) ∨ (_ ≤ ite _ _ _ ∧ ite _ _ _ < _ ∧ P (ite _ _ _) ∧ ∀ j, _ → j < ite _ _ _ → _)
    by_cases hp : P i
    · rw [if_pos hp]
      exact Or.inr ⟨by omega, by omega, hp, fun j h1 h2 => by omega⟩
    · rw [if_neg hp]
      rcases ih (i + 1) with ⟨h1, h2⟩ | ⟨h1, h2, h3, h4⟩
      · refine Or.inl ⟨h1, fun j h3 h4 => ?_⟩
        by_cases e : j = i
        · rw [e]; exact hp
        · exact h2 j (by omega) (by omega)
      · refine Or.inr ⟨by omega, by omega, h3, fun j h5 h6 => ?_⟩
        by_cases e : j = i
        · rw [e]; exact hp
        · exact h4 j (by omega) h6
theorem z_ff_s (P : Int → Prop) [DecidablePred P] (n : Int) : (z_ff P n = -1 ∧ ∀ j, 0 ≤ j → j < n → ¬ P j) ∨ (0 ≤ z_ff P n ∧ z_ff P n < n ∧ P (z_ff P n) ∧ ∀ j, 0 ≤ j → j < z_ff P n → ¬ P j) := by
  unfold z_ff
  rcases z_fi_s (P := P) (n - 0).toNat 0 with ⟨h1, h2⟩ | ⟨h1, h2, h3, h4⟩
  · exact Or.inl ⟨h1, fun j h3 h4 => h2 j h3 (by omega)⟩
  · exact Or.inr ⟨h1, by omega, h3, h4⟩
theorem z_ct_b (P : Int → Prop) [DecidablePred P] {n : Int} (hn : 0 ≤ n) : 0 ≤ z_sm (fun i => if P i then (1 : Int) else 0) n ∧ z_sm (fun i => if P i then (1 : Int) else 0) n ≤ n := by
  have := z_sm_le (f := fun i => if P i then (1 : Int) else 0) (a := 0) (b := 1) hn (fun i _ _ => by
    show 0 ≤ (if P i then (1 : Int) else 0) ∧ (if P i then (1 : Int) else 0) ≤ 1
    split <;> omega)
  omega
theorem m_pr {a b F S : Int} (ha : -F ≤ a ∧ a ≤ F) (hb : -S ≤ b ∧ b ≤ S) (hF : 0 ≤ F) (hS : 0 ≤ S) : -(F * S) ≤ a * b ∧ a * b ≤ F * S := by
  have h1 : a.natAbs ≤ F.toNat := by omega
  have h2 : b.natAbs ≤ S.toNat := by omega
  have h3 : (a * b).natAbs ≤ F.toNat * S.toNat := by rw [Int.natAbs_mul]; exact Nat.mul_le_mul h1 h2
  have h4 : ((F.toNat * S.toNat : Nat) : Int) = F * S := by rw [Int.natCast_mul, Int.toNat_of_nonneg hF, Int.toNat_of_nonneg hS]
  omega
/-- the bytes of a word that are not 0 -/
def yBy (v : Int) : Int := (if v / 1 % 256 = 0 then 0 else 1) + (if v / 256 % 256 = 0 then 0 else 1) + (if v / 65536 % 256 = 0 then 0 else 1) + (if v / 16777216 % 256 = 0 then 0 else 1)
theorem yBy_b (v : Int) : 0 ≤ yBy v ∧ yBy v ≤ 4 := by unfold yBy; omega
abbrev sgn (b : Int) : Prop := b = 62 ∨ b = 60 ∨ b = 43 ∨ b = 45 ∨ b = 42 ∨ b = 59
/-- the value of a criterion -/
def vl (σ : z_S) (e c : Int) : Int := σ 8 (4 * c) * σ 14 (4 * e) + σ 8 (4 * c + 1) * σ 14 (4 * e + 1) + σ 8 (4 * c + 2) * σ 14 (4 * e + 2) + σ 8 (4 * c + 3) * σ 14 (4 * e + 3)
theorem vl_b {σ : z_S} (hV : mV σ) (e c : Int) : -1598400000 ≤ vl σ e c ∧ vl σ e c ≤ 1598400000 := by
  have h (k : Int) (j : Int) := m_pr (hV.1 (4 * c + k)) (hV.2.1 (4 * e + j)) (by omega) (by omega)
  have h0 := m_pr (hV.1 (4 * c)) (hV.2.1 (4 * e)) (by omega) (by omega)
  have h1 := h 1 1
  have h2 := h 2 2
  have h3 := h 3 3
  unfold vl
  omega
/-- 1 if better, -1 if worse, 0 if alike: from the criterion c on -/
def cm (σ : z_S) (e o : Int) : Nat → Int → Int
  | 0, _ => 0
  | f + 1, c => if vl σ e c = vl σ o c then cm σ e o f (c + 1) else if (vl σ o c < vl σ e c) ↔ (σ 10 c = 1) then 1 else -1
def cp (σ : z_S) (e o : Int) : Int := cm σ e o (σ 12 0 - 0).toNat 0
theorem cm_f {σ : z_S} {e o n c : Int} (h : c < n) (hp : vl σ e c = vl σ o c) : cm σ e o (n - c).toNat c = cm σ e o (n - (c + 1)).toNat (c + 1) := by
  rw [show (n - c).toNat = (n - (c + 1)).toNat + 1 by omega]
  exact if_pos hp
theorem cm_t {σ : z_S} {e o n c : Int} (h : c < n) (hp : ¬ vl σ e c = vl σ o c) : cm σ e o (n - c).toNat c = if (vl σ o c < vl σ e c) ↔ (σ 10 c = 1) then 1 else -1 := by
  rw [show (n - c).toNat = (n - (c + 1)).toNat + 1 by omega]
  exact if_neg hp
theorem cm_e {σ : z_S} {e o n c : Int} (h : n ≤ c) : cm σ e o (n - c).toNat c = 0 := by
  rw [show (n - c).toNat = 0 by omega]
  rfl
theorem cm_b (σ : z_S) (e o : Int) : ∀ (f : Nat) (c : Int), -1 ≤ cm σ e o f c ∧ cm σ e o f c ≤ 1 := by
  intro f
  induction f with
  | zero => intro c; show -1 ≤ (0 : Int) ∧ (0 : Int) ≤ 1; omega
  | succ f ih =>
    intro c
    show -1 ≤ ite _ _ _ ∧ ite _ _ _ ≤ 1
    split
    · exact ih _
    · split <;> omega
theorem cp_b (σ : z_S) (e o : Int) : -1 ≤ cp σ e o ∧ cp σ e o ≤ 1 := cm_b σ e o _ _
abbrev pr (σ : z_S) (e : Int) : Prop := 0 ≤ e ∧ e < σ 19 0 ∧ σ 18 e ≠ 0
def bt (σ : z_S) (e : Int) : Int := z_sm (fun o => if σ 18 o ≠ 0 ∧ 0 < cp σ o e then (1 : Int) else 0) (σ 19 0)
def al (σ : z_S) (e : Int) : Int := z_sm (fun o => if σ 18 o ≠ 0 ∧ cp σ o e = 0 then (1 : Int) else 0) (σ 19 0)
def pl (σ : z_S) (e : Int) : Int := bt σ e + 1 + z_sm (fun o => if σ 18 o ≠ 0 ∧ cp σ o e = 0 then (1 : Int) else 0) e
def my (σ : z_S) : Int := z_sm (fun o => if σ 18 o ≠ 0 then (1 : Int) else 0) (σ 19 0)
def ea (σ : z_S) (p : Int) : Int := z_ff (fun e => σ 18 e ≠ 0 ∧ pl σ e = p) (σ 19 0)
abbrev isF (σ : z_S) (e : Int) : Prop := z_ff (fun o => σ 18 o ≠ 0 ∧ cp σ o e = 0) e = -1 ∧ σ 18 e ≠ 0
def dn (σ : z_S) (e : Int) : Int := 1 + z_sm (fun o => if isF σ o ∧ 0 < cp σ o e then (1 : Int) else 0) (σ 19 0)
def tm (σ : z_S) (e : Int) : Int := 2 * bt σ e + al σ e + 1
theorem bt_b {σ : z_S} (hV : mV σ) (e : Int) : 0 ≤ bt σ e ∧ bt σ e ≤ 30 := by
  have := z_ct_b (fun o => σ 18 o ≠ 0 ∧ 0 < cp σ o e) hV.2.2.1.1
  have := hV.2.2.1
  unfold bt
  omega
theorem al_b {σ : z_S} (hV : mV σ) (e : Int) : 0 ≤ al σ e ∧ al σ e ≤ 30 := by
  have := z_ct_b (fun o => σ 18 o ≠ 0 ∧ cp σ o e = 0) hV.2.2.1.1
  have := hV.2.2.1
  unfold al
  omega
theorem pl_b {σ : z_S} (hV : mV σ) {e : Int} (he : 0 ≤ e ∧ e ≤ 100) : 1 ≤ pl σ e ∧ pl σ e ≤ 200 := by
  have := z_ct_b (fun o => σ 18 o ≠ 0 ∧ cp σ o e = 0) he.1
  have := bt_b hV e
  unfold pl
  omega
theorem my_b {σ : z_S} (hV : mV σ) : 0 ≤ my σ ∧ my σ ≤ σ 19 0 ∧ σ 19 0 ≤ 30 := by
  have := z_ct_b (fun o => σ 18 o ≠ 0) hV.2.2.1.1
  have := hV.2.2.1
  unfold my
  omega
theorem tm_b {σ : z_S} (hV : mV σ) {e : Int} : 0 ≤ tm σ e ∧ tm σ e ≤ 100 := by
  have := bt_b hV e
  have := al_b hV e
  unfold tm
  omega
theorem ea_b {σ : z_S} (hV : mV σ) {p : Int} : ea σ p = -1 ∨ (0 ≤ ea σ p ∧ ea σ p < σ 19 0 ∧ ea σ p < 30 ∧ σ 18 (ea σ p) ≠ 0 ∧ pl σ (ea σ p) = p) := by
  have := hV.2.2.1
  rcases z_ff_s (fun e => σ 18 e ≠ 0 ∧ pl σ e = p) (σ 19 0) with ⟨h1, -⟩ | ⟨h1, h2, h3, -⟩
  · exact Or.inl h1
  · exact Or.inr ⟨h1, h2, by show z_ff _ _ < 30; omega, h3.1, h3.2⟩
def yLs (σ : z_S) (e : Int) : Int := z_sm (fun o => if σ 18 o ≠ 0 ∧ σ 14 (4 * o) < σ 14 (4 * e) then (1 : Int) else 0) (σ 19 0)
def ySa (σ : z_S) (e : Int) : Int := z_sm (fun o => if σ 18 o ≠ 0 ∧ σ 14 (4 * o) = σ 14 (4 * e) then (1 : Int) else 0) (σ 19 0)
def yPa (σ : z_S) (p : Int) : Int := if z_ff (fun e => σ 18 e ≠ 0 ∧ yLs σ e + 1 ≤ p ∧ p ≤ yLs σ e + ySa σ e) (σ 19 0) = -1 then 0 else σ 14 (4 * z_ff (fun e => σ 18 e ≠ 0 ∧ yLs σ e + 1 ≤ p ∧ p ≤ yLs σ e + ySa σ e) (σ 19 0))
def lp (σ : z_S) (e : Int) : Int := if z_ff (fun k => σ 21 k = e) (σ 25 0) = -1 then -1 else z_ff (fun k => σ 21 k = e) (σ 25 0) + 1
theorem lp_b {σ : z_S} (hV : mV σ) {e : Int} : lp σ e = -1 ∨ (1 ≤ lp σ e ∧ lp σ e ≤ σ 25 0 ∧ σ 25 0 ≤ 30 ∧ σ 21 (lp σ e - 1) = e) := by
  have := hV.2.2.2.2.2.2.1
  unfold lp
  rcases z_ff_s (fun k => σ 21 k = e) (σ 25 0) with ⟨h1, -⟩ | ⟨h1, h2, h3, -⟩
  · rw [if_pos h1]; exact Or.inl rfl
  · rw [if_neg (by omega)]; exact Or.inr ⟨by omega, by omega, this.2, by rw [Int.add_sub_cancel]; exact h3⟩
abbrev kp (σ : z_S) (r : Int) : Prop := 0 ≤ r ∧ r ≤ σ 30 0 - 1 ∧ σ 30 0 - 20 ≤ r
def yPi (σ : z_S) (r e : Int) : Int := if r = -1 then (if e < σ 19 0 ∧ σ 18 e ≠ 0 then pl σ e else -1) else σ 29 (20 * e + r % 20)
theorem yPi_b {σ : z_S} (hB : mB σ) (hV : mV σ) {r e : Int} (he : 0 ≤ e ∧ e ≤ 100) : -1000000 ≤ yPi σ r e ∧ yPi σ r e ≤ 1000000 := by
  unfold yPi
  have := pl_b hV he
  have := hB 29 (20 * e + r % 20)
  split
  · split <;> omega
  · omega

end M1
