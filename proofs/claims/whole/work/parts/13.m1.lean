/-! THE MODEL's methods: what they answer (laid by wip/whole/gen/gm1.py). -/
section M1
def mB (σ : z_S) : Prop := ∀ (k : Nat) (i : Int), -1000000 ≤ σ k i ∧ σ k i ≤ 1000000
/-- what holds of the model's state: factors, scores, came, criteria, isThere, isGreater, ladderMany, ladder, looked, rounds, tapeMany, reach, patience, tape, group -/
def mV (σ : z_S) : Prop := (∀ i : Int, -3996 ≤ σ 8 i ∧ σ 8 i ≤ 3996) ∧ (∀ i : Int, -100000 ≤ σ 14 i ∧ σ 14 i ≤ 100000) ∧ (0 ≤ σ 19 0 ∧ σ 19 0 ≤ 30) ∧ (1 ≤ σ 12 0 ∧ σ 12 0 ≤ 4) ∧ (∀ i : Int, σ 18 i = 0 ∨ σ 18 i = 1) ∧ (∀ i : Int, σ 10 i = 0 ∨ σ 10 i = 1) ∧
  (0 ≤ σ 25 0 ∧ σ 25 0 ≤ 30) ∧ (∀ i : Int, 0 ≤ σ 21 i ∧ σ 21 i < 30) ∧ (∀ i : Int, 0 ≤ σ 24 i ∧ σ 24 i < 30) ∧ (0 ≤ σ 30 0 ∧ σ 30 0 ≤ 200) ∧ (0 ≤ σ 2 0 ∧ σ 2 0 ≤ 100) ∧ (1 ≤ σ 26 0 ∧ σ 26 0 ≤ 5) ∧ (1 ≤ σ 27 0 ∧ σ 27 0 ≤ 9) ∧ (∀ i : Int, 0 ≤ σ 1 i ∧ σ 1 i ≤ 255) ∧ (∀ i : Int, 0 ≤ σ 15 i ∧ σ 15 i ≤ 4)
theorem z_bl01 (p : Prop) [Decidable p] : z_bl p = 0 ∨ z_bl p = 1 := by
  unfold z_bl
  split <;> omega
theorem z_bl_t {p : Prop} [Decidable p] (hp : p) : z_bl p = 1 := if_pos hp
theorem z_bl_f {p : Prop} [Decidable p] (hp : ¬ p) : z_bl p = 0 := if_neg hp
-- a search
def z_fi (P : Int → Prop) [DecidablePred P] : Nat → Int → Int
  | 0, _ => -1
  | f + 1, i => if P i then i else z_fi P f (i + 1)
def z_ff (P : Int → Prop) [DecidablePred P] (n : Int) : Int := z_fi P (n - 0).toNat 0
theorem z_fi_t {P : Int → Prop} [DecidablePred P] {n i : Int} (h : i < n) (hp : P i) : z_fi P (n - i).toNat i = i := by
  rw [show (n - i).toNat = (n - (i + 1)).toNat + 1 by omega]
  exact if_pos hp
theorem z_fi_f {P : Int → Prop} [DecidablePred P] {n i : Int} (h : i < n) (hp : ¬ P i) : z_fi P (n - i).toNat i = z_fi P (n - (i + 1)).toNat (i + 1) := by
  rw [show (n - i).toNat = (n - (i + 1)).toNat + 1 by omega]
  exact if_neg hp
theorem z_fi_e {P : Int → Prop} [DecidablePred P] {n i : Int} (h : n ≤ i) : z_fi P (n - i).toNat i = -1 := by
  rw [show (n - i).toNat = 0 by omega]
  rfl
theorem z_fi_s {P : Int → Prop} [DecidablePred P] : ∀ (f : Nat) (i : Int), (z_fi P f i = -1 ∧ ∀ j, i ≤ j → j < i + f → ¬ P j) ∨ (i ≤ z_fi P f i ∧ z_fi P f i < i + f ∧ P (z_fi P f i) ∧ ∀ j, i ≤ j → j < z_fi P f i → ¬ P j) := by
  intro f
  induction f with
  | zero => intro i; exact Or.inl ⟨rfl, fun j h1 h2 => by omega⟩
  | succ f ih =>
    intro i
    show (ite _ _ _ = _ ∧ _) ∨ (_ ≤ ite _ _ _ ∧ ite _ _ _ < _ ∧ P (ite _ _ _) ∧ ∀ j, _ → j < ite _ _ _ → _)
    by_cases hp : P i
    · rw [if_pos hp]
      exact Or.inr ⟨by omega, by omega, hp, fun j h1 h2 => by omega⟩
    · rw [if_neg hp]
      rcases ih (i + 1) with ⟨h1, h2⟩ | ⟨h1, h2, h3, h4⟩
      · refine Or.inl ⟨h1, fun j h3 h4 => ?_⟩
        by_cases e : j = i
        · rw [e]; exact hp
        · exact h2 j (by omega) (by omega)
      · refine Or.inr ⟨by omega, by omega, h3, fun j h5 h6 => ?_⟩
        by_cases e : j = i
        · rw [e]; exact hp
        · exact h4 j (by omega) h6
theorem z_ff_s (P : Int → Prop) [DecidablePred P] (n : Int) : (z_ff P n = -1 ∧ ∀ j, 0 ≤ j → j < n → ¬ P j) ∨ (0 ≤ z_ff P n ∧ z_ff P n < n ∧ P (z_ff P n) ∧ ∀ j, 0 ≤ j → j < z_ff P n → ¬ P j) := by
  unfold z_ff
  rcases z_fi_s (P := P) (n - 0).toNat 0 with ⟨h1, h2⟩ | ⟨h1, h2, h3, h4⟩
  · exact Or.inl ⟨h1, fun j h3 h4 => h2 j h3 (by omega)⟩
  · exact Or.inr ⟨h1, by omega, h3, h4⟩
theorem z_ct_b (P : Int → Prop) [DecidablePred P] {n : Int} (hn : 0 ≤ n) : 0 ≤ z_sm (fun i => if P i then (1 : Int) else 0) n ∧ z_sm (fun i => if P i then (1 : Int) else 0) n ≤ n := by
  have := z_sm_le (f := fun i => if P i then (1 : Int) else 0) (a := 0) (b := 1) hn (fun i _ _ => by
    show 0 ≤ (if P i then (1 : Int) else 0) ∧ (if P i then (1 : Int) else 0) ≤ 1
    split <;> omega)
  omega
theorem m_pr {a b F S : Int} (ha : -F ≤ a ∧ a ≤ F) (hb : -S ≤ b ∧ b ≤ S) (hF : 0 ≤ F) (hS : 0 ≤ S) : -(F * S) ≤ a * b ∧ a * b ≤ F * S := by
  have h1 : a.natAbs ≤ F.toNat := by omega
  have h2 : b.natAbs ≤ S.toNat := by omega
  have h3 : (a * b).natAbs ≤ F.toNat * S.toNat := by rw [Int.natAbs_mul]; exact Nat.mul_le_mul h1 h2
  have h4 : ((F.toNat * S.toNat : Nat) : Int) = F * S := by rw [Int.natCast_mul, Int.toNat_of_nonneg hF, Int.toNat_of_nonneg hS]
  omega
/-- the bytes of a word that are not 0 -/
def yBy (v : Int) : Int := (if v / 1 % 256 = 0 then 0 else 1) + (if v / 256 % 256 = 0 then 0 else 1) + (if v / 65536 % 256 = 0 then 0 else 1) + (if v / 16777216 % 256 = 0 then 0 else 1)
theorem yBy_b (v : Int) : 0 ≤ yBy v ∧ yBy v ≤ 4 := by unfold yBy; omega
abbrev sgn (b : Int) : Prop := b = 62 ∨ b = 60 ∨ b = 43 ∨ b = 45 ∨ b = 42 ∨ b = 59
/-- the value of a criterion -/
def vl (σ : z_S) (e c : Int) : Int := σ 8 (4 * c) * σ 14 (4 * e) + σ 8 (4 * c + 1) * σ 14 (4 * e + 1) + σ 8 (4 * c + 2) * σ 14 (4 * e + 2) + σ 8 (4 * c + 3) * σ 14 (4 * e + 3)
theorem vl_b {σ : z_S} (hV : mV σ) (e c : Int) : -1598400000 ≤ vl σ e c ∧ vl σ e c ≤ 1598400000 := by
  have h (k : Int) (j : Int) := m_pr (hV.1 (4 * c + k)) (hV.2.1 (4 * e + j)) (by omega) (by omega)
  have h0 := m_pr (hV.1 (4 * c)) (hV.2.1 (4 * e)) (by omega) (by omega)
  have h1 := h 1 1
  have h2 := h 2 2
  have h3 := h 3 3
  unfold vl
  omega
/-- 1 if better, -1 if worse, 0 if alike: from the criterion c on -/
def cm (σ : z_S) (e o : Int) : Nat → Int → Int
  | 0, _ => 0
  | f + 1, c => if vl σ e c = vl σ o c then cm σ e o f (c + 1) else if (vl σ o c < vl σ e c) ↔ (σ 10 c = 1) then 1 else -1
def cp (σ : z_S) (e o : Int) : Int := cm σ e o (σ 12 0 - 0).toNat 0
theorem cm_f {σ : z_S} {e o n c : Int} (h : c < n) (hp : vl σ e c = vl σ o c) : cm σ e o (n - c).toNat c = cm σ e o (n - (c + 1)).toNat (c + 1) := by
  rw [show (n - c).toNat = (n - (c + 1)).toNat + 1 by omega]
  exact if_pos hp
theorem cm_t {σ : z_S} {e o n c : Int} (h : c < n) (hp : ¬ vl σ e c = vl σ o c) : cm σ e o (n - c).toNat c = if (vl σ o c < vl σ e c) ↔ (σ 10 c = 1) then 1 else -1 := by
  rw [show (n - c).toNat = (n - (c + 1)).toNat + 1 by omega]
  exact if_neg hp
theorem cm_e {σ : z_S} {e o n c : Int} (h : n ≤ c) : cm σ e o (n - c).toNat c = 0 := by
  rw [show (n - c).toNat = 0 by omega]
  rfl
theorem cm_b (σ : z_S) (e o : Int) : ∀ (f : Nat) (c : Int), -1 ≤ cm σ e o f c ∧ cm σ e o f c ≤ 1 := by
  intro f
  induction f with
  | zero => intro c; show -1 ≤ (0 : Int) ∧ (0 : Int) ≤ 1; omega
  | succ f ih =>
    intro c
    show -1 ≤ ite _ _ _ ∧ ite _ _ _ ≤ 1
    split
    · exact ih _
    · split <;> omega
theorem cp_b (σ : z_S) (e o : Int) : -1 ≤ cp σ e o ∧ cp σ e o ≤ 1 := cm_b σ e o _ _
abbrev pr (σ : z_S) (e : Int) : Prop := 0 ≤ e ∧ e < σ 19 0 ∧ σ 18 e ≠ 0
def bt (σ : z_S) (e : Int) : Int := z_sm (fun o => if σ 18 o ≠ 0 ∧ 0 < cp σ o e then (1 : Int) else 0) (σ 19 0)
def al (σ : z_S) (e : Int) : Int := z_sm (fun o => if σ 18 o ≠ 0 ∧ cp σ o e = 0 then (1 : Int) else 0) (σ 19 0)
def pl (σ : z_S) (e : Int) : Int := bt σ e + 1 + z_sm (fun o => if σ 18 o ≠ 0 ∧ cp σ o e = 0 then (1 : Int) else 0) e
def my (σ : z_S) : Int := z_sm (fun o => if σ 18 o ≠ 0 then (1 : Int) else 0) (σ 19 0)
def ea (σ : z_S) (p : Int) : Int := z_ff (fun e => σ 18 e ≠ 0 ∧ pl σ e = p) (σ 19 0)
abbrev isF (σ : z_S) (e : Int) : Prop := z_ff (fun o => σ 18 o ≠ 0 ∧ cp σ o e = 0) e = -1 ∧ σ 18 e ≠ 0
def dn (σ : z_S) (e : Int) : Int := 1 + z_sm (fun o => if isF σ o ∧ 0 < cp σ o e then (1 : Int) else 0) (σ 19 0)
def tm (σ : z_S) (e : Int) : Int := 2 * bt σ e + al σ e + 1
theorem bt_b {σ : z_S} (hV : mV σ) (e : Int) : 0 ≤ bt σ e ∧ bt σ e ≤ 30 := by
  have := z_ct_b (fun o => σ 18 o ≠ 0 ∧ 0 < cp σ o e) hV.2.2.1.1
  have := hV.2.2.1
  unfold bt
  omega
theorem al_b {σ : z_S} (hV : mV σ) (e : Int) : 0 ≤ al σ e ∧ al σ e ≤ 30 := by
  have := z_ct_b (fun o => σ 18 o ≠ 0 ∧ cp σ o e = 0) hV.2.2.1.1
  have := hV.2.2.1
  unfold al
  omega
theorem pl_b {σ : z_S} (hV : mV σ) {e : Int} (he : 0 ≤ e ∧ e ≤ 100) : 1 ≤ pl σ e ∧ pl σ e ≤ 200 := by
  have := z_ct_b (fun o => σ 18 o ≠ 0 ∧ cp σ o e = 0) he.1
  have := bt_b hV e
  unfold pl
  omega
theorem my_b {σ : z_S} (hV : mV σ) : 0 ≤ my σ ∧ my σ ≤ σ 19 0 ∧ σ 19 0 ≤ 30 := by
  have := z_ct_b (fun o => σ 18 o ≠ 0) hV.2.2.1.1
  have := hV.2.2.1
  unfold my
  omega
theorem tm_b {σ : z_S} (hV : mV σ) {e : Int} : 0 ≤ tm σ e ∧ tm σ e ≤ 100 := by
  have := bt_b hV e
  have := al_b hV e
  unfold tm
  omega
theorem ea_b {σ : z_S} (hV : mV σ) {p : Int} : ea σ p = -1 ∨ (0 ≤ ea σ p ∧ ea σ p < σ 19 0 ∧ ea σ p < 30 ∧ σ 18 (ea σ p) ≠ 0 ∧ pl σ (ea σ p) = p) := by
  have := hV.2.2.1
  rcases z_ff_s (fun e => σ 18 e ≠ 0 ∧ pl σ e = p) (σ 19 0) with ⟨h1, -⟩ | ⟨h1, h2, h3, -⟩
  · exact Or.inl h1
  · exact Or.inr ⟨h1, h2, by show z_ff _ _ < 30; omega, h3.1, h3.2⟩
def yLs (σ : z_S) (e : Int) : Int := z_sm (fun o => if σ 18 o ≠ 0 ∧ σ 14 (4 * o) < σ 14 (4 * e) then (1 : Int) else 0) (σ 19 0)
def ySa (σ : z_S) (e : Int) : Int := z_sm (fun o => if σ 18 o ≠ 0 ∧ σ 14 (4 * o) = σ 14 (4 * e) then (1 : Int) else 0) (σ 19 0)
def yPa (σ : z_S) (p : Int) : Int := if z_ff (fun e => σ 18 e ≠ 0 ∧ yLs σ e + 1 ≤ p ∧ p ≤ yLs σ e + ySa σ e) (σ 19 0) = -1 then 0 else σ 14 (4 * z_ff (fun e => σ 18 e ≠ 0 ∧ yLs σ e + 1 ≤ p ∧ p ≤ yLs σ e + ySa σ e) (σ 19 0))
def lp (σ : z_S) (e : Int) : Int := if z_ff (fun k => σ 21 k = e) (σ 25 0) = -1 then -1 else z_ff (fun k => σ 21 k = e) (σ 25 0) + 1
theorem lp_b {σ : z_S} (hV : mV σ) {e : Int} : lp σ e = -1 ∨ (1 ≤ lp σ e ∧ lp σ e ≤ σ 25 0 ∧ σ 25 0 ≤ 30 ∧ σ 21 (lp σ e - 1) = e) := by
  have := hV.2.2.2.2.2.2.1
  unfold lp
  rcases z_ff_s (fun k => σ 21 k = e) (σ 25 0) with ⟨h1, -⟩ | ⟨h1, h2, h3, -⟩
  · rw [if_pos h1]; exact Or.inl rfl
  · rw [if_neg (by omega)]; exact Or.inr ⟨by omega, by omega, this.2, by rw [Int.add_sub_cancel]; exact h3⟩
abbrev kp (σ : z_S) (r : Int) : Prop := 0 ≤ r ∧ r ≤ σ 30 0 - 1 ∧ σ 30 0 - 20 ≤ r
def yPi (σ : z_S) (r e : Int) : Int := if r = -1 then (if e < σ 19 0 ∧ σ 18 e ≠ 0 then pl σ e else -1) else σ 29 (20 * e + r % 20)
theorem yPi_b {σ : z_S} (hB : mB σ) (hV : mV σ) {r e : Int} (he : 0 ≤ e ∧ e ≤ 100) : -1000000 ≤ yPi σ r e ∧ yPi σ r e ≤ 1000000 := by
  unfold yPi
  have := pl_b hV he
  have := hB 29 (20 * e + r % 20)
  split
  · split <;> omega
  · omega

theorem m_thrown {G : z_G} {A : Nat → Nat} {σ : z_S} {h : z_H} (hG : z_OK G) (hA : mI A) (hB : mB σ) : z_Tr G mX8_thrown [.ref (A 40)] (mH A σ h) 0 (z_i (σ 0 0)) := by
  refine z_T_of hG pX8_thrown (Nat.le_of_ble_eq_true rfl) (ls0 := [(0, .ref (A 40))]) rfl fun Y hY hg hmc hms hφ hψ => ?_
  subst hg
  refine z_aload hY eX8_thrown_0 0 rfl ?_
  have hb1 := hB 0 0
  refine m_gf hY hA eX8_thrown_1 (v := z_i (σ 0 0)) rfl ?_
  exact z_ireturn hY eX8_thrown_4 rfl (by rw [hφ]; exact ⟨congrArg (fun q => some (z_i q)) (by first | rfl | omega | (simp only [z_bl]; split <;> omega)), rfl⟩) ⟨Nat.zero_le _, Nat.zero_le _⟩
theorem m_in {G : z_G} {h : z_H} (hG : z_OK G) {v l u : Int} (hr : -2147483648 ≤ v ∧ v ≤ 2147483647 ∧ -2147483648 ≤ l ∧ l ≤ 2147483647 ∧ -2147483648 ≤ u ∧ u ≤ 2147483647) : z_Tr G mX8_in [z_i v, z_i l, z_i u] (h) 0 (z_i (z_bl (l ≤ v ∧ v ≤ u))) := by
  refine z_T_of hG pX8_in (Nat.le_of_ble_eq_true rfl) (ls0 := [(0, z_i v), (1, z_i l), (2, z_i u)]) rfl fun Y hY hg hmc hms hφ hψ => ?_
  subst hg
  refine z_iload hY eX8_in_0 0 rfl ?_
  refine z_iload hY eX8_in_1 1 rfl ?_
  refine z_icmplt hY eX8_in_2 (by omega) (fun c2 => ?_) (fun c2 => ?_)
  · refine z_const hY eX8_in_14 ?_
    exact z_zreturn hY eX8_in_15 rfl (by omega) (by rw [hφ]; exact ⟨congrArg (fun q => some (z_i q)) (by first | rfl | omega | (simp only [z_bl]; split <;> omega)), rfl⟩) ⟨Nat.zero_le _, Nat.zero_le _⟩
  · refine z_iload hY eX8_in_5 0 rfl ?_
    refine z_iload hY eX8_in_6 2 rfl ?_
    refine z_icmpgt hY eX8_in_7 (by omega) (fun c7 => ?_) (fun c7 => ?_)
    · refine z_const hY eX8_in_14 ?_
      exact z_zreturn hY eX8_in_15 rfl (by omega) (by rw [hφ]; exact ⟨congrArg (fun q => some (z_i q)) (by first | rfl | omega | (simp only [z_bl]; split <;> omega)), rfl⟩) ⟨Nat.zero_le _, Nat.zero_le _⟩
    · refine z_const hY eX8_in_10 ?_
      refine z_goto hY eX8_in_11 ?_
      exact z_zreturn hY eX8_in_15 rfl (by omega) (by rw [hφ]; exact ⟨congrArg (fun q => some (z_i q)) (by first | rfl | omega | (simp only [z_bl]; split <;> omega)), rfl⟩) ⟨Nat.zero_le _, Nat.zero_le _⟩
theorem m_isSign {G : z_G} {h : z_H} (hG : z_OK G) {b : Int} (hr : -2147483648 ≤ b ∧ b ≤ 2147483647) : z_Tr G mX8_isSign [z_i b] (h) 0 (z_i (z_bl (sgn b))) := by
  refine z_T_of hG pX8_isSign (Nat.le_of_ble_eq_true rfl) (ls0 := [(0, z_i b)]) rfl fun Y hY hg hmc hms hφ hψ => ?_
  subst hg
  refine z_iload hY eX8_isSign_0 0 rfl ?_
  refine z_const hY eX8_isSign_1 ?_
  refine z_icmpeq hY eX8_isSign_3 (by omega) (fun c3 => ?_) (fun c3 => ?_)
  · refine z_const hY eX8_isSign_36 ?_
    refine z_goto hY eX8_isSign_37 ?_
    exact z_zreturn hY eX8_isSign_41 rfl (by omega) (by rw [hφ]; exact ⟨congrArg (fun q => some (z_i q)) (by first | rfl | omega | (simp only [z_bl]; split <;> omega)), rfl⟩) ⟨Nat.zero_le _, Nat.zero_le _⟩
  · refine z_iload hY eX8_isSign_6 0 rfl ?_
    refine z_const hY eX8_isSign_7 ?_
    refine z_icmpeq hY eX8_isSign_9 (by omega) (fun c9 => ?_) (fun c9 => ?_)
    · refine z_const hY eX8_isSign_36 ?_
      refine z_goto hY eX8_isSign_37 ?_
      exact z_zreturn hY eX8_isSign_41 rfl (by omega) (by rw [hφ]; exact ⟨congrArg (fun q => some (z_i q)) (by first | rfl | omega | (simp only [z_bl]; split <;> omega)), rfl⟩) ⟨Nat.zero_le _, Nat.zero_le _⟩
    · refine z_iload hY eX8_isSign_12 0 rfl ?_
      refine z_const hY eX8_isSign_13 ?_
      refine z_icmpeq hY eX8_isSign_15 (by omega) (fun c15 => ?_) (fun c15 => ?_)
      · refine z_const hY eX8_isSign_36 ?_
        refine z_goto hY eX8_isSign_37 ?_
        exact z_zreturn hY eX8_isSign_41 rfl (by omega) (by rw [hφ]; exact ⟨congrArg (fun q => some (z_i q)) (by first | rfl | omega | (simp only [z_bl]; split <;> omega)), rfl⟩) ⟨Nat.zero_le _, Nat.zero_le _⟩
      · refine z_iload hY eX8_isSign_18 0 rfl ?_
        refine z_const hY eX8_isSign_19 ?_
        refine z_icmpeq hY eX8_isSign_21 (by omega) (fun c21 => ?_) (fun c21 => ?_)
        · refine z_const hY eX8_isSign_36 ?_
          refine z_goto hY eX8_isSign_37 ?_
          exact z_zreturn hY eX8_isSign_41 rfl (by omega) (by rw [hφ]; exact ⟨congrArg (fun q => some (z_i q)) (by first | rfl | omega | (simp only [z_bl]; split <;> omega)), rfl⟩) ⟨Nat.zero_le _, Nat.zero_le _⟩
        · refine z_iload hY eX8_isSign_24 0 rfl ?_
          refine z_const hY eX8_isSign_25 ?_
          refine z_icmpeq hY eX8_isSign_27 (by omega) (fun c27 => ?_) (fun c27 => ?_)
          · refine z_const hY eX8_isSign_36 ?_
            refine z_goto hY eX8_isSign_37 ?_
            exact z_zreturn hY eX8_isSign_41 rfl (by omega) (by rw [hφ]; exact ⟨congrArg (fun q => some (z_i q)) (by first | rfl | omega | (simp only [z_bl]; split <;> omega)), rfl⟩) ⟨Nat.zero_le _, Nat.zero_le _⟩
          · refine z_iload hY eX8_isSign_30 0 rfl ?_
            refine z_const hY eX8_isSign_31 ?_
            refine z_icmpne hY eX8_isSign_33 (by omega) (fun c33 => ?_) (fun c33 => ?_)
            · refine z_const hY eX8_isSign_40 ?_
              exact z_zreturn hY eX8_isSign_41 rfl (by omega) (by rw [hφ]; exact ⟨congrArg (fun q => some (z_i q)) (by first | rfl | omega | (simp only [z_bl]; split <;> omega)), rfl⟩) ⟨Nat.zero_le _, Nat.zero_le _⟩
            · refine z_const hY eX8_isSign_36 ?_
              refine z_goto hY eX8_isSign_37 ?_
              exact z_zreturn hY eX8_isSign_41 rfl (by omega) (by rw [hφ]; exact ⟨congrArg (fun q => some (z_i q)) (by first | rfl | omega | (simp only [z_bl]; split <;> omega)), rfl⟩) ⟨Nat.zero_le _, Nat.zero_le _⟩
theorem m_isSignNow {G : z_G} {A : Nat → Nat} {σ : z_S} {h : z_H} (hG : z_OK G) (hA : mI A) (hB : mB σ) {b : Int} (hr : -2147483648 ≤ b ∧ b ≤ 2147483647) : z_Tr G mX8_isSignNow [.ref (A 40), z_i b] (mH A σ h) 0 (z_i (z_bl (σ 4 0 = 1 ∧ σ 6 0 = b))) := by
  refine z_T_of hG pX8_isSignNow (Nat.le_of_ble_eq_true rfl) (ls0 := [(0, .ref (A 40)), (1, z_i b)]) rfl fun Y hY hg hmc hms hφ hψ => ?_
  subst hg
  refine z_aload hY eX8_isSignNow_0 0 rfl ?_
  have hb1 := hB 4 0
  refine m_gf hY hA eX8_isSignNow_1 (v := z_i (σ 4 0)) rfl ?_
  refine z_const hY eX8_isSignNow_4 ?_
  refine z_icmpne hY eX8_isSignNow_5 (by omega) (fun c5 => ?_) (fun c5 => ?_)
  · refine z_const hY eX8_isSignNow_20 ?_
    exact z_zreturn hY eX8_isSignNow_21 rfl (by omega) (by rw [hφ]; exact ⟨congrArg (fun q => some (z_i q)) (by first | rfl | omega | (simp only [z_bl]; split <;> omega)), rfl⟩) ⟨Nat.zero_le _, Nat.zero_le _⟩
  · refine z_aload hY eX8_isSignNow_8 0 rfl ?_
    have hb2 := hB 6 0
    refine m_gf hY hA eX8_isSignNow_9 (v := z_i (σ 6 0)) rfl ?_
    refine z_iload hY eX8_isSignNow_12 1 rfl ?_
    refine z_icmpne hY eX8_isSignNow_13 (by omega) (fun c13 => ?_) (fun c13 => ?_)
    · refine z_const hY eX8_isSignNow_20 ?_
      exact z_zreturn hY eX8_isSignNow_21 rfl (by omega) (by rw [hφ]; exact ⟨congrArg (fun q => some (z_i q)) (by first | rfl | omega | (simp only [z_bl]; split <;> omega)), rfl⟩) ⟨Nat.zero_le _, Nat.zero_le _⟩
    · refine z_const hY eX8_isSignNow_16 ?_
      refine z_goto hY eX8_isSignNow_17 ?_
      exact z_zreturn hY eX8_isSignNow_21 rfl (by omega) (by rw [hφ]; exact ⟨congrArg (fun q => some (z_i q)) (by first | rfl | omega | (simp only [z_bl]; split <;> omega)), rfl⟩) ⟨Nat.zero_le _, Nat.zero_le _⟩
theorem m_isScore {G : z_G} {h : z_H} (hG : z_OK G) {v : Int} (hr : -9000000000 ≤ v ∧ v ≤ 9000000000) : z_Tr G mX8_isScore [z_l v] (h) 0 (z_i (z_bl (-100000 ≤ v ∧ v ≤ 100000))) := by
  refine z_T_of hG pX8_isScore (Nat.le_of_ble_eq_true rfl) (ls0 := [(0, z_l v)]) rfl fun Y hY hg hmc hms hφ hψ => ?_
  subst hg
  refine z_lload hY eX8_isScore_0 0 rfl ?_
  refine z_ldc2 hY eX8_isScore_1 ?_
  refine z_lcmp hY eX8_isScore_4 (by omega) ?_
  have hz1 := z_cmp_s v (-100000)
  refine z_iflt hY eX8_isScore_5 (by omega) (fun c5 => ?_) (fun c5 => ?_)
  · refine z_const hY eX8_isScore_20 ?_
    exact z_zreturn hY eX8_isScore_21 rfl (by omega) (by rw [hφ]; exact ⟨congrArg (fun q => some (z_i q)) (by first | rfl | omega | (simp only [z_bl]; split <;> omega)), rfl⟩) ⟨Nat.zero_le _, Nat.zero_le _⟩
  · refine z_lload hY eX8_isScore_8 0 rfl ?_
    refine z_ldc2 hY eX8_isScore_9 ?_
    refine z_lcmp hY eX8_isScore_12 (by omega) ?_
    have hz2 := z_cmp_s v 100000
    refine z_ifgt hY eX8_isScore_13 (by omega) (fun c13 => ?_) (fun c13 => ?_)
    · refine z_const hY eX8_isScore_20 ?_
      exact z_zreturn hY eX8_isScore_21 rfl (by omega) (by rw [hφ]; exact ⟨congrArg (fun q => some (z_i q)) (by first | rfl | omega | (simp only [z_bl]; split <;> omega)), rfl⟩) ⟨Nat.zero_le _, Nat.zero_le _⟩
    · refine z_const hY eX8_isScore_16 ?_
      refine z_goto hY eX8_isScore_17 ?_
      exact z_zreturn hY eX8_isScore_21 rfl (by omega) (by rw [hφ]; exact ⟨congrArg (fun q => some (z_i q)) (by first | rfl | omega | (simp only [z_bl]; split <;> omega)), rfl⟩) ⟨Nat.zero_le _, Nat.zero_le _⟩
theorem m_bytesIn {G : z_G} {h : z_H} (hG : z_OK G) {v : Int} (hr : -2147483648 ≤ v ∧ v ≤ 2147483647) : z_Tr G mX8_bytesIn [z_i v] (h) 0 (z_i (yBy v)) := by
  refine z_T_of hG pX8_bytesIn (Nat.le_of_ble_eq_true rfl) (ls0 := [(0, z_i v)]) rfl fun Y hY hg hmc hms hφ hψ => ?_
  subst hg
  refine z_const hY eX8_bytesIn_0 ?_
  refine z_istore hY eX8_bytesIn_1 (ls' := [(1, z_i 0), (0, z_i v)]) rfl ?_
  refine z_const hY eX8_bytesIn_2 ?_
  refine z_istore hY eX8_bytesIn_3 (ls' := [(2, z_i 0), (1, z_i 0), (0, z_i v)]) rfl ?_
  refine z_iload hY eX8_bytesIn_4 0 rfl ?_
  refine z_const hY eX8_bytesIn_5 ?_
  refine z_icmpge hY eX8_bytesIn_7 (by omega) (fun c => absurd c (by omega)) (fun _ => ?_)
  refine z_iload hY eX8_bytesIn_10 1 rfl ?_
  refine z_iload hY eX8_bytesIn_11 2 rfl ?_
  refine z_iload hY eX8_bytesIn_12 0 rfl ?_
  refine z_ishr hY eX8_bytesIn_13 (by omega) (D := 1) (by unfold z_sk; omega) ?_
  refine z_const hY eX8_bytesIn_14 ?_
  refine z_iand255 hY eX8_bytesIn_17 ?_
  refine z_ifne hY eX8_bytesIn_18 (by omega) (fun c18 => ?_) (fun c18 => ?_)
  · refine z_const hY eX8_bytesIn_25 ?_
    refine z_iadd hY eX8_bytesIn_26 ?_
    refine z_top (b := 1) (by omega) ?_
    refine z_istore hY eX8_bytesIn_27 (ls' := [(1, z_i 1), (2, z_i 0), (0, z_i v)]) rfl ?_
    refine z_iinc hY eX8_bytesIn_28 1 rfl (ls' := [(2, z_i (0 + 8)), (1, z_i 1), (0, z_i v)]) rfl ?_
    refine z_lq (ls' := [(2, z_i 8), (1, z_i 1), (0, z_i v)]) rfl ?_
    refine z_goto hY eX8_bytesIn_31 ?_
    refine z_iload hY eX8_bytesIn_4 0 rfl ?_
    refine z_const hY eX8_bytesIn_5 ?_
    refine z_icmpge hY eX8_bytesIn_7 (by omega) (fun c => absurd c (by omega)) (fun _ => ?_)
    refine z_iload hY eX8_bytesIn_10 1 rfl ?_
    refine z_iload hY eX8_bytesIn_11 2 rfl ?_
    refine z_iload hY eX8_bytesIn_12 0 rfl ?_
    refine z_ishr hY eX8_bytesIn_13 (by omega) (D := 256) (by unfold z_sk; omega) ?_
    refine z_const hY eX8_bytesIn_14 ?_
    refine z_iand255 hY eX8_bytesIn_17 ?_
    refine z_ifne hY eX8_bytesIn_18 (by omega) (fun c18 => ?_) (fun c18 => ?_)
    · refine z_const hY eX8_bytesIn_25 ?_
      refine z_iadd hY eX8_bytesIn_26 ?_
      refine z_top (b := 2) (by omega) ?_
      refine z_istore hY eX8_bytesIn_27 (ls' := [(1, z_i 2), (2, z_i 8), (0, z_i v)]) rfl ?_
      refine z_iinc hY eX8_bytesIn_28 1 rfl (ls' := [(2, z_i (8 + 8)), (1, z_i 2), (0, z_i v)]) rfl ?_
      refine z_lq (ls' := [(2, z_i 16), (1, z_i 2), (0, z_i v)]) rfl ?_
      refine z_goto hY eX8_bytesIn_31 ?_
      refine z_iload hY eX8_bytesIn_4 0 rfl ?_
      refine z_const hY eX8_bytesIn_5 ?_
      refine z_icmpge hY eX8_bytesIn_7 (by omega) (fun c => absurd c (by omega)) (fun _ => ?_)
      refine z_iload hY eX8_bytesIn_10 1 rfl ?_
      refine z_iload hY eX8_bytesIn_11 2 rfl ?_
      refine z_iload hY eX8_bytesIn_12 0 rfl ?_
      refine z_ishr hY eX8_bytesIn_13 (by omega) (D := 65536) (by unfold z_sk; omega) ?_
      refine z_const hY eX8_bytesIn_14 ?_
      refine z_iand255 hY eX8_bytesIn_17 ?_
      refine z_ifne hY eX8_bytesIn_18 (by omega) (fun c18 => ?_) (fun c18 => ?_)
      · refine z_const hY eX8_bytesIn_25 ?_
        refine z_iadd hY eX8_bytesIn_26 ?_
        refine z_top (b := 3) (by omega) ?_
        refine z_istore hY eX8_bytesIn_27 (ls' := [(1, z_i 3), (2, z_i 16), (0, z_i v)]) rfl ?_
        refine z_iinc hY eX8_bytesIn_28 1 rfl (ls' := [(2, z_i (16 + 8)), (1, z_i 3), (0, z_i v)]) rfl ?_
        refine z_lq (ls' := [(2, z_i 24), (1, z_i 3), (0, z_i v)]) rfl ?_
        refine z_goto hY eX8_bytesIn_31 ?_
        refine z_iload hY eX8_bytesIn_4 0 rfl ?_
        refine z_const hY eX8_bytesIn_5 ?_
        refine z_icmpge hY eX8_bytesIn_7 (by omega) (fun c => absurd c (by omega)) (fun _ => ?_)
        refine z_iload hY eX8_bytesIn_10 1 rfl ?_
        refine z_iload hY eX8_bytesIn_11 2 rfl ?_
        refine z_iload hY eX8_bytesIn_12 0 rfl ?_
        refine z_ishr hY eX8_bytesIn_13 (by omega) (D := 16777216) (by unfold z_sk; omega) ?_
        refine z_const hY eX8_bytesIn_14 ?_
        refine z_iand255 hY eX8_bytesIn_17 ?_
        refine z_ifne hY eX8_bytesIn_18 (by omega) (fun c18 => ?_) (fun c18 => ?_)
        · refine z_const hY eX8_bytesIn_25 ?_
          refine z_iadd hY eX8_bytesIn_26 ?_
          refine z_top (b := 4) (by omega) ?_
          refine z_istore hY eX8_bytesIn_27 (ls' := [(1, z_i 4), (2, z_i 24), (0, z_i v)]) rfl ?_
          refine z_iinc hY eX8_bytesIn_28 1 rfl (ls' := [(2, z_i (24 + 8)), (1, z_i 4), (0, z_i v)]) rfl ?_
          refine z_lq (ls' := [(2, z_i 32), (1, z_i 4), (0, z_i v)]) rfl ?_
          refine z_goto hY eX8_bytesIn_31 ?_
          refine z_iload hY eX8_bytesIn_4 0 rfl ?_
          refine z_const hY eX8_bytesIn_5 ?_
          refine z_icmpge hY eX8_bytesIn_7 (by omega) (fun _ => ?_) (fun c => absurd c (by omega))
          refine z_iload hY eX8_bytesIn_34 1 rfl ?_
          exact z_ireturn hY eX8_bytesIn_35 rfl (by rw [hφ]; exact ⟨congrArg (fun q => some (z_i q)) (by unfold yBy; omega), rfl⟩) ⟨Nat.zero_le _, Nat.zero_le _⟩
        · refine z_const hY eX8_bytesIn_21 ?_
          refine z_goto hY eX8_bytesIn_22 ?_
          refine z_iadd hY eX8_bytesIn_26 ?_
          refine z_top (b := 3) (by omega) ?_
          refine z_istore hY eX8_bytesIn_27 (ls' := [(1, z_i 3), (2, z_i 24), (0, z_i v)]) rfl ?_
          refine z_iinc hY eX8_bytesIn_28 1 rfl (ls' := [(2, z_i (24 + 8)), (1, z_i 3), (0, z_i v)]) rfl ?_
          refine z_lq (ls' := [(2, z_i 32), (1, z_i 3), (0, z_i v)]) rfl ?_
          refine z_goto hY eX8_bytesIn_31 ?_
          refine z_iload hY eX8_bytesIn_4 0 rfl ?_
          refine z_const hY eX8_bytesIn_5 ?_
          refine z_icmpge hY eX8_bytesIn_7 (by omega) (fun _ => ?_) (fun c => absurd c (by omega))
          refine z_iload hY eX8_bytesIn_34 1 rfl ?_
          exact z_ireturn hY eX8_bytesIn_35 rfl (by rw [hφ]; exact ⟨congrArg (fun q => some (z_i q)) (by unfold yBy; omega), rfl⟩) ⟨Nat.zero_le _, Nat.zero_le _⟩
      · refine z_const hY eX8_bytesIn_21 ?_
        refine z_goto hY eX8_bytesIn_22 ?_
        refine z_iadd hY eX8_bytesIn_26 ?_
        refine z_top (b := 2) (by omega) ?_
        refine z_istore hY eX8_bytesIn_27 (ls' := [(1, z_i 2), (2, z_i 16), (0, z_i v)]) rfl ?_
        refine z_iinc hY eX8_bytesIn_28 1 rfl (ls' := [(2, z_i (16 + 8)), (1, z_i 2), (0, z_i v)]) rfl ?_
        refine z_lq (ls' := [(2, z_i 24), (1, z_i 2), (0, z_i v)]) rfl ?_
        refine z_goto hY eX8_bytesIn_31 ?_
        refine z_iload hY eX8_bytesIn_4 0 rfl ?_
        refine z_const hY eX8_bytesIn_5 ?_
        refine z_icmpge hY eX8_bytesIn_7 (by omega) (fun c => absurd c (by omega)) (fun _ => ?_)
        refine z_iload hY eX8_bytesIn_10 1 rfl ?_
        refine z_iload hY eX8_bytesIn_11 2 rfl ?_
        refine z_iload hY eX8_bytesIn_12 0 rfl ?_
        refine z_ishr hY eX8_bytesIn_13 (by omega) (D := 16777216) (by unfold z_sk; omega) ?_
        refine z_const hY eX8_bytesIn_14 ?_
        refine z_iand255 hY eX8_bytesIn_17 ?_
        refine z_ifne hY eX8_bytesIn_18 (by omega) (fun c18 => ?_) (fun c18 => ?_)
        · refine z_const hY eX8_bytesIn_25 ?_
          refine z_iadd hY eX8_bytesIn_26 ?_
          refine z_top (b := 3) (by omega) ?_
          refine z_istore hY eX8_bytesIn_27 (ls' := [(1, z_i 3), (2, z_i 24), (0, z_i v)]) rfl ?_
          refine z_iinc hY eX8_bytesIn_28 1 rfl (ls' := [(2, z_i (24 + 8)), (1, z_i 3), (0, z_i v)]) rfl ?_
          refine z_lq (ls' := [(2, z_i 32), (1, z_i 3), (0, z_i v)]) rfl ?_
          refine z_goto hY eX8_bytesIn_31 ?_
          refine z_iload hY eX8_bytesIn_4 0 rfl ?_
          refine z_const hY eX8_bytesIn_5 ?_
          refine z_icmpge hY eX8_bytesIn_7 (by omega) (fun _ => ?_) (fun c => absurd c (by omega))
          refine z_iload hY eX8_bytesIn_34 1 rfl ?_
          exact z_ireturn hY eX8_bytesIn_35 rfl (by rw [hφ]; exact ⟨congrArg (fun q => some (z_i q)) (by unfold yBy; omega), rfl⟩) ⟨Nat.zero_le _, Nat.zero_le _⟩
        · refine z_const hY eX8_bytesIn_21 ?_
          refine z_goto hY eX8_bytesIn_22 ?_
          refine z_iadd hY eX8_bytesIn_26 ?_
          refine z_top (b := 2) (by omega) ?_
          refine z_istore hY eX8_bytesIn_27 (ls' := [(1, z_i 2), (2, z_i 24), (0, z_i v)]) rfl ?_
          refine z_iinc hY eX8_bytesIn_28 1 rfl (ls' := [(2, z_i (24 + 8)), (1, z_i 2), (0, z_i v)]) rfl ?_
          refine z_lq (ls' := [(2, z_i 32), (1, z_i 2), (0, z_i v)]) rfl ?_
          refine z_goto hY eX8_bytesIn_31 ?_
          refine z_iload hY eX8_bytesIn_4 0 rfl ?_
          refine z_const hY eX8_bytesIn_5 ?_
          refine z_icmpge hY eX8_bytesIn_7 (by omega) (fun _ => ?_) (fun c => absurd c (by omega))
          refine z_iload hY eX8_bytesIn_34 1 rfl ?_
          exact z_ireturn hY eX8_bytesIn_35 rfl (by rw [hφ]; exact ⟨congrArg (fun q => some (z_i q)) (by unfold yBy; omega), rfl⟩) ⟨Nat.zero_le _, Nat.zero_le _⟩
    · refine z_const hY eX8_bytesIn_21 ?_
      refine z_goto hY eX8_bytesIn_22 ?_
      refine z_iadd hY eX8_bytesIn_26 ?_
      refine z_top (b := 1) (by omega) ?_
      refine z_istore hY eX8_bytesIn_27 (ls' := [(1, z_i 1), (2, z_i 8), (0, z_i v)]) rfl ?_
      refine z_iinc hY eX8_bytesIn_28 1 rfl (ls' := [(2, z_i (8 + 8)), (1, z_i 1), (0, z_i v)]) rfl ?_
      refine z_lq (ls' := [(2, z_i 16), (1, z_i 1), (0, z_i v)]) rfl ?_
      refine z_goto hY eX8_bytesIn_31 ?_
      refine z_iload hY eX8_bytesIn_4 0 rfl ?_
      refine z_const hY eX8_bytesIn_5 ?_
      refine z_icmpge hY eX8_bytesIn_7 (by omega) (fun c => absurd c (by omega)) (fun _ => ?_)
      refine z_iload hY eX8_bytesIn_10 1 rfl ?_
      refine z_iload hY eX8_bytesIn_11 2 rfl ?_
      refine z_iload hY eX8_bytesIn_12 0 rfl ?_
      refine z_ishr hY eX8_bytesIn_13 (by omega) (D := 65536) (by unfold z_sk; omega) ?_
      refine z_const hY eX8_bytesIn_14 ?_
      refine z_iand255 hY eX8_bytesIn_17 ?_
      refine z_ifne hY eX8_bytesIn_18 (by omega) (fun c18 => ?_) (fun c18 => ?_)
      · refine z_const hY eX8_bytesIn_25 ?_
        refine z_iadd hY eX8_bytesIn_26 ?_
        refine z_top (b := 2) (by omega) ?_
        refine z_istore hY eX8_bytesIn_27 (ls' := [(1, z_i 2), (2, z_i 16), (0, z_i v)]) rfl ?_
        refine z_iinc hY eX8_bytesIn_28 1 rfl (ls' := [(2, z_i (16 + 8)), (1, z_i 2), (0, z_i v)]) rfl ?_
        refine z_lq (ls' := [(2, z_i 24), (1, z_i 2), (0, z_i v)]) rfl ?_
        refine z_goto hY eX8_bytesIn_31 ?_
        refine z_iload hY eX8_bytesIn_4 0 rfl ?_
        refine z_const hY eX8_bytesIn_5 ?_
        refine z_icmpge hY eX8_bytesIn_7 (by omega) (fun c => absurd c (by omega)) (fun _ => ?_)
        refine z_iload hY eX8_bytesIn_10 1 rfl ?_
        refine z_iload hY eX8_bytesIn_11 2 rfl ?_
        refine z_iload hY eX8_bytesIn_12 0 rfl ?_
        refine z_ishr hY eX8_bytesIn_13 (by omega) (D := 16777216) (by unfold z_sk; omega) ?_
        refine z_const hY eX8_bytesIn_14 ?_
        refine z_iand255 hY eX8_bytesIn_17 ?_
        refine z_ifne hY eX8_bytesIn_18 (by omega) (fun c18 => ?_) (fun c18 => ?_)
        · refine z_const hY eX8_bytesIn_25 ?_
          refine z_iadd hY eX8_bytesIn_26 ?_
          refine z_top (b := 3) (by omega) ?_
          refine z_istore hY eX8_bytesIn_27 (ls' := [(1, z_i 3), (2, z_i 24), (0, z_i v)]) rfl ?_
          refine z_iinc hY eX8_bytesIn_28 1 rfl (ls' := [(2, z_i (24 + 8)), (1, z_i 3), (0, z_i v)]) rfl ?_
          refine z_lq (ls' := [(2, z_i 32), (1, z_i 3), (0, z_i v)]) rfl ?_
          refine z_goto hY eX8_bytesIn_31 ?_
          refine z_iload hY eX8_bytesIn_4 0 rfl ?_
          refine z_const hY eX8_bytesIn_5 ?_
          refine z_icmpge hY eX8_bytesIn_7 (by omega) (fun _ => ?_) (fun c => absurd c (by omega))
          refine z_iload hY eX8_bytesIn_34 1 rfl ?_
          exact z_ireturn hY eX8_bytesIn_35 rfl (by rw [hφ]; exact ⟨congrArg (fun q => some (z_i q)) (by unfold yBy; omega), rfl⟩) ⟨Nat.zero_le _, Nat.zero_le _⟩
        · refine z_const hY eX8_bytesIn_21 ?_
          refine z_goto hY eX8_bytesIn_22 ?_
          refine z_iadd hY eX8_bytesIn_26 ?_
          refine z_top (b := 2) (by omega) ?_
          refine z_istore hY eX8_bytesIn_27 (ls' := [(1, z_i 2), (2, z_i 24), (0, z_i v)]) rfl ?_
          refine z_iinc hY eX8_bytesIn_28 1 rfl (ls' := [(2, z_i (24 + 8)), (1, z_i 2), (0, z_i v)]) rfl ?_
          refine z_lq (ls' := [(2, z_i 32), (1, z_i 2), (0, z_i v)]) rfl ?_
          refine z_goto hY eX8_bytesIn_31 ?_
          refine z_iload hY eX8_bytesIn_4 0 rfl ?_
          refine z_const hY eX8_bytesIn_5 ?_
          refine z_icmpge hY eX8_bytesIn_7 (by omega) (fun _ => ?_) (fun c => absurd c (by omega))
          refine z_iload hY eX8_bytesIn_34 1 rfl ?_
          exact z_ireturn hY eX8_bytesIn_35 rfl (by rw [hφ]; exact ⟨congrArg (fun q => some (z_i q)) (by unfold yBy; omega), rfl⟩) ⟨Nat.zero_le _, Nat.zero_le _⟩
      · refine z_const hY eX8_bytesIn_21 ?_
        refine z_goto hY eX8_bytesIn_22 ?_
        refine z_iadd hY eX8_bytesIn_26 ?_
        refine z_top (b := 1) (by omega) ?_
        refine z_istore hY eX8_bytesIn_27 (ls' := [(1, z_i 1), (2, z_i 16), (0, z_i v)]) rfl ?_
        refine z_iinc hY eX8_bytesIn_28 1 rfl (ls' := [(2, z_i (16 + 8)), (1, z_i 1), (0, z_i v)]) rfl ?_
        refine z_lq (ls' := [(2, z_i 24), (1, z_i 1), (0, z_i v)]) rfl ?_
        refine z_goto hY eX8_bytesIn_31 ?_
        refine z_iload hY eX8_bytesIn_4 0 rfl ?_
        refine z_const hY eX8_bytesIn_5 ?_
        refine z_icmpge hY eX8_bytesIn_7 (by omega) (fun c => absurd c (by omega)) (fun _ => ?_)
        refine z_iload hY eX8_bytesIn_10 1 rfl ?_
        refine z_iload hY eX8_bytesIn_11 2 rfl ?_
        refine z_iload hY eX8_bytesIn_12 0 rfl ?_
        refine z_ishr hY eX8_bytesIn_13 (by omega) (D := 16777216) (by unfold z_sk; omega) ?_
        refine z_const hY eX8_bytesIn_14 ?_
        refine z_iand255 hY eX8_bytesIn_17 ?_
        refine z_ifne hY eX8_bytesIn_18 (by omega) (fun c18 => ?_) (fun c18 => ?_)
        · refine z_const hY eX8_bytesIn_25 ?_
          refine z_iadd hY eX8_bytesIn_26 ?_
          refine z_top (b := 2) (by omega) ?_
          refine z_istore hY eX8_bytesIn_27 (ls' := [(1, z_i 2), (2, z_i 24), (0, z_i v)]) rfl ?_
          refine z_iinc hY eX8_bytesIn_28 1 rfl (ls' := [(2, z_i (24 + 8)), (1, z_i 2), (0, z_i v)]) rfl ?_
          refine z_lq (ls' := [(2, z_i 32), (1, z_i 2), (0, z_i v)]) rfl ?_
          refine z_goto hY eX8_bytesIn_31 ?_
          refine z_iload hY eX8_bytesIn_4 0 rfl ?_
          refine z_const hY eX8_bytesIn_5 ?_
          refine z_icmpge hY eX8_bytesIn_7 (by omega) (fun _ => ?_) (fun c => absurd c (by omega))
          refine z_iload hY eX8_bytesIn_34 1 rfl ?_
          exact z_ireturn hY eX8_bytesIn_35 rfl (by rw [hφ]; exact ⟨congrArg (fun q => some (z_i q)) (by unfold yBy; omega), rfl⟩) ⟨Nat.zero_le _, Nat.zero_le _⟩
        · refine z_const hY eX8_bytesIn_21 ?_
          refine z_goto hY eX8_bytesIn_22 ?_
          refine z_iadd hY eX8_bytesIn_26 ?_
          refine z_top (b := 1) (by omega) ?_
          refine z_istore hY eX8_bytesIn_27 (ls' := [(1, z_i 1), (2, z_i 24), (0, z_i v)]) rfl ?_
          refine z_iinc hY eX8_bytesIn_28 1 rfl (ls' := [(2, z_i (24 + 8)), (1, z_i 1), (0, z_i v)]) rfl ?_
          refine z_lq (ls' := [(2, z_i 32), (1, z_i 1), (0, z_i v)]) rfl ?_
          refine z_goto hY eX8_bytesIn_31 ?_
          refine z_iload hY eX8_bytesIn_4 0 rfl ?_
          refine z_const hY eX8_bytesIn_5 ?_
          refine z_icmpge hY eX8_bytesIn_7 (by omega) (fun _ => ?_) (fun c => absurd c (by omega))
          refine z_iload hY eX8_bytesIn_34 1 rfl ?_
          exact z_ireturn hY eX8_bytesIn_35 rfl (by rw [hφ]; exact ⟨congrArg (fun q => some (z_i q)) (by unfold yBy; omega), rfl⟩) ⟨Nat.zero_le _, Nat.zero_le _⟩
  · refine z_const hY eX8_bytesIn_21 ?_
    refine z_goto hY eX8_bytesIn_22 ?_
    refine z_iadd hY eX8_bytesIn_26 ?_
    refine z_top (b := 0) (by omega) ?_
    refine z_istore hY eX8_bytesIn_27 (ls' := [(1, z_i 0), (2, z_i 0), (0, z_i v)]) rfl ?_
    refine z_iinc hY eX8_bytesIn_28 1 rfl (ls' := [(2, z_i (0 + 8)), (1, z_i 0), (0, z_i v)]) rfl ?_
    refine z_lq (ls' := [(2, z_i 8), (1, z_i 0), (0, z_i v)]) rfl ?_
    refine z_goto hY eX8_bytesIn_31 ?_
    refine z_iload hY eX8_bytesIn_4 0 rfl ?_
    refine z_const hY eX8_bytesIn_5 ?_
    refine z_icmpge hY eX8_bytesIn_7 (by omega) (fun c => absurd c (by omega)) (fun _ => ?_)
    refine z_iload hY eX8_bytesIn_10 1 rfl ?_
    refine z_iload hY eX8_bytesIn_11 2 rfl ?_
    refine z_iload hY eX8_bytesIn_12 0 rfl ?_
    refine z_ishr hY eX8_bytesIn_13 (by omega) (D := 256) (by unfold z_sk; omega) ?_
    refine z_const hY eX8_bytesIn_14 ?_
    refine z_iand255 hY eX8_bytesIn_17 ?_
    refine z_ifne hY eX8_bytesIn_18 (by omega) (fun c18 => ?_) (fun c18 => ?_)
    · refine z_const hY eX8_bytesIn_25 ?_
      refine z_iadd hY eX8_bytesIn_26 ?_
      refine z_top (b := 1) (by omega) ?_
      refine z_istore hY eX8_bytesIn_27 (ls' := [(1, z_i 1), (2, z_i 8), (0, z_i v)]) rfl ?_
      refine z_iinc hY eX8_bytesIn_28 1 rfl (ls' := [(2, z_i (8 + 8)), (1, z_i 1), (0, z_i v)]) rfl ?_
      refine z_lq (ls' := [(2, z_i 16), (1, z_i 1), (0, z_i v)]) rfl ?_
      refine z_goto hY eX8_bytesIn_31 ?_
      refine z_iload hY eX8_bytesIn_4 0 rfl ?_
      refine z_const hY eX8_bytesIn_5 ?_
      refine z_icmpge hY eX8_bytesIn_7 (by omega) (fun c => absurd c (by omega)) (fun _ => ?_)
      refine z_iload hY eX8_bytesIn_10 1 rfl ?_
      refine z_iload hY eX8_bytesIn_11 2 rfl ?_
      refine z_iload hY eX8_bytesIn_12 0 rfl ?_
      refine z_ishr hY eX8_bytesIn_13 (by omega) (D := 65536) (by unfold z_sk; omega) ?_
      refine z_const hY eX8_bytesIn_14 ?_
      refine z_iand255 hY eX8_bytesIn_17 ?_
      refine z_ifne hY eX8_bytesIn_18 (by omega) (fun c18 => ?_) (fun c18 => ?_)
      · refine z_const hY eX8_bytesIn_25 ?_
        refine z_iadd hY eX8_bytesIn_26 ?_
        refine z_top (b := 2) (by omega) ?_
        refine z_istore hY eX8_bytesIn_27 (ls' := [(1, z_i 2), (2, z_i 16), (0, z_i v)]) rfl ?_
        refine z_iinc hY eX8_bytesIn_28 1 rfl (ls' := [(2, z_i (16 + 8)), (1, z_i 2), (0, z_i v)]) rfl ?_
        refine z_lq (ls' := [(2, z_i 24), (1, z_i 2), (0, z_i v)]) rfl ?_
        refine z_goto hY eX8_bytesIn_31 ?_
        refine z_iload hY eX8_bytesIn_4 0 rfl ?_
        refine z_const hY eX8_bytesIn_5 ?_
        refine z_icmpge hY eX8_bytesIn_7 (by omega) (fun c => absurd c (by omega)) (fun _ => ?_)
        refine z_iload hY eX8_bytesIn_10 1 rfl ?_
        refine z_iload hY eX8_bytesIn_11 2 rfl ?_
        refine z_iload hY eX8_bytesIn_12 0 rfl ?_
        refine z_ishr hY eX8_bytesIn_13 (by omega) (D := 16777216) (by unfold z_sk; omega) ?_
        refine z_const hY eX8_bytesIn_14 ?_
        refine z_iand255 hY eX8_bytesIn_17 ?_
        refine z_ifne hY eX8_bytesIn_18 (by omega) (fun c18 => ?_) (fun c18 => ?_)
        · refine z_const hY eX8_bytesIn_25 ?_
          refine z_iadd hY eX8_bytesIn_26 ?_
          refine z_top (b := 3) (by omega) ?_
          refine z_istore hY eX8_bytesIn_27 (ls' := [(1, z_i 3), (2, z_i 24), (0, z_i v)]) rfl ?_
          refine z_iinc hY eX8_bytesIn_28 1 rfl (ls' := [(2, z_i (24 + 8)), (1, z_i 3), (0, z_i v)]) rfl ?_
          refine z_lq (ls' := [(2, z_i 32), (1, z_i 3), (0, z_i v)]) rfl ?_
          refine z_goto hY eX8_bytesIn_31 ?_
          refine z_iload hY eX8_bytesIn_4 0 rfl ?_
          refine z_const hY eX8_bytesIn_5 ?_
          refine z_icmpge hY eX8_bytesIn_7 (by omega) (fun _ => ?_) (fun c => absurd c (by omega))
          refine z_iload hY eX8_bytesIn_34 1 rfl ?_
          exact z_ireturn hY eX8_bytesIn_35 rfl (by rw [hφ]; exact ⟨congrArg (fun q => some (z_i q)) (by unfold yBy; omega), rfl⟩) ⟨Nat.zero_le _, Nat.zero_le _⟩
        · refine z_const hY eX8_bytesIn_21 ?_
          refine z_goto hY eX8_bytesIn_22 ?_
          refine z_iadd hY eX8_bytesIn_26 ?_
          refine z_top (b := 2) (by omega) ?_
          refine z_istore hY eX8_bytesIn_27 (ls' := [(1, z_i 2), (2, z_i 24), (0, z_i v)]) rfl ?_
          refine z_iinc hY eX8_bytesIn_28 1 rfl (ls' := [(2, z_i (24 + 8)), (1, z_i 2), (0, z_i v)]) rfl ?_
          refine z_lq (ls' := [(2, z_i 32), (1, z_i 2), (0, z_i v)]) rfl ?_
          refine z_goto hY eX8_bytesIn_31 ?_
          refine z_iload hY eX8_bytesIn_4 0 rfl ?_
          refine z_const hY eX8_bytesIn_5 ?_
          refine z_icmpge hY eX8_bytesIn_7 (by omega) (fun _ => ?_) (fun c => absurd c (by omega))
          refine z_iload hY eX8_bytesIn_34 1 rfl ?_
          exact z_ireturn hY eX8_bytesIn_35 rfl (by rw [hφ]; exact ⟨congrArg (fun q => some (z_i q)) (by unfold yBy; omega), rfl⟩) ⟨Nat.zero_le _, Nat.zero_le _⟩
      · refine z_const hY eX8_bytesIn_21 ?_
        refine z_goto hY eX8_bytesIn_22 ?_
        refine z_iadd hY eX8_bytesIn_26 ?_
        refine z_top (b := 1) (by omega) ?_
        refine z_istore hY eX8_bytesIn_27 (ls' := [(1, z_i 1), (2, z_i 16), (0, z_i v)]) rfl ?_
        refine z_iinc hY eX8_bytesIn_28 1 rfl (ls' := [(2, z_i (16 + 8)), (1, z_i 1), (0, z_i v)]) rfl ?_
        refine z_lq (ls' := [(2, z_i 24), (1, z_i 1), (0, z_i v)]) rfl ?_
        refine z_goto hY eX8_bytesIn_31 ?_
        refine z_iload hY eX8_bytesIn_4 0 rfl ?_
        refine z_const hY eX8_bytesIn_5 ?_
        refine z_icmpge hY eX8_bytesIn_7 (by omega) (fun c => absurd c (by omega)) (fun _ => ?_)
        refine z_iload hY eX8_bytesIn_10 1 rfl ?_
        refine z_iload hY eX8_bytesIn_11 2 rfl ?_
        refine z_iload hY eX8_bytesIn_12 0 rfl ?_
        refine z_ishr hY eX8_bytesIn_13 (by omega) (D := 16777216) (by unfold z_sk; omega) ?_
        refine z_const hY eX8_bytesIn_14 ?_
        refine z_iand255 hY eX8_bytesIn_17 ?_
        refine z_ifne hY eX8_bytesIn_18 (by omega) (fun c18 => ?_) (fun c18 => ?_)
        · refine z_const hY eX8_bytesIn_25 ?_
          refine z_iadd hY eX8_bytesIn_26 ?_
          refine z_top (b := 2) (by omega) ?_
          refine z_istore hY eX8_bytesIn_27 (ls' := [(1, z_i 2), (2, z_i 24), (0, z_i v)]) rfl ?_
          refine z_iinc hY eX8_bytesIn_28 1 rfl (ls' := [(2, z_i (24 + 8)), (1, z_i 2), (0, z_i v)]) rfl ?_
          refine z_lq (ls' := [(2, z_i 32), (1, z_i 2), (0, z_i v)]) rfl ?_
          refine z_goto hY eX8_bytesIn_31 ?_
          refine z_iload hY eX8_bytesIn_4 0 rfl ?_
          refine z_const hY eX8_bytesIn_5 ?_
          refine z_icmpge hY eX8_bytesIn_7 (by omega) (fun _ => ?_) (fun c => absurd c (by omega))
          refine z_iload hY eX8_bytesIn_34 1 rfl ?_
          exact z_ireturn hY eX8_bytesIn_35 rfl (by rw [hφ]; exact ⟨congrArg (fun q => some (z_i q)) (by unfold yBy; omega), rfl⟩) ⟨Nat.zero_le _, Nat.zero_le _⟩
        · refine z_const hY eX8_bytesIn_21 ?_
          refine z_goto hY eX8_bytesIn_22 ?_
          refine z_iadd hY eX8_bytesIn_26 ?_
          refine z_top (b := 1) (by omega) ?_
          refine z_istore hY eX8_bytesIn_27 (ls' := [(1, z_i 1), (2, z_i 24), (0, z_i v)]) rfl ?_
          refine z_iinc hY eX8_bytesIn_28 1 rfl (ls' := [(2, z_i (24 + 8)), (1, z_i 1), (0, z_i v)]) rfl ?_
          refine z_lq (ls' := [(2, z_i 32), (1, z_i 1), (0, z_i v)]) rfl ?_
          refine z_goto hY eX8_bytesIn_31 ?_
          refine z_iload hY eX8_bytesIn_4 0 rfl ?_
          refine z_const hY eX8_bytesIn_5 ?_
          refine z_icmpge hY eX8_bytesIn_7 (by omega) (fun _ => ?_) (fun c => absurd c (by omega))
          refine z_iload hY eX8_bytesIn_34 1 rfl ?_
          exact z_ireturn hY eX8_bytesIn_35 rfl (by rw [hφ]; exact ⟨congrArg (fun q => some (z_i q)) (by unfold yBy; omega), rfl⟩) ⟨Nat.zero_le _, Nat.zero_le _⟩
    · refine z_const hY eX8_bytesIn_21 ?_
      refine z_goto hY eX8_bytesIn_22 ?_
      refine z_iadd hY eX8_bytesIn_26 ?_
      refine z_top (b := 0) (by omega) ?_
      refine z_istore hY eX8_bytesIn_27 (ls' := [(1, z_i 0), (2, z_i 8), (0, z_i v)]) rfl ?_
      refine z_iinc hY eX8_bytesIn_28 1 rfl (ls' := [(2, z_i (8 + 8)), (1, z_i 0), (0, z_i v)]) rfl ?_
      refine z_lq (ls' := [(2, z_i 16), (1, z_i 0), (0, z_i v)]) rfl ?_
      refine z_goto hY eX8_bytesIn_31 ?_
      refine z_iload hY eX8_bytesIn_4 0 rfl ?_
      refine z_const hY eX8_bytesIn_5 ?_
      refine z_icmpge hY eX8_bytesIn_7 (by omega) (fun c => absurd c (by omega)) (fun _ => ?_)
      refine z_iload hY eX8_bytesIn_10 1 rfl ?_
      refine z_iload hY eX8_bytesIn_11 2 rfl ?_
      refine z_iload hY eX8_bytesIn_12 0 rfl ?_
      refine z_ishr hY eX8_bytesIn_13 (by omega) (D := 65536) (by unfold z_sk; omega) ?_
      refine z_const hY eX8_bytesIn_14 ?_
      refine z_iand255 hY eX8_bytesIn_17 ?_
      refine z_ifne hY eX8_bytesIn_18 (by omega) (fun c18 => ?_) (fun c18 => ?_)
      · refine z_const hY eX8_bytesIn_25 ?_
        refine z_iadd hY eX8_bytesIn_26 ?_
        refine z_top (b := 1) (by omega) ?_
        refine z_istore hY eX8_bytesIn_27 (ls' := [(1, z_i 1), (2, z_i 16), (0, z_i v)]) rfl ?_
        refine z_iinc hY eX8_bytesIn_28 1 rfl (ls' := [(2, z_i (16 + 8)), (1, z_i 1), (0, z_i v)]) rfl ?_
        refine z_lq (ls' := [(2, z_i 24), (1, z_i 1), (0, z_i v)]) rfl ?_
        refine z_goto hY eX8_bytesIn_31 ?_
        refine z_iload hY eX8_bytesIn_4 0 rfl ?_
        refine z_const hY eX8_bytesIn_5 ?_
        refine z_icmpge hY eX8_bytesIn_7 (by omega) (fun c => absurd c (by omega)) (fun _ => ?_)
        refine z_iload hY eX8_bytesIn_10 1 rfl ?_
        refine z_iload hY eX8_bytesIn_11 2 rfl ?_
        refine z_iload hY eX8_bytesIn_12 0 rfl ?_
        refine z_ishr hY eX8_bytesIn_13 (by omega) (D := 16777216) (by unfold z_sk; omega) ?_
        refine z_const hY eX8_bytesIn_14 ?_
        refine z_iand255 hY eX8_bytesIn_17 ?_
        refine z_ifne hY eX8_bytesIn_18 (by omega) (fun c18 => ?_) (fun c18 => ?_)
        · refine z_const hY eX8_bytesIn_25 ?_
          refine z_iadd hY eX8_bytesIn_26 ?_
          refine z_top (b := 2) (by omega) ?_
          refine z_istore hY eX8_bytesIn_27 (ls' := [(1, z_i 2), (2, z_i 24), (0, z_i v)]) rfl ?_
          refine z_iinc hY eX8_bytesIn_28 1 rfl (ls' := [(2, z_i (24 + 8)), (1, z_i 2), (0, z_i v)]) rfl ?_
          refine z_lq (ls' := [(2, z_i 32), (1, z_i 2), (0, z_i v)]) rfl ?_
          refine z_goto hY eX8_bytesIn_31 ?_
          refine z_iload hY eX8_bytesIn_4 0 rfl ?_
          refine z_const hY eX8_bytesIn_5 ?_
          refine z_icmpge hY eX8_bytesIn_7 (by omega) (fun _ => ?_) (fun c => absurd c (by omega))
          refine z_iload hY eX8_bytesIn_34 1 rfl ?_
          exact z_ireturn hY eX8_bytesIn_35 rfl (by rw [hφ]; exact ⟨congrArg (fun q => some (z_i q)) (by unfold yBy; omega), rfl⟩) ⟨Nat.zero_le _, Nat.zero_le _⟩
        · refine z_const hY eX8_bytesIn_21 ?_
          refine z_goto hY eX8_bytesIn_22 ?_
          refine z_iadd hY eX8_bytesIn_26 ?_
          refine z_top (b := 1) (by omega) ?_
          refine z_istore hY eX8_bytesIn_27 (ls' := [(1, z_i 1), (2, z_i 24), (0, z_i v)]) rfl ?_
          refine z_iinc hY eX8_bytesIn_28 1 rfl (ls' := [(2, z_i (24 + 8)), (1, z_i 1), (0, z_i v)]) rfl ?_
          refine z_lq (ls' := [(2, z_i 32), (1, z_i 1), (0, z_i v)]) rfl ?_
          refine z_goto hY eX8_bytesIn_31 ?_
          refine z_iload hY eX8_bytesIn_4 0 rfl ?_
          refine z_const hY eX8_bytesIn_5 ?_
          refine z_icmpge hY eX8_bytesIn_7 (by omega) (fun _ => ?_) (fun c => absurd c (by omega))
          refine z_iload hY eX8_bytesIn_34 1 rfl ?_
          exact z_ireturn hY eX8_bytesIn_35 rfl (by rw [hφ]; exact ⟨congrArg (fun q => some (z_i q)) (by unfold yBy; omega), rfl⟩) ⟨Nat.zero_le _, Nat.zero_le _⟩
      · refine z_const hY eX8_bytesIn_21 ?_
        refine z_goto hY eX8_bytesIn_22 ?_
        refine z_iadd hY eX8_bytesIn_26 ?_
        refine z_top (b := 0) (by omega) ?_
        refine z_istore hY eX8_bytesIn_27 (ls' := [(1, z_i 0), (2, z_i 16), (0, z_i v)]) rfl ?_
        refine z_iinc hY eX8_bytesIn_28 1 rfl (ls' := [(2, z_i (16 + 8)), (1, z_i 0), (0, z_i v)]) rfl ?_
        refine z_lq (ls' := [(2, z_i 24), (1, z_i 0), (0, z_i v)]) rfl ?_
        refine z_goto hY eX8_bytesIn_31 ?_
        refine z_iload hY eX8_bytesIn_4 0 rfl ?_
        refine z_const hY eX8_bytesIn_5 ?_
        refine z_icmpge hY eX8_bytesIn_7 (by omega) (fun c => absurd c (by omega)) (fun _ => ?_)
        refine z_iload hY eX8_bytesIn_10 1 rfl ?_
        refine z_iload hY eX8_bytesIn_11 2 rfl ?_
        refine z_iload hY eX8_bytesIn_12 0 rfl ?_
        refine z_ishr hY eX8_bytesIn_13 (by omega) (D := 16777216) (by unfold z_sk; omega) ?_
        refine z_const hY eX8_bytesIn_14 ?_
        refine z_iand255 hY eX8_bytesIn_17 ?_
        refine z_ifne hY eX8_bytesIn_18 (by omega) (fun c18 => ?_) (fun c18 => ?_)
        · refine z_const hY eX8_bytesIn_25 ?_
          refine z_iadd hY eX8_bytesIn_26 ?_
          refine z_top (b := 1) (by omega) ?_
          refine z_istore hY eX8_bytesIn_27 (ls' := [(1, z_i 1), (2, z_i 24), (0, z_i v)]) rfl ?_
          refine z_iinc hY eX8_bytesIn_28 1 rfl (ls' := [(2, z_i (24 + 8)), (1, z_i 1), (0, z_i v)]) rfl ?_
          refine z_lq (ls' := [(2, z_i 32), (1, z_i 1), (0, z_i v)]) rfl ?_
          refine z_goto hY eX8_bytesIn_31 ?_
          refine z_iload hY eX8_bytesIn_4 0 rfl ?_
          refine z_const hY eX8_bytesIn_5 ?_
          refine z_icmpge hY eX8_bytesIn_7 (by omega) (fun _ => ?_) (fun c => absurd c (by omega))
          refine z_iload hY eX8_bytesIn_34 1 rfl ?_
          exact z_ireturn hY eX8_bytesIn_35 rfl (by rw [hφ]; exact ⟨congrArg (fun q => some (z_i q)) (by unfold yBy; omega), rfl⟩) ⟨Nat.zero_le _, Nat.zero_le _⟩
        · refine z_const hY eX8_bytesIn_21 ?_
          refine z_goto hY eX8_bytesIn_22 ?_
          refine z_iadd hY eX8_bytesIn_26 ?_
          refine z_top (b := 0) (by omega) ?_
          refine z_istore hY eX8_bytesIn_27 (ls' := [(1, z_i 0), (2, z_i 24), (0, z_i v)]) rfl ?_
          refine z_iinc hY eX8_bytesIn_28 1 rfl (ls' := [(2, z_i (24 + 8)), (1, z_i 0), (0, z_i v)]) rfl ?_
          refine z_lq (ls' := [(2, z_i 32), (1, z_i 0), (0, z_i v)]) rfl ?_
          refine z_goto hY eX8_bytesIn_31 ?_
          refine z_iload hY eX8_bytesIn_4 0 rfl ?_
          refine z_const hY eX8_bytesIn_5 ?_
          refine z_icmpge hY eX8_bytesIn_7 (by omega) (fun _ => ?_) (fun c => absurd c (by omega))
          refine z_iload hY eX8_bytesIn_34 1 rfl ?_
          exact z_ireturn hY eX8_bytesIn_35 rfl (by rw [hφ]; exact ⟨congrArg (fun q => some (z_i q)) (by unfold yBy; omega), rfl⟩) ⟨Nat.zero_le _, Nat.zero_le _⟩
theorem m_valueOf {G : z_G} {A : Nat → Nat} {σ : z_S} {h : z_H} (hG : z_OK G) (hA : mI A) (hB : mB σ) {e c : Int} (he : 0 ≤ e ∧ e < 30) (hc : 0 ≤ c ∧ c < 4) : z_Tr G mX8_valueOf [.ref (A 40), z_i e, z_i c] (mH A σ h) 0 (z_i (vl σ e c)) := by
  refine z_T_of hG pX8_valueOf (Nat.le_of_ble_eq_true rfl) (ls0 := [(0, .ref (A 40)), (1, z_i e), (2, z_i c)]) rfl fun Y hY hg hmc hms hφ hψ => ?_
  subst hg
  refine z_const hY eX8_valueOf_0 ?_
  refine z_istore hY eX8_valueOf_1 (ls' := [(3, z_i 0), (0, .ref (A 40)), (1, z_i e), (2, z_i c)]) rfl ?_
  refine z_const hY eX8_valueOf_2 ?_
  refine z_istore hY eX8_valueOf_3 (ls' := [(4, z_i 0), (3, z_i 0), (0, .ref (A 40)), (1, z_i e), (2, z_i c)]) rfl ?_
  refine z_iload hY eX8_valueOf_5 0 rfl ?_
  refine z_const hY eX8_valueOf_7 ?_
  refine z_icmpge hY eX8_valueOf_8 (by omega) (fun c => absurd c (by omega)) (fun _ => ?_)
  refine z_iload hY eX8_valueOf_11 1 rfl ?_
  refine z_aload hY eX8_valueOf_12 2 rfl ?_
  refine m_gf hY hA eX8_valueOf_13 (v := .ref (A 8)) rfl ?_
  refine z_const hY eX8_valueOf_16 ?_
  refine z_iload hY eX8_valueOf_17 4 rfl ?_
  refine z_imul hY eX8_valueOf_18 ?_
  refine z_iload hY eX8_valueOf_19 0 rfl ?_
  refine z_iadd hY eX8_valueOf_21 ?_
  refine z_top (b := 4 * c) (by omega) ?_
  have hb1 := hB 8 (4 * c)
  refine m_ial hY hA eX8_valueOf_22 (j := 8) (N := 16) (x := σ 8 (4 * c)) (by decide) rfl (by omega) rfl ?_
  refine z_aload hY eX8_valueOf_23 2 rfl ?_
  refine m_gf hY hA eX8_valueOf_24 (v := .ref (A 14)) rfl ?_
  refine z_const hY eX8_valueOf_27 ?_
  refine z_iload hY eX8_valueOf_28 3 rfl ?_
  refine z_imul hY eX8_valueOf_29 ?_
  refine z_iload hY eX8_valueOf_30 0 rfl ?_
  refine z_iadd hY eX8_valueOf_32 ?_
  refine z_top (b := 4 * e) (by omega) ?_
  have hb2 := hB 14 (4 * e)
  refine m_ial hY hA eX8_valueOf_33 (j := 14) (N := 120) (x := σ 14 (4 * e)) (by decide) rfl (by omega) rfl ?_
  refine z_imul hY eX8_valueOf_34 ?_
  refine z_iadd hY eX8_valueOf_35 ?_
  refine z_top (b := (σ 8 (4 * c)) * (σ 14 (4 * e))) (by omega) ?_
  refine z_istore hY eX8_valueOf_36 (ls' := [(3, z_i ((σ 8 (4 * c)) * (σ 14 (4 * e)))), (4, z_i 0), (0, .ref (A 40)), (1, z_i e), (2, z_i c)]) rfl ?_
  refine z_iinc hY eX8_valueOf_37 1 rfl (ls' := [(4, z_i (0 + 1)), (3, z_i ((σ 8 (4 * c)) * (σ 14 (4 * e)))), (0, .ref (A 40)), (1, z_i e), (2, z_i c)]) rfl ?_
  refine z_lq (ls' := [(4, z_i 1), (3, z_i ((σ 8 (4 * c)) * (σ 14 (4 * e)))), (0, .ref (A 40)), (1, z_i e), (2, z_i c)]) rfl ?_
  refine z_goto hY eX8_valueOf_40 ?_
  refine z_iload hY eX8_valueOf_5 0 rfl ?_
  refine z_const hY eX8_valueOf_7 ?_
  refine z_icmpge hY eX8_valueOf_8 (by omega) (fun c => absurd c (by omega)) (fun _ => ?_)
  refine z_iload hY eX8_valueOf_11 1 rfl ?_
  refine z_aload hY eX8_valueOf_12 2 rfl ?_
  refine m_gf hY hA eX8_valueOf_13 (v := .ref (A 8)) rfl ?_
  refine z_const hY eX8_valueOf_16 ?_
  refine z_iload hY eX8_valueOf_17 4 rfl ?_
  refine z_imul hY eX8_valueOf_18 ?_
  refine z_iload hY eX8_valueOf_19 0 rfl ?_
  refine z_iadd hY eX8_valueOf_21 ?_
  have hb3 := hB 8 (4 * c + 1)
  refine m_ial hY hA eX8_valueOf_22 (j := 8) (N := 16) (x := σ 8 (4 * c + 1)) (by decide) rfl (by omega) rfl ?_
  refine z_aload hY eX8_valueOf_23 2 rfl ?_
  refine m_gf hY hA eX8_valueOf_24 (v := .ref (A 14)) rfl ?_
  refine z_const hY eX8_valueOf_27 ?_
  refine z_iload hY eX8_valueOf_28 3 rfl ?_
  refine z_imul hY eX8_valueOf_29 ?_
  refine z_iload hY eX8_valueOf_30 0 rfl ?_
  refine z_iadd hY eX8_valueOf_32 ?_
  have hb4 := hB 14 (4 * e + 1)
  refine m_ial hY hA eX8_valueOf_33 (j := 14) (N := 120) (x := σ 14 (4 * e + 1)) (by decide) rfl (by omega) rfl ?_
  refine z_imul hY eX8_valueOf_34 ?_
  refine z_iadd hY eX8_valueOf_35 ?_
  refine z_istore hY eX8_valueOf_36 (ls' := [(3, z_i (((σ 8 (4 * c)) * (σ 14 (4 * e))) + ((σ 8 (4 * c + 1)) * (σ 14 (4 * e + 1))))), (4, z_i 1), (0, .ref (A 40)), (1, z_i e), (2, z_i c)]) rfl ?_
  refine z_iinc hY eX8_valueOf_37 1 rfl (ls' := [(4, z_i (1 + 1)), (3, z_i (((σ 8 (4 * c)) * (σ 14 (4 * e))) + ((σ 8 (4 * c + 1)) * (σ 14 (4 * e + 1))))), (0, .ref (A 40)), (1, z_i e), (2, z_i c)]) rfl ?_
  refine z_lq (ls' := [(4, z_i 2), (3, z_i (((σ 8 (4 * c)) * (σ 14 (4 * e))) + ((σ 8 (4 * c + 1)) * (σ 14 (4 * e + 1))))), (0, .ref (A 40)), (1, z_i e), (2, z_i c)]) rfl ?_
  refine z_goto hY eX8_valueOf_40 ?_
  refine z_iload hY eX8_valueOf_5 0 rfl ?_
  refine z_const hY eX8_valueOf_7 ?_
  refine z_icmpge hY eX8_valueOf_8 (by omega) (fun c => absurd c (by omega)) (fun _ => ?_)
  refine z_iload hY eX8_valueOf_11 1 rfl ?_
  refine z_aload hY eX8_valueOf_12 2 rfl ?_
  refine m_gf hY hA eX8_valueOf_13 (v := .ref (A 8)) rfl ?_
  refine z_const hY eX8_valueOf_16 ?_
  refine z_iload hY eX8_valueOf_17 4 rfl ?_
  refine z_imul hY eX8_valueOf_18 ?_
  refine z_iload hY eX8_valueOf_19 0 rfl ?_
  refine z_iadd hY eX8_valueOf_21 ?_
  have hb5 := hB 8 (4 * c + 2)
  refine m_ial hY hA eX8_valueOf_22 (j := 8) (N := 16) (x := σ 8 (4 * c + 2)) (by decide) rfl (by omega) rfl ?_
  refine z_aload hY eX8_valueOf_23 2 rfl ?_
  refine m_gf hY hA eX8_valueOf_24 (v := .ref (A 14)) rfl ?_
  refine z_const hY eX8_valueOf_27 ?_
  refine z_iload hY eX8_valueOf_28 3 rfl ?_
  refine z_imul hY eX8_valueOf_29 ?_
  refine z_iload hY eX8_valueOf_30 0 rfl ?_
  refine z_iadd hY eX8_valueOf_32 ?_
  have hb6 := hB 14 (4 * e + 2)
  refine m_ial hY hA eX8_valueOf_33 (j := 14) (N := 120) (x := σ 14 (4 * e + 2)) (by decide) rfl (by omega) rfl ?_
  refine z_imul hY eX8_valueOf_34 ?_
  refine z_iadd hY eX8_valueOf_35 ?_
  refine z_istore hY eX8_valueOf_36 (ls' := [(3, z_i (((σ 8 (4 * c)) * (σ 14 (4 * e))) + ((σ 8 (4 * c + 1)) * (σ 14 (4 * e + 1))) + ((σ 8 (4 * c + 2)) * (σ 14 (4 * e + 2))))), (4, z_i 2), (0, .ref (A 40)), (1, z_i e), (2, z_i c)]) rfl ?_
  refine z_iinc hY eX8_valueOf_37 1 rfl (ls' := [(4, z_i (2 + 1)), (3, z_i (((σ 8 (4 * c)) * (σ 14 (4 * e))) + ((σ 8 (4 * c + 1)) * (σ 14 (4 * e + 1))) + ((σ 8 (4 * c + 2)) * (σ 14 (4 * e + 2))))), (0, .ref (A 40)), (1, z_i e), (2, z_i c)]) rfl ?_
  refine z_lq (ls' := [(4, z_i 3), (3, z_i (((σ 8 (4 * c)) * (σ 14 (4 * e))) + ((σ 8 (4 * c + 1)) * (σ 14 (4 * e + 1))) + ((σ 8 (4 * c + 2)) * (σ 14 (4 * e + 2))))), (0, .ref (A 40)), (1, z_i e), (2, z_i c)]) rfl ?_
  refine z_goto hY eX8_valueOf_40 ?_
  refine z_iload hY eX8_valueOf_5 0 rfl ?_
  refine z_const hY eX8_valueOf_7 ?_
  refine z_icmpge hY eX8_valueOf_8 (by omega) (fun c => absurd c (by omega)) (fun _ => ?_)
  refine z_iload hY eX8_valueOf_11 1 rfl ?_
  refine z_aload hY eX8_valueOf_12 2 rfl ?_
  refine m_gf hY hA eX8_valueOf_13 (v := .ref (A 8)) rfl ?_
  refine z_const hY eX8_valueOf_16 ?_
  refine z_iload hY eX8_valueOf_17 4 rfl ?_
  refine z_imul hY eX8_valueOf_18 ?_
  refine z_iload hY eX8_valueOf_19 0 rfl ?_
  refine z_iadd hY eX8_valueOf_21 ?_
  have hb7 := hB 8 (4 * c + 3)
  refine m_ial hY hA eX8_valueOf_22 (j := 8) (N := 16) (x := σ 8 (4 * c + 3)) (by decide) rfl (by omega) rfl ?_
  refine z_aload hY eX8_valueOf_23 2 rfl ?_
  refine m_gf hY hA eX8_valueOf_24 (v := .ref (A 14)) rfl ?_
  refine z_const hY eX8_valueOf_27 ?_
  refine z_iload hY eX8_valueOf_28 3 rfl ?_
  refine z_imul hY eX8_valueOf_29 ?_
  refine z_iload hY eX8_valueOf_30 0 rfl ?_
  refine z_iadd hY eX8_valueOf_32 ?_
  have hb8 := hB 14 (4 * e + 3)
  refine m_ial hY hA eX8_valueOf_33 (j := 14) (N := 120) (x := σ 14 (4 * e + 3)) (by decide) rfl (by omega) rfl ?_
  refine z_imul hY eX8_valueOf_34 ?_
  refine z_iadd hY eX8_valueOf_35 ?_
  refine z_istore hY eX8_valueOf_36 (ls' := [(3, z_i (((σ 8 (4 * c)) * (σ 14 (4 * e))) + ((σ 8 (4 * c + 1)) * (σ 14 (4 * e + 1))) + ((σ 8 (4 * c + 2)) * (σ 14 (4 * e + 2))) + ((σ 8 (4 * c + 3)) * (σ 14 (4 * e + 3))))), (4, z_i 3), (0, .ref (A 40)), (1, z_i e), (2, z_i c)]) rfl ?_
  refine z_iinc hY eX8_valueOf_37 1 rfl (ls' := [(4, z_i (3 + 1)), (3, z_i (((σ 8 (4 * c)) * (σ 14 (4 * e))) + ((σ 8 (4 * c + 1)) * (σ 14 (4 * e + 1))) + ((σ 8 (4 * c + 2)) * (σ 14 (4 * e + 2))) + ((σ 8 (4 * c + 3)) * (σ 14 (4 * e + 3))))), (0, .ref (A 40)), (1, z_i e), (2, z_i c)]) rfl ?_
  refine z_lq (ls' := [(4, z_i 4), (3, z_i (((σ 8 (4 * c)) * (σ 14 (4 * e))) + ((σ 8 (4 * c + 1)) * (σ 14 (4 * e + 1))) + ((σ 8 (4 * c + 2)) * (σ 14 (4 * e + 2))) + ((σ 8 (4 * c + 3)) * (σ 14 (4 * e + 3))))), (0, .ref (A 40)), (1, z_i e), (2, z_i c)]) rfl ?_
  refine z_goto hY eX8_valueOf_40 ?_
  refine z_iload hY eX8_valueOf_5 0 rfl ?_
  refine z_const hY eX8_valueOf_7 ?_
  refine z_icmpge hY eX8_valueOf_8 (by omega) (fun _ => ?_) (fun c => absurd c (by omega))
  refine z_iload hY eX8_valueOf_43 1 rfl ?_
  exact z_ireturn hY eX8_valueOf_44 rfl (by rw [hφ]; exact ⟨congrArg (fun q => some (z_i q)) (by unfold vl; omega), rfl⟩) ⟨Nat.zero_le _, Nat.zero_le _⟩
theorem m_compares {G : z_G} {A : Nat → Nat} {σ : z_S} {h : z_H} (hG : z_OK G) (hA : mI A) (hB : mB σ) (hV : mV σ) {e o : Int} (he : 0 ≤ e ∧ e < 30) (ho : 0 ≤ o ∧ o < 30) : z_Tr G mX8_compares [.ref (A 40), z_i e, z_i o] (mH A σ h) 1 (z_i (cp σ e o)) := by
  obtain ⟨hf, hsc, hcm, hcr, hth, hgr, hlm, hld, hlo, hro, htm, hre, hpa, htp, hgp⟩ := id hV
  refine z_T_of hG pX8_compares (Nat.le_of_ble_eq_true rfl) (ls0 := [(0, .ref (A 40)), (1, z_i e), (2, z_i o)]) rfl fun Y hY hg hmc hms hφ hψ => ?_
  subst hg
  refine z_const hY eX8_compares_0 ?_
  refine z_istore hY eX8_compares_1 (ls' := [(3, z_i 0), (0, .ref (A 40)), (1, z_i e), (2, z_i o)]) rfl ?_
  refine z_sub [1, 2, 3, 0] (ls' := [(0, .ref (A 40)), (1, z_i e), (2, z_i o), (3, z_i 0)]) rfl ?_
  have lp2 : ∀ (fu : Nat) (c : Int), (σ 12 0 - c).toNat < fu → 0 ≤ c ∧ c ≤ σ 12 0 → cm σ e o (σ 12 0 - c).toNat c = cp σ e o → z_W Y 2 [(0, .ref (A 40)), (1, z_i e), (2, z_i o), (3, z_i c)] [] (mH A σ h) 0 0 := by
    intro fu
    induction fu with
    | zero => intro c hf; exact absurd hf (Nat.not_lt_zero _)
    | succ fu ih2 =>
      intro c hf h0 hn
      have hgc := hgr c
      refine z_iload hY eX8_compares_2 3 rfl ?_
      refine z_aload hY eX8_compares_3 0 rfl ?_
      have hb1 := hB 12 0
      refine m_gf hY hA eX8_compares_4 (v := z_i (σ 12 0)) rfl ?_
      refine z_icmpge hY eX8_compares_7 (by omega) (fun c7 => ?_) (fun c7 => ?_)
      · refine z_const hY eX8_compares_66 ?_
        exact z_ireturn hY eX8_compares_67 rfl (by rw [hφ]; exact ⟨congrArg (fun q => some (z_i q)) ((cm_e (by omega)).symm.trans hn), rfl⟩) ⟨Nat.zero_le _, Nat.zero_le _⟩
      · refine z_aload hY eX8_compares_10 0 rfl ?_
        refine z_iload hY eX8_compares_11 1 rfl ?_
        refine z_iload hY eX8_compares_12 3 rfl ?_
        refine z_callVr (As := [z_i e, z_i c]) (rest := []) (r := z_i (vl σ e c)) hY eX8_compares_13 (m_valueOf hG hA hB (by omega) (by omega)) (mH_at hA (k := 40) (by decide)) (by decide) (Nat.le_of_ble_eq_true rfl) ⟨Nat.zero_le _, Nat.zero_le _⟩ ?_
        have hc2 := vl_b hV e c
        refine z_istore hY eX8_compares_16 (ls' := [(4, z_i (vl σ e c)), (0, .ref (A 40)), (1, z_i e), (2, z_i o), (3, z_i c)]) rfl ?_
        refine z_aload hY eX8_compares_18 1 rfl ?_
        refine z_iload hY eX8_compares_19 3 rfl ?_
        refine z_iload hY eX8_compares_20 4 rfl ?_
        refine z_callVr (As := [z_i o, z_i c]) (rest := []) (r := z_i (vl σ o c)) hY eX8_compares_21 (m_valueOf hG hA hB (by omega) (by omega)) (mH_at hA (k := 40) (by decide)) (by decide) (Nat.le_of_ble_eq_true rfl) ⟨Nat.zero_le _, Nat.zero_le _⟩ ?_
        have hc3 := vl_b hV o c
        refine z_istore hY eX8_compares_24 (ls' := [(5, z_i (vl σ o c)), (4, z_i (vl σ e c)), (0, .ref (A 40)), (1, z_i e), (2, z_i o), (3, z_i c)]) rfl ?_
        refine z_iload hY eX8_compares_26 1 rfl ?_
        refine z_iload hY eX8_compares_28 0 rfl ?_
        refine z_icmpeq hY eX8_compares_30 (by omega) (fun c30 => ?_) (fun c30 => ?_)
        · refine z_iinc hY eX8_compares_60 5 rfl (ls' := [(3, z_i (c + 1)), (5, z_i (vl σ o c)), (4, z_i (vl σ e c)), (0, .ref (A 40)), (1, z_i e), (2, z_i o)]) rfl ?_
          refine z_goto hY eX8_compares_63 ?_
          refine z_sub [3, 4, 5, 0] (ls' := [(0, .ref (A 40)), (1, z_i e), (2, z_i o), (3, z_i (c + 1))]) rfl ?_
          exact ih2 (c + 1) (by omega) (by omega) ((cm_f (by omega) (by omega)).symm.trans hn)
        · refine z_iload hY eX8_compares_33 1 rfl ?_
          refine z_iload hY eX8_compares_35 0 rfl ?_
          refine z_icmple hY eX8_compares_37 (by omega) (fun c37 => ?_) (fun c37 => ?_)
          · refine z_const hY eX8_compares_44 ?_
            refine z_aload hY eX8_compares_45 2 rfl ?_
            refine m_gf hY hA eX8_compares_46 (v := .ref (A 10)) rfl ?_
            refine z_iload hY eX8_compares_49 5 rfl ?_
            have hb4 := hB 10 c
            refine m_bal hY hA eX8_compares_50 (j := 10) (N := 4) (x := σ 10 c) (by decide) rfl (by omega) rfl ?_
            refine z_icmpne hY eX8_compares_51 (by omega) (fun c51 => ?_) (fun c51 => ?_)
            · refine z_const hY eX8_compares_58 ?_
              exact z_ireturn hY eX8_compares_59 rfl (by rw [hφ]; exact ⟨congrArg (fun q => some (z_i q)) (by rw [← hn, cm_t (by omega) (by omega)]; split <;> omega), rfl⟩) ⟨Nat.zero_le _, Nat.zero_le _⟩
            · refine z_const hY eX8_compares_54 ?_
              refine z_goto hY eX8_compares_55 ?_
              exact z_ireturn hY eX8_compares_59 rfl (by rw [hφ]; exact ⟨congrArg (fun q => some (z_i q)) (by rw [← hn, cm_t (by omega) (by omega)]; split <;> omega), rfl⟩) ⟨Nat.zero_le _, Nat.zero_le _⟩
          · refine z_const hY eX8_compares_40 ?_
            refine z_goto hY eX8_compares_41 ?_
            refine z_aload hY eX8_compares_45 2 rfl ?_
            refine m_gf hY hA eX8_compares_46 (v := .ref (A 10)) rfl ?_
            refine z_iload hY eX8_compares_49 5 rfl ?_
            have hb5 := hB 10 c
            refine m_bal hY hA eX8_compares_50 (j := 10) (N := 4) (x := σ 10 c) (by decide) rfl (by omega) rfl ?_
            refine z_icmpne hY eX8_compares_51 (by omega) (fun c51 => ?_) (fun c51 => ?_)
            · refine z_const hY eX8_compares_58 ?_
              exact z_ireturn hY eX8_compares_59 rfl (by rw [hφ]; exact ⟨congrArg (fun q => some (z_i q)) (by rw [← hn, cm_t (by omega) (by omega)]; split <;> omega), rfl⟩) ⟨Nat.zero_le _, Nat.zero_le _⟩
            · refine z_const hY eX8_compares_54 ?_
              refine z_goto hY eX8_compares_55 ?_
              exact z_ireturn hY eX8_compares_59 rfl (by rw [hφ]; exact ⟨congrArg (fun q => some (z_i q)) (by rw [← hn, cm_t (by omega) (by omega)]; split <;> omega), rfl⟩) ⟨Nat.zero_le _, Nat.zero_le _⟩
  exact lp2 _ 0 (Nat.lt_succ_self _) (by omega) rfl
theorem m_better {G : z_G} {A : Nat → Nat} {σ : z_S} {h : z_H} (hG : z_OK G) (hA : mI A) (hB : mB σ) (hV : mV σ) {e : Int} (he : 0 ≤ e ∧ e < 30) : z_Tr G mX8_better [.ref (A 40), z_i e] (mH A σ h) 2 (z_i (bt σ e)) := by
  obtain ⟨hf, hsc, hcm, hcr, hth, hgr, hlm, hld, hlo, hro, htm, hre, hpa, htp, hgp⟩ := id hV
  refine z_T_of hG pX8_better (Nat.le_of_ble_eq_true rfl) (ls0 := [(0, .ref (A 40)), (1, z_i e)]) rfl fun Y hY hg hmc hms hφ hψ => ?_
  subst hg
  refine z_const hY eX8_better_0 ?_
  refine z_istore hY eX8_better_1 (ls' := [(2, z_i 0), (0, .ref (A 40)), (1, z_i e)]) rfl ?_
  refine z_const hY eX8_better_2 ?_
  refine z_istore hY eX8_better_3 (ls' := [(3, z_i 0), (2, z_i 0), (0, .ref (A 40)), (1, z_i e)]) rfl ?_
  refine z_sub [2, 3, 0, 1] (ls' := [(0, .ref (A 40)), (1, z_i e), (3, z_i 0), (2, z_i 0)]) rfl ?_
  have lp4 : ∀ (fu : Nat) (o : Int) (n : Int), (σ 19 0 - o).toNat < fu → 0 ≤ o ∧ o ≤ σ 19 0 → n = z_sm (fun o => if σ 18 o ≠ 0 ∧ 0 < cp σ o e then (1 : Int) else 0) o → 0 ≤ n ∧ n ≤ o → z_W Y 4 [(0, .ref (A 40)), (1, z_i e), (3, z_i o), (2, z_i n)] [] (mH A σ h) 0 0 := by
    intro fu
    induction fu with
    | zero => intro o n hf; exact absurd hf (Nat.not_lt_zero _)
    | succ fu ih4 =>
      intro o n hf h0 hn hnb
      refine z_iload hY eX8_better_4 2 rfl ?_
      refine z_aload hY eX8_better_5 0 rfl ?_
      have hb1 := hB 19 0
      refine m_gf hY hA eX8_better_6 (v := z_i (σ 19 0)) rfl ?_
      refine z_icmpge hY eX8_better_9 (by omega) (fun c9 => ?_) (fun c9 => ?_)
      · refine z_iload hY eX8_better_44 3 rfl ?_
        exact z_ireturn hY eX8_better_45 rfl (by rw [hφ]; exact ⟨congrArg (fun q => some (z_i q)) (by rw [hn, show o = σ 19 0 by omega]; rfl), rfl⟩) ⟨Nat.zero_le _, Nat.zero_le _⟩
      · refine z_iload hY eX8_better_12 3 rfl ?_
        refine z_aload hY eX8_better_13 0 rfl ?_
        refine m_gf hY hA eX8_better_14 (v := .ref (A 18)) rfl ?_
        refine z_iload hY eX8_better_17 2 rfl ?_
        have hb2 := hB 18 o
        refine m_bal hY hA eX8_better_18 (j := 18) (N := 30) (x := σ 18 o) (by decide) rfl (by omega) rfl ?_
        refine z_ifeq hY eX8_better_19 (by omega) (fun c19 => ?_) (fun c19 => ?_)
        · refine z_const hY eX8_better_35 ?_
          refine z_iadd hY eX8_better_36 ?_
          refine z_top (b := n) (by omega) ?_
          refine z_istore hY eX8_better_37 (ls' := [(2, z_i n), (0, .ref (A 40)), (1, z_i e), (3, z_i o)]) rfl ?_
          refine z_iinc hY eX8_better_38 3 rfl (ls' := [(3, z_i (o + 1)), (2, z_i n), (0, .ref (A 40)), (1, z_i e)]) rfl ?_
          refine z_goto hY eX8_better_41 ?_
          refine z_sub [2, 3, 0, 1] (ls' := [(0, .ref (A 40)), (1, z_i e), (3, z_i (o + 1)), (2, z_i n)]) rfl ?_
          exact ih4 (o + 1) n (by omega) (by omega) (by rw [z_smS (by omega), ← hn]; split <;> omega) (by omega)
        · refine z_aload hY eX8_better_22 0 rfl ?_
          refine z_iload hY eX8_better_23 2 rfl ?_
          refine z_iload hY eX8_better_24 1 rfl ?_
          refine z_callVr (As := [z_i o, z_i e]) (rest := [z_i n]) (r := z_i (cp σ o e)) hY eX8_better_25 (m_compares hG hA hB hV (by omega) (by omega)) (mH_at hA (k := 40) (by decide)) (by decide) (Nat.le_of_ble_eq_true rfl) ⟨Nat.zero_le _, Nat.zero_le _⟩ ?_
          have hc3 := cp_b σ o e
          refine z_ifle hY eX8_better_28 (by omega) (fun c28 => ?_) (fun c28 => ?_)
          · refine z_const hY eX8_better_35 ?_
            refine z_iadd hY eX8_better_36 ?_
            refine z_top (b := n) (by omega) ?_
            refine z_istore hY eX8_better_37 (ls' := [(2, z_i n), (0, .ref (A 40)), (1, z_i e), (3, z_i o)]) rfl ?_
            refine z_iinc hY eX8_better_38 3 rfl (ls' := [(3, z_i (o + 1)), (2, z_i n), (0, .ref (A 40)), (1, z_i e)]) rfl ?_
            refine z_goto hY eX8_better_41 ?_
            refine z_sub [2, 3, 0, 1] (ls' := [(0, .ref (A 40)), (1, z_i e), (3, z_i (o + 1)), (2, z_i n)]) rfl ?_
            exact ih4 (o + 1) n (by omega) (by omega) (by rw [z_smS (by omega), ← hn]; split <;> omega) (by omega)
          · refine z_const hY eX8_better_31 ?_
            refine z_goto hY eX8_better_32 ?_
            refine z_iadd hY eX8_better_36 ?_
            refine z_istore hY eX8_better_37 (ls' := [(2, z_i (n + 1)), (0, .ref (A 40)), (1, z_i e), (3, z_i o)]) rfl ?_
            refine z_iinc hY eX8_better_38 3 rfl (ls' := [(3, z_i (o + 1)), (2, z_i (n + 1)), (0, .ref (A 40)), (1, z_i e)]) rfl ?_
            refine z_goto hY eX8_better_41 ?_
            refine z_sub [2, 3, 0, 1] (ls' := [(0, .ref (A 40)), (1, z_i e), (3, z_i (o + 1)), (2, z_i (n + 1))]) rfl ?_
            exact ih4 (o + 1) (n + 1) (by omega) (by omega) (by rw [z_smS (by omega), ← hn]; split <;> omega) (by omega)
  exact lp4 _ 0 0 (Nat.lt_succ_self _) (by omega) (z_sm0 (by omega)).symm (by omega)
theorem m_alikeWith {G : z_G} {A : Nat → Nat} {σ : z_S} {h : z_H} (hG : z_OK G) (hA : mI A) (hB : mB σ) (hV : mV σ) {e : Int} (he : 0 ≤ e ∧ e < 30) : z_Tr G mX8_alikeWith [.ref (A 40), z_i e] (mH A σ h) 2 (z_i (al σ e)) := by
  obtain ⟨hf, hsc, hcm, hcr, hth, hgr, hlm, hld, hlo, hro, htm, hre, hpa, htp, hgp⟩ := id hV
  refine z_T_of hG pX8_alikeWith (Nat.le_of_ble_eq_true rfl) (ls0 := [(0, .ref (A 40)), (1, z_i e)]) rfl fun Y hY hg hmc hms hφ hψ => ?_
  subst hg
  refine z_const hY eX8_alikeWith_0 ?_
  refine z_istore hY eX8_alikeWith_1 (ls' := [(2, z_i 0), (0, .ref (A 40)), (1, z_i e)]) rfl ?_
  refine z_const hY eX8_alikeWith_2 ?_
  refine z_istore hY eX8_alikeWith_3 (ls' := [(3, z_i 0), (2, z_i 0), (0, .ref (A 40)), (1, z_i e)]) rfl ?_
  refine z_sub [2, 3, 0, 1] (ls' := [(0, .ref (A 40)), (1, z_i e), (3, z_i 0), (2, z_i 0)]) rfl ?_
  have lp4 : ∀ (fu : Nat) (o : Int) (n : Int), (σ 19 0 - o).toNat < fu → 0 ≤ o ∧ o ≤ σ 19 0 → n = z_sm (fun o => if σ 18 o ≠ 0 ∧ cp σ o e = 0 then (1 : Int) else 0) o → 0 ≤ n ∧ n ≤ o → z_W Y 4 [(0, .ref (A 40)), (1, z_i e), (3, z_i o), (2, z_i n)] [] (mH A σ h) 0 0 := by
    intro fu
    induction fu with
    | zero => intro o n hf; exact absurd hf (Nat.not_lt_zero _)
    | succ fu ih4 =>
      intro o n hf h0 hn hnb
      refine z_iload hY eX8_alikeWith_4 2 rfl ?_
      refine z_aload hY eX8_alikeWith_5 0 rfl ?_
      have hb1 := hB 19 0
      refine m_gf hY hA eX8_alikeWith_6 (v := z_i (σ 19 0)) rfl ?_
      refine z_icmpge hY eX8_alikeWith_9 (by omega) (fun c9 => ?_) (fun c9 => ?_)
      · refine z_iload hY eX8_alikeWith_44 3 rfl ?_
        exact z_ireturn hY eX8_alikeWith_45 rfl (by rw [hφ]; exact ⟨congrArg (fun q => some (z_i q)) (by rw [hn, show o = σ 19 0 by omega]; rfl), rfl⟩) ⟨Nat.zero_le _, Nat.zero_le _⟩
      · refine z_iload hY eX8_alikeWith_12 3 rfl ?_
        refine z_aload hY eX8_alikeWith_13 0 rfl ?_
        refine m_gf hY hA eX8_alikeWith_14 (v := .ref (A 18)) rfl ?_
        refine z_iload hY eX8_alikeWith_17 2 rfl ?_
        have hb2 := hB 18 o
        refine m_bal hY hA eX8_alikeWith_18 (j := 18) (N := 30) (x := σ 18 o) (by decide) rfl (by omega) rfl ?_
        refine z_ifeq hY eX8_alikeWith_19 (by omega) (fun c19 => ?_) (fun c19 => ?_)
        · refine z_const hY eX8_alikeWith_35 ?_
          refine z_iadd hY eX8_alikeWith_36 ?_
          refine z_top (b := n) (by omega) ?_
          refine z_istore hY eX8_alikeWith_37 (ls' := [(2, z_i n), (0, .ref (A 40)), (1, z_i e), (3, z_i o)]) rfl ?_
          refine z_iinc hY eX8_alikeWith_38 3 rfl (ls' := [(3, z_i (o + 1)), (2, z_i n), (0, .ref (A 40)), (1, z_i e)]) rfl ?_
          refine z_goto hY eX8_alikeWith_41 ?_
          refine z_sub [2, 3, 0, 1] (ls' := [(0, .ref (A 40)), (1, z_i e), (3, z_i (o + 1)), (2, z_i n)]) rfl ?_
          exact ih4 (o + 1) n (by omega) (by omega) (by rw [z_smS (by omega), ← hn]; split <;> omega) (by omega)
        · refine z_aload hY eX8_alikeWith_22 0 rfl ?_
          refine z_iload hY eX8_alikeWith_23 2 rfl ?_
          refine z_iload hY eX8_alikeWith_24 1 rfl ?_
          refine z_callVr (As := [z_i o, z_i e]) (rest := [z_i n]) (r := z_i (cp σ o e)) hY eX8_alikeWith_25 (m_compares hG hA hB hV (by omega) (by omega)) (mH_at hA (k := 40) (by decide)) (by decide) (Nat.le_of_ble_eq_true rfl) ⟨Nat.zero_le _, Nat.zero_le _⟩ ?_
          have hc3 := cp_b σ o e
          refine z_ifne hY eX8_alikeWith_28 (by omega) (fun c28 => ?_) (fun c28 => ?_)
          · refine z_const hY eX8_alikeWith_35 ?_
            refine z_iadd hY eX8_alikeWith_36 ?_
            refine z_top (b := n) (by omega) ?_
            refine z_istore hY eX8_alikeWith_37 (ls' := [(2, z_i n), (0, .ref (A 40)), (1, z_i e), (3, z_i o)]) rfl ?_
            refine z_iinc hY eX8_alikeWith_38 3 rfl (ls' := [(3, z_i (o + 1)), (2, z_i n), (0, .ref (A 40)), (1, z_i e)]) rfl ?_
            refine z_goto hY eX8_alikeWith_41 ?_
            refine z_sub [2, 3, 0, 1] (ls' := [(0, .ref (A 40)), (1, z_i e), (3, z_i (o + 1)), (2, z_i n)]) rfl ?_
            exact ih4 (o + 1) n (by omega) (by omega) (by rw [z_smS (by omega), ← hn]; split <;> omega) (by omega)
          · refine z_const hY eX8_alikeWith_31 ?_
            refine z_goto hY eX8_alikeWith_32 ?_
            refine z_iadd hY eX8_alikeWith_36 ?_
            refine z_istore hY eX8_alikeWith_37 (ls' := [(2, z_i (n + 1)), (0, .ref (A 40)), (1, z_i e), (3, z_i o)]) rfl ?_
            refine z_iinc hY eX8_alikeWith_38 3 rfl (ls' := [(3, z_i (o + 1)), (2, z_i (n + 1)), (0, .ref (A 40)), (1, z_i e)]) rfl ?_
            refine z_goto hY eX8_alikeWith_41 ?_
            refine z_sub [2, 3, 0, 1] (ls' := [(0, .ref (A 40)), (1, z_i e), (3, z_i (o + 1)), (2, z_i (n + 1))]) rfl ?_
            exact ih4 (o + 1) (n + 1) (by omega) (by omega) (by rw [z_smS (by omega), ← hn]; split <;> omega) (by omega)
  exact lp4 _ 0 0 (Nat.lt_succ_self _) (by omega) (z_sm0 (by omega)).symm (by omega)
theorem m_placeOf {G : z_G} {A : Nat → Nat} {σ : z_S} {h : z_H} (hG : z_OK G) (hA : mI A) (hB : mB σ) (hV : mV σ) {e : Int} (he : 0 ≤ e ∧ e < 30) : z_Tr G mX8_placeOf [.ref (A 40), z_i e] (mH A σ h) 3 (z_i (pl σ e)) := by
  obtain ⟨hf, hsc, hcm, hcr, hth, hgr, hlm, hld, hlo, hro, htm, hre, hpa, htp, hgp⟩ := id hV
  refine z_T_of hG pX8_placeOf (Nat.le_of_ble_eq_true rfl) (ls0 := [(0, .ref (A 40)), (1, z_i e)]) rfl fun Y hY hg hmc hms hφ hψ => ?_
  subst hg
  refine z_aload hY eX8_placeOf_0 0 rfl ?_
  refine z_iload hY eX8_placeOf_1 1 rfl ?_
  refine z_callVr (As := [z_i e]) (rest := []) (r := z_i (bt σ e)) hY eX8_placeOf_2 (m_better hG hA hB hV (by omega)) (mH_at hA (k := 40) (by decide)) (by decide) (Nat.le_of_ble_eq_true rfl) ⟨Nat.zero_le _, Nat.zero_le _⟩ ?_
  have hc1 := bt_b hV e
  refine z_const hY eX8_placeOf_5 ?_
  refine z_iadd hY eX8_placeOf_6 ?_
  refine z_istore hY eX8_placeOf_7 (ls' := [(2, z_i ((bt σ e) + 1)), (0, .ref (A 40)), (1, z_i e)]) rfl ?_
  refine z_const hY eX8_placeOf_8 ?_
  refine z_istore hY eX8_placeOf_9 (ls' := [(3, z_i 0), (2, z_i ((bt σ e) + 1)), (0, .ref (A 40)), (1, z_i e)]) rfl ?_
  refine z_sub [2, 3, 0, 1] (ls' := [(0, .ref (A 40)), (1, z_i e), (3, z_i 0), (2, z_i ((bt σ e) + 1))]) rfl ?_
  have lp10 : ∀ (fu : Nat) (o : Int) (n : Int), (e - o).toNat < fu → 0 ≤ o ∧ o ≤ e → n = bt σ e + 1 + z_sm (fun o => if σ 18 o ≠ 0 ∧ cp σ o e = 0 then (1 : Int) else 0) o → 0 ≤ n ∧ n ≤ 31 + o → z_W Y 10 [(0, .ref (A 40)), (1, z_i e), (3, z_i o), (2, z_i n)] [] (mH A σ h) 0 0 := by
    intro fu
    induction fu with
    | zero => intro o n hf; exact absurd hf (Nat.not_lt_zero _)
    | succ fu ih10 =>
      intro o n hf h0 hn hnb
      refine z_iload hY eX8_placeOf_10 2 rfl ?_
      refine z_iload hY eX8_placeOf_11 1 rfl ?_
      refine z_icmpge hY eX8_placeOf_12 (by omega) (fun c12 => ?_) (fun c12 => ?_)
      · refine z_iload hY eX8_placeOf_47 3 rfl ?_
        exact z_ireturn hY eX8_placeOf_48 rfl (by rw [hφ]; exact ⟨congrArg (fun q => some (z_i q)) (by rw [hn, show o = e by omega]; rfl), rfl⟩) ⟨Nat.zero_le _, Nat.zero_le _⟩
      · refine z_iload hY eX8_placeOf_15 3 rfl ?_
        refine z_aload hY eX8_placeOf_16 0 rfl ?_
        refine m_gf hY hA eX8_placeOf_17 (v := .ref (A 18)) rfl ?_
        refine z_iload hY eX8_placeOf_20 2 rfl ?_
        have hb2 := hB 18 o
        refine m_bal hY hA eX8_placeOf_21 (j := 18) (N := 30) (x := σ 18 o) (by decide) rfl (by omega) rfl ?_
        refine z_ifeq hY eX8_placeOf_22 (by omega) (fun c22 => ?_) (fun c22 => ?_)
        · refine z_const hY eX8_placeOf_38 ?_
          refine z_iadd hY eX8_placeOf_39 ?_
          refine z_top (b := n) (by omega) ?_
          refine z_istore hY eX8_placeOf_40 (ls' := [(2, z_i n), (0, .ref (A 40)), (1, z_i e), (3, z_i o)]) rfl ?_
          refine z_iinc hY eX8_placeOf_41 3 rfl (ls' := [(3, z_i (o + 1)), (2, z_i n), (0, .ref (A 40)), (1, z_i e)]) rfl ?_
          refine z_goto hY eX8_placeOf_44 ?_
          refine z_sub [2, 3, 0, 1] (ls' := [(0, .ref (A 40)), (1, z_i e), (3, z_i (o + 1)), (2, z_i n)]) rfl ?_
          exact ih10 (o + 1) n (by omega) (by omega) (by rw [z_smS (by omega), ← Int.add_assoc, ← hn]; split <;> omega) (by omega)
        · refine z_aload hY eX8_placeOf_25 0 rfl ?_
          refine z_iload hY eX8_placeOf_26 2 rfl ?_
          refine z_iload hY eX8_placeOf_27 1 rfl ?_
          refine z_callVr (As := [z_i o, z_i e]) (rest := [z_i n]) (r := z_i (cp σ o e)) hY eX8_placeOf_28 (m_compares hG hA hB hV (by omega) (by omega)) (mH_at hA (k := 40) (by decide)) (by decide) (Nat.le_of_ble_eq_true rfl) ⟨Nat.zero_le _, Nat.zero_le _⟩ ?_
          have hc3 := cp_b σ o e
          refine z_ifne hY eX8_placeOf_31 (by omega) (fun c31 => ?_) (fun c31 => ?_)
          · refine z_const hY eX8_placeOf_38 ?_
            refine z_iadd hY eX8_placeOf_39 ?_
            refine z_top (b := n) (by omega) ?_
            refine z_istore hY eX8_placeOf_40 (ls' := [(2, z_i n), (0, .ref (A 40)), (1, z_i e), (3, z_i o)]) rfl ?_
            refine z_iinc hY eX8_placeOf_41 3 rfl (ls' := [(3, z_i (o + 1)), (2, z_i n), (0, .ref (A 40)), (1, z_i e)]) rfl ?_
            refine z_goto hY eX8_placeOf_44 ?_
            refine z_sub [2, 3, 0, 1] (ls' := [(0, .ref (A 40)), (1, z_i e), (3, z_i (o + 1)), (2, z_i n)]) rfl ?_
            exact ih10 (o + 1) n (by omega) (by omega) (by rw [z_smS (by omega), ← Int.add_assoc, ← hn]; split <;> omega) (by omega)
          · refine z_const hY eX8_placeOf_34 ?_
            refine z_goto hY eX8_placeOf_35 ?_
            refine z_iadd hY eX8_placeOf_39 ?_
            refine z_istore hY eX8_placeOf_40 (ls' := [(2, z_i (n + 1)), (0, .ref (A 40)), (1, z_i e), (3, z_i o)]) rfl ?_
            refine z_iinc hY eX8_placeOf_41 3 rfl (ls' := [(3, z_i (o + 1)), (2, z_i (n + 1)), (0, .ref (A 40)), (1, z_i e)]) rfl ?_
            refine z_goto hY eX8_placeOf_44 ?_
            refine z_sub [2, 3, 0, 1] (ls' := [(0, .ref (A 40)), (1, z_i e), (3, z_i (o + 1)), (2, z_i (n + 1))]) rfl ?_
            exact ih10 (o + 1) (n + 1) (by omega) (by omega) (by rw [z_smS (by omega), ← Int.add_assoc, ← hn]; split <;> omega) (by omega)
  exact lp10 _ 0 ((bt σ e) + 1) (Nat.lt_succ_self _) (by omega) (by rw [z_sm0 (by omega)]; omega) (by omega)
theorem m_many {G : z_G} {A : Nat → Nat} {σ : z_S} {h : z_H} (hG : z_OK G) (hA : mI A) (hB : mB σ) (hV : mV σ) : z_Tr G mX8_many [.ref (A 40)] (mH A σ h) 0 (z_i (my σ)) := by
  obtain ⟨hf, hsc, hcm, hcr, hth, hgr, hlm, hld, hlo, hro, htm, hre, hpa, htp, hgp⟩ := id hV
  refine z_T_of hG pX8_many (Nat.le_of_ble_eq_true rfl) (ls0 := [(0, .ref (A 40))]) rfl fun Y hY hg hmc hms hφ hψ => ?_
  subst hg
  refine z_const hY eX8_many_0 ?_
  refine z_istore hY eX8_many_1 (ls' := [(1, z_i 0), (0, .ref (A 40))]) rfl ?_
  refine z_const hY eX8_many_2 ?_
  refine z_istore hY eX8_many_3 (ls' := [(2, z_i 0), (1, z_i 0), (0, .ref (A 40))]) rfl ?_
  refine z_sub [2, 0, 1] (ls' := [(0, .ref (A 40)), (2, z_i 0), (1, z_i 0)]) rfl ?_
  have lp4 : ∀ (fu : Nat) (o : Int) (n : Int), (σ 19 0 - o).toNat < fu → 0 ≤ o ∧ o ≤ σ 19 0 → n = z_sm (fun o => if σ 18 o ≠ 0 then (1 : Int) else 0) o → 0 ≤ n ∧ n ≤ o → z_W Y 4 [(0, .ref (A 40)), (2, z_i o), (1, z_i n)] [] (mH A σ h) 0 0 := by
    intro fu
    induction fu with
    | zero => intro o n hf; exact absurd hf (Nat.not_lt_zero _)
    | succ fu ih4 =>
      intro o n hf h0 hn hnb
      refine z_iload hY eX8_many_4 1 rfl ?_
      refine z_aload hY eX8_many_5 0 rfl ?_
      have hb1 := hB 19 0
      refine m_gf hY hA eX8_many_6 (v := z_i (σ 19 0)) rfl ?_
      refine z_icmpge hY eX8_many_9 (by omega) (fun c9 => ?_) (fun c9 => ?_)
      · refine z_iload hY eX8_many_35 2 rfl ?_
        exact z_ireturn hY eX8_many_36 rfl (by rw [hφ]; exact ⟨congrArg (fun q => some (z_i q)) (by rw [hn, show o = σ 19 0 by omega]; rfl), rfl⟩) ⟨Nat.zero_le _, Nat.zero_le _⟩
      · refine z_iload hY eX8_many_12 2 rfl ?_
        refine z_aload hY eX8_many_13 0 rfl ?_
        refine m_gf hY hA eX8_many_14 (v := .ref (A 18)) rfl ?_
        refine z_iload hY eX8_many_17 1 rfl ?_
        have hb2 := hB 18 o
        refine m_bal hY hA eX8_many_18 (j := 18) (N := 30) (x := σ 18 o) (by decide) rfl (by omega) rfl ?_
        refine z_ifeq hY eX8_many_19 (by omega) (fun c19 => ?_) (fun c19 => ?_)
        · refine z_const hY eX8_many_26 ?_
          refine z_iadd hY eX8_many_27 ?_
          refine z_top (b := n) (by omega) ?_
          refine z_istore hY eX8_many_28 (ls' := [(1, z_i n), (0, .ref (A 40)), (2, z_i o)]) rfl ?_
          refine z_iinc hY eX8_many_29 2 rfl (ls' := [(2, z_i (o + 1)), (1, z_i n), (0, .ref (A 40))]) rfl ?_
          refine z_goto hY eX8_many_32 ?_
          refine z_sub [2, 0, 1] (ls' := [(0, .ref (A 40)), (2, z_i (o + 1)), (1, z_i n)]) rfl ?_
          exact ih4 (o + 1) n (by omega) (by omega) (by rw [z_smS (by omega), ← hn]; split <;> omega) (by omega)
        · refine z_const hY eX8_many_22 ?_
          refine z_goto hY eX8_many_23 ?_
          refine z_iadd hY eX8_many_27 ?_
          refine z_istore hY eX8_many_28 (ls' := [(1, z_i (n + 1)), (0, .ref (A 40)), (2, z_i o)]) rfl ?_
          refine z_iinc hY eX8_many_29 2 rfl (ls' := [(2, z_i (o + 1)), (1, z_i (n + 1)), (0, .ref (A 40))]) rfl ?_
          refine z_goto hY eX8_many_32 ?_
          refine z_sub [2, 0, 1] (ls' := [(0, .ref (A 40)), (2, z_i (o + 1)), (1, z_i (n + 1))]) rfl ?_
          exact ih4 (o + 1) (n + 1) (by omega) (by omega) (by rw [z_smS (by omega), ← hn]; split <;> omega) (by omega)
  exact lp4 _ 0 0 (Nat.lt_succ_self _) (by omega) (z_sm0 (by omega)).symm (by omega)
theorem m_entrantAt {G : z_G} {A : Nat → Nat} {σ : z_S} {h : z_H} (hG : z_OK G) (hA : mI A) (hB : mB σ) (hV : mV σ) {p : Int} (hp : -2147483648 ≤ p ∧ p ≤ 2147483647) : z_Tr G mX8_entrantAt [.ref (A 40), z_i p] (mH A σ h) 4 (z_i (ea σ p)) := by
  obtain ⟨hf, hsc, hcm, hcr, hth, hgr, hlm, hld, hlo, hro, htm, hre, hpa, htp, hgp⟩ := id hV
  refine z_T_of hG pX8_entrantAt (Nat.le_of_ble_eq_true rfl) (ls0 := [(0, .ref (A 40)), (1, z_i p)]) rfl fun Y hY hg hmc hms hφ hψ => ?_
  subst hg
  refine z_const hY eX8_entrantAt_0 ?_
  refine z_istore hY eX8_entrantAt_1 (ls' := [(2, z_i 0), (0, .ref (A 40)), (1, z_i p)]) rfl ?_
  refine z_sub [1, 2, 0] (ls' := [(0, .ref (A 40)), (1, z_i p), (2, z_i 0)]) rfl ?_
  have lp2 : ∀ (fu : Nat) (o : Int), (σ 19 0 - o).toNat < fu → 0 ≤ o ∧ o ≤ σ 19 0 → z_fi (fun e => σ 18 e ≠ 0 ∧ pl σ e = p) (σ 19 0 - o).toNat o = z_ff (fun e => σ 18 e ≠ 0 ∧ pl σ e = p) (σ 19 0) → z_W Y 2 [(0, .ref (A 40)), (1, z_i p), (2, z_i o)] [] (mH A σ h) 0 0 := by
    intro fu
    induction fu with
    | zero => intro o hf; exact absurd hf (Nat.not_lt_zero _)
    | succ fu ih2 =>
      intro o hf h0 hn
      refine z_iload hY eX8_entrantAt_2 2 rfl ?_
      refine z_aload hY eX8_entrantAt_3 0 rfl ?_
      have hb1 := hB 19 0
      refine m_gf hY hA eX8_entrantAt_4 (v := z_i (σ 19 0)) rfl ?_
      refine z_icmpge hY eX8_entrantAt_7 (by omega) (fun c7 => ?_) (fun c7 => ?_)
      · refine z_const hY eX8_entrantAt_36 ?_
        exact z_ireturn hY eX8_entrantAt_37 rfl (by rw [hφ]; exact ⟨congrArg (fun q => some (z_i q)) ((z_fi_e (by omega)).symm.trans hn), rfl⟩) ⟨Nat.zero_le _, Nat.zero_le _⟩
      · refine z_aload hY eX8_entrantAt_10 0 rfl ?_
        refine m_gf hY hA eX8_entrantAt_11 (v := .ref (A 18)) rfl ?_
        refine z_iload hY eX8_entrantAt_14 2 rfl ?_
        have hb2 := hB 18 o
        refine m_bal hY hA eX8_entrantAt_15 (j := 18) (N := 30) (x := σ 18 o) (by decide) rfl (by omega) rfl ?_
        refine z_ifeq hY eX8_entrantAt_16 (by omega) (fun c16 => ?_) (fun c16 => ?_)
        · refine z_iinc hY eX8_entrantAt_30 2 rfl (ls' := [(2, z_i (o + 1)), (0, .ref (A 40)), (1, z_i p)]) rfl ?_
          refine z_goto hY eX8_entrantAt_33 ?_
          refine z_sub [1, 2, 0] (ls' := [(0, .ref (A 40)), (1, z_i p), (2, z_i (o + 1))]) rfl ?_
          exact ih2 (o + 1) (by omega) (by omega) ((z_fi_f (by omega) (by omega)).symm.trans hn)
        · refine z_aload hY eX8_entrantAt_19 0 rfl ?_
          refine z_iload hY eX8_entrantAt_20 2 rfl ?_
          refine z_callVr (As := [z_i o]) (rest := []) (r := z_i (pl σ o)) hY eX8_entrantAt_21 (m_placeOf hG hA hB hV (by omega)) (mH_at hA (k := 40) (by decide)) (by decide) (Nat.le_of_ble_eq_true rfl) ⟨Nat.zero_le _, Nat.zero_le _⟩ ?_
          have hc3 := pl_b hV (e := o) (by omega)
          refine z_iload hY eX8_entrantAt_24 1 rfl ?_
          refine z_icmpne hY eX8_entrantAt_25 (by omega) (fun c25 => ?_) (fun c25 => ?_)
          · refine z_iinc hY eX8_entrantAt_30 2 rfl (ls' := [(2, z_i (o + 1)), (0, .ref (A 40)), (1, z_i p)]) rfl ?_
            refine z_goto hY eX8_entrantAt_33 ?_
            refine z_sub [1, 2, 0] (ls' := [(0, .ref (A 40)), (1, z_i p), (2, z_i (o + 1))]) rfl ?_
            exact ih2 (o + 1) (by omega) (by omega) ((z_fi_f (by omega) (by omega)).symm.trans hn)
          · refine z_iload hY eX8_entrantAt_28 2 rfl ?_
            exact z_ireturn hY eX8_entrantAt_29 rfl (by rw [hφ]; exact ⟨congrArg (fun q => some (z_i q)) ((z_fi_t (by omega) (by omega)).symm.trans hn), rfl⟩) ⟨Nat.zero_le _, Nat.zero_le _⟩
  exact lp2 _ 0 (Nat.lt_succ_self _) (by omega) rfl
theorem m_isFirst {G : z_G} {A : Nat → Nat} {σ : z_S} {h : z_H} (hG : z_OK G) (hA : mI A) (hB : mB σ) (hV : mV σ) {e : Int} (he : 0 ≤ e ∧ e < 30) : z_Tr G mX8_isFirst [.ref (A 40), z_i e] (mH A σ h) 2 (z_i (z_bl (isF σ e))) := by
  obtain ⟨hf, hsc, hcm, hcr, hth, hgr, hlm, hld, hlo, hro, htm, hre, hpa, htp, hgp⟩ := id hV
  have hte := hth e
  refine z_T_of hG pX8_isFirst (Nat.le_of_ble_eq_true rfl) (ls0 := [(0, .ref (A 40)), (1, z_i e)]) rfl fun Y hY hg hmc hms hφ hψ => ?_
  subst hg
  refine z_const hY eX8_isFirst_0 ?_
  refine z_istore hY eX8_isFirst_1 (ls' := [(2, z_i 0), (0, .ref (A 40)), (1, z_i e)]) rfl ?_
  refine z_sub [1, 2, 0] (ls' := [(0, .ref (A 40)), (1, z_i e), (2, z_i 0)]) rfl ?_
  have lp2 : ∀ (fu : Nat) (o : Int), (e - o).toNat < fu → 0 ≤ o ∧ o ≤ e → z_fi (fun o => σ 18 o ≠ 0 ∧ cp σ o e = 0) (e - o).toNat o = z_ff (fun o => σ 18 o ≠ 0 ∧ cp σ o e = 0) (e) → z_W Y 2 [(0, .ref (A 40)), (1, z_i e), (2, z_i o)] [] (mH A σ h) 0 0 := by
    intro fu
    induction fu with
    | zero => intro o hf; exact absurd hf (Nat.not_lt_zero _)
    | succ fu ih2 =>
      intro o hf h0 hn
      refine z_iload hY eX8_isFirst_2 2 rfl ?_
      refine z_iload hY eX8_isFirst_3 1 rfl ?_
      refine z_icmpge hY eX8_isFirst_4 (by omega) (fun c4 => ?_) (fun c4 => ?_)
      · refine z_aload hY eX8_isFirst_33 0 rfl ?_
        refine m_gf hY hA eX8_isFirst_34 (v := .ref (A 18)) rfl ?_
        refine z_iload hY eX8_isFirst_37 1 rfl ?_
        have hb1 := hB 18 e
        refine m_bal hY hA eX8_isFirst_38 (j := 18) (N := 30) (x := σ 18 e) (by decide) rfl (by omega) rfl ?_
        exact z_zreturn hY eX8_isFirst_39 rfl (by omega) (by rw [hφ]; exact ⟨congrArg (fun q => some (z_i q)) (by have h1 := (z_fi_e (P := fun o => σ 18 o ≠ 0 ∧ cp σ o e = 0) (n := e) (i := o) (by omega)).symm.trans hn; unfold z_bl; split <;> omega), rfl⟩) ⟨Nat.zero_le _, Nat.zero_le _⟩
      · refine z_aload hY eX8_isFirst_7 0 rfl ?_
        refine m_gf hY hA eX8_isFirst_8 (v := .ref (A 18)) rfl ?_
        refine z_iload hY eX8_isFirst_11 2 rfl ?_
        have hb2 := hB 18 o
        refine m_bal hY hA eX8_isFirst_12 (j := 18) (N := 30) (x := σ 18 o) (by decide) rfl (by omega) rfl ?_
        refine z_ifeq hY eX8_isFirst_13 (by omega) (fun c13 => ?_) (fun c13 => ?_)
        · refine z_iinc hY eX8_isFirst_27 2 rfl (ls' := [(2, z_i (o + 1)), (0, .ref (A 40)), (1, z_i e)]) rfl ?_
          refine z_goto hY eX8_isFirst_30 ?_
          refine z_sub [1, 2, 0] (ls' := [(0, .ref (A 40)), (1, z_i e), (2, z_i (o + 1))]) rfl ?_
          exact ih2 (o + 1) (by omega) (by omega) ((z_fi_f (by omega) (by omega)).symm.trans hn)
        · refine z_aload hY eX8_isFirst_16 0 rfl ?_
          refine z_iload hY eX8_isFirst_17 2 rfl ?_
          refine z_iload hY eX8_isFirst_18 1 rfl ?_
          refine z_callVr (As := [z_i o, z_i e]) (rest := []) (r := z_i (cp σ o e)) hY eX8_isFirst_19 (m_compares hG hA hB hV (by omega) (by omega)) (mH_at hA (k := 40) (by decide)) (by decide) (Nat.le_of_ble_eq_true rfl) ⟨Nat.zero_le _, Nat.zero_le _⟩ ?_
          have hc3 := cp_b σ o e
          refine z_ifne hY eX8_isFirst_22 (by omega) (fun c22 => ?_) (fun c22 => ?_)
          · refine z_iinc hY eX8_isFirst_27 2 rfl (ls' := [(2, z_i (o + 1)), (0, .ref (A 40)), (1, z_i e)]) rfl ?_
            refine z_goto hY eX8_isFirst_30 ?_
            refine z_sub [1, 2, 0] (ls' := [(0, .ref (A 40)), (1, z_i e), (2, z_i (o + 1))]) rfl ?_
            exact ih2 (o + 1) (by omega) (by omega) ((z_fi_f (by omega) (by omega)).symm.trans hn)
          · refine z_const hY eX8_isFirst_25 ?_
            exact z_zreturn hY eX8_isFirst_26 rfl (by omega) (by rw [hφ]; exact ⟨congrArg (fun q => some (z_i q)) (by rw [z_bl_f]; intro q; have h1 := (z_fi_t (P := fun o => σ 18 o ≠ 0 ∧ cp σ o e = 0) (n := e) (i := o) (by omega) (by omega)).symm.trans hn; have := q.1; omega), rfl⟩) ⟨Nat.zero_le _, Nat.zero_le _⟩
  exact lp2 _ 0 (Nat.lt_succ_self _) (by omega) rfl
theorem m_dense {G : z_G} {A : Nat → Nat} {σ : z_S} {h : z_H} (hG : z_OK G) (hA : mI A) (hB : mB σ) (hV : mV σ) {e : Int} (he : 0 ≤ e ∧ e < 30) : z_Tr G mX8_dense [.ref (A 40), z_i e] (mH A σ h) 3 (z_i (dn σ e)) := by
  obtain ⟨hf, hsc, hcm, hcr, hth, hgr, hlm, hld, hlo, hro, htm, hre, hpa, htp, hgp⟩ := id hV
  refine z_T_of hG pX8_dense (Nat.le_of_ble_eq_true rfl) (ls0 := [(0, .ref (A 40)), (1, z_i e)]) rfl fun Y hY hg hmc hms hφ hψ => ?_
  subst hg
  refine z_const hY eX8_dense_0 ?_
  refine z_istore hY eX8_dense_1 (ls' := [(2, z_i 1), (0, .ref (A 40)), (1, z_i e)]) rfl ?_
  refine z_const hY eX8_dense_2 ?_
  refine z_istore hY eX8_dense_3 (ls' := [(3, z_i 0), (2, z_i 1), (0, .ref (A 40)), (1, z_i e)]) rfl ?_
  refine z_sub [2, 3, 0, 1] (ls' := [(0, .ref (A 40)), (1, z_i e), (3, z_i 0), (2, z_i 1)]) rfl ?_
  have lp4 : ∀ (fu : Nat) (o : Int) (n : Int), (σ 19 0 - o).toNat < fu → 0 ≤ o ∧ o ≤ σ 19 0 → n = 1 + z_sm (fun o => if isF σ o ∧ 0 < cp σ o e then (1 : Int) else 0) o → 0 ≤ n ∧ n ≤ 1 + o → z_W Y 4 [(0, .ref (A 40)), (1, z_i e), (3, z_i o), (2, z_i n)] [] (mH A σ h) 0 0 := by
    intro fu
    induction fu with
    | zero => intro o n hf; exact absurd hf (Nat.not_lt_zero _)
    | succ fu ih4 =>
      intro o n hf h0 hn hnb
      refine z_iload hY eX8_dense_4 2 rfl ?_
      refine z_aload hY eX8_dense_5 0 rfl ?_
      have hb1 := hB 19 0
      refine m_gf hY hA eX8_dense_6 (v := z_i (σ 19 0)) rfl ?_
      refine z_icmpge hY eX8_dense_9 (by omega) (fun c9 => ?_) (fun c9 => ?_)
      · refine z_iload hY eX8_dense_43 3 rfl ?_
        exact z_ireturn hY eX8_dense_44 rfl (by rw [hφ]; exact ⟨congrArg (fun q => some (z_i q)) (by rw [hn, show o = σ 19 0 by omega]; rfl), rfl⟩) ⟨Nat.zero_le _, Nat.zero_le _⟩
      · refine z_iload hY eX8_dense_12 3 rfl ?_
        refine z_aload hY eX8_dense_13 0 rfl ?_
        refine z_iload hY eX8_dense_14 2 rfl ?_
        refine z_callVr (As := [z_i o]) (rest := [z_i n]) (r := z_i (z_bl (isF σ o))) hY eX8_dense_15 (m_isFirst hG hA hB hV (by omega)) (mH_at hA (k := 40) (by decide)) (by decide) (Nat.le_of_ble_eq_true rfl) ⟨Nat.zero_le _, Nat.zero_le _⟩ ?_
        refine z_ifeqb hY eX8_dense_18 (fun c18 => ?_) (fun c18 => ?_)
        · refine z_const hY eX8_dense_34 ?_
          refine z_iadd hY eX8_dense_35 ?_
          refine z_top (b := n) (by omega) ?_
          refine z_istore hY eX8_dense_36 (ls' := [(2, z_i n), (0, .ref (A 40)), (1, z_i e), (3, z_i o)]) rfl ?_
          refine z_iinc hY eX8_dense_37 3 rfl (ls' := [(3, z_i (o + 1)), (2, z_i n), (0, .ref (A 40)), (1, z_i e)]) rfl ?_
          refine z_goto hY eX8_dense_40 ?_
          refine z_sub [2, 3, 0, 1] (ls' := [(0, .ref (A 40)), (1, z_i e), (3, z_i (o + 1)), (2, z_i n)]) rfl ?_
          exact ih4 (o + 1) n (by omega) (by omega) (by rw [z_smS (by omega), ← Int.add_assoc, ← hn]; split <;> omega) (by omega)
        · refine z_aload hY eX8_dense_21 0 rfl ?_
          refine z_iload hY eX8_dense_22 2 rfl ?_
          refine z_iload hY eX8_dense_23 1 rfl ?_
          refine z_callVr (As := [z_i o, z_i e]) (rest := [z_i n]) (r := z_i (cp σ o e)) hY eX8_dense_24 (m_compares hG hA hB hV (by omega) (by omega)) (mH_at hA (k := 40) (by decide)) (by decide) (Nat.le_of_ble_eq_true rfl) ⟨Nat.zero_le _, Nat.zero_le _⟩ ?_
          have hc2 := cp_b σ o e
          refine z_ifle hY eX8_dense_27 (by omega) (fun c27 => ?_) (fun c27 => ?_)
          · refine z_const hY eX8_dense_34 ?_
            refine z_iadd hY eX8_dense_35 ?_
            refine z_top (b := n) (by omega) ?_
            refine z_istore hY eX8_dense_36 (ls' := [(2, z_i n), (0, .ref (A 40)), (1, z_i e), (3, z_i o)]) rfl ?_
            refine z_iinc hY eX8_dense_37 3 rfl (ls' := [(3, z_i (o + 1)), (2, z_i n), (0, .ref (A 40)), (1, z_i e)]) rfl ?_
            refine z_goto hY eX8_dense_40 ?_
            refine z_sub [2, 3, 0, 1] (ls' := [(0, .ref (A 40)), (1, z_i e), (3, z_i (o + 1)), (2, z_i n)]) rfl ?_
            exact ih4 (o + 1) n (by omega) (by omega) (by rw [z_smS (by omega), ← Int.add_assoc, ← hn]; split <;> omega) (by omega)
          · refine z_const hY eX8_dense_30 ?_
            refine z_goto hY eX8_dense_31 ?_
            refine z_iadd hY eX8_dense_35 ?_
            refine z_istore hY eX8_dense_36 (ls' := [(2, z_i (n + 1)), (0, .ref (A 40)), (1, z_i e), (3, z_i o)]) rfl ?_
            refine z_iinc hY eX8_dense_37 3 rfl (ls' := [(3, z_i (o + 1)), (2, z_i (n + 1)), (0, .ref (A 40)), (1, z_i e)]) rfl ?_
            refine z_goto hY eX8_dense_40 ?_
            refine z_sub [2, 3, 0, 1] (ls' := [(0, .ref (A 40)), (1, z_i e), (3, z_i (o + 1)), (2, z_i (n + 1))]) rfl ?_
            exact ih4 (o + 1) (n + 1) (by omega) (by omega) (by rw [z_smS (by omega), ← Int.add_assoc, ← hn]; split <;> omega) (by omega)
  exact lp4 _ 0 1 (Nat.lt_succ_self _) (by omega) (by rw [z_sm0 (by omega)]; omega) (by omega)
theorem m_twiceMean {G : z_G} {A : Nat → Nat} {σ : z_S} {h : z_H} (hG : z_OK G) (hA : mI A) (hB : mB σ) (hV : mV σ) {e : Int} (he : 0 ≤ e ∧ e < 30) : z_Tr G mX8_twiceMean [.ref (A 40), z_i e] (mH A σ h) 3 (z_i (tm σ e)) := by
  obtain ⟨hf, hsc, hcm, hcr, hth, hgr, hlm, hld, hlo, hro, htm, hre, hpa, htp, hgp⟩ := id hV
  refine z_T_of hG pX8_twiceMean (Nat.le_of_ble_eq_true rfl) (ls0 := [(0, .ref (A 40)), (1, z_i e)]) rfl fun Y hY hg hmc hms hφ hψ => ?_
  subst hg
  refine z_const hY eX8_twiceMean_0 ?_
  refine z_aload hY eX8_twiceMean_1 0 rfl ?_
  refine z_iload hY eX8_twiceMean_2 1 rfl ?_
  refine z_callVr (As := [z_i e]) (rest := [z_i 2]) (r := z_i (bt σ e)) hY eX8_twiceMean_3 (m_better hG hA hB hV (by omega)) (mH_at hA (k := 40) (by decide)) (by decide) (Nat.le_of_ble_eq_true rfl) ⟨Nat.zero_le _, Nat.zero_le _⟩ ?_
  have hc1 := bt_b hV e
  refine z_imul hY eX8_twiceMean_6 ?_
  refine z_aload hY eX8_twiceMean_7 0 rfl ?_
  refine z_iload hY eX8_twiceMean_8 1 rfl ?_
  refine z_callVr (As := [z_i e]) (rest := [z_i (2 * (bt σ e))]) (r := z_i (al σ e)) hY eX8_twiceMean_9 (m_alikeWith hG hA hB hV (by omega)) (mH_at hA (k := 40) (by decide)) (by decide) (Nat.le_of_ble_eq_true rfl) ⟨Nat.zero_le _, Nat.zero_le _⟩ ?_
  have hc2 := al_b hV e
  refine z_iadd hY eX8_twiceMean_12 ?_
  refine z_const hY eX8_twiceMean_13 ?_
  refine z_iadd hY eX8_twiceMean_14 ?_
  exact z_ireturn hY eX8_twiceMean_15 rfl (by rw [hφ]; exact ⟨congrArg (fun q => some (z_i q)) (by unfold tm; omega), rfl⟩) ⟨Nat.zero_le _, Nat.zero_le _⟩
theorem m_points {G : z_G} {A : Nat → Nat} {σ : z_S} {h : z_H} (hG : z_OK G) (hA : mI A) (hB : mB σ) {e : Int} (he : 0 ≤ e ∧ e < 30) : z_Tr G mX8_points [.ref (A 40), z_i e] (mH A σ h) 0 (z_i (σ 14 (4 * e))) := by
  refine z_T_of hG pX8_points (Nat.le_of_ble_eq_true rfl) (ls0 := [(0, .ref (A 40)), (1, z_i e)]) rfl fun Y hY hg hmc hms hφ hψ => ?_
  subst hg
  refine z_aload hY eX8_points_0 0 rfl ?_
  refine m_gf hY hA eX8_points_1 (v := .ref (A 14)) rfl ?_
  refine z_const hY eX8_points_4 ?_
  refine z_iload hY eX8_points_5 1 rfl ?_
  refine z_imul hY eX8_points_6 ?_
  have hb1 := hB 14 (4 * e)
  refine m_ial hY hA eX8_points_7 (j := 14) (N := 120) (x := σ 14 (4 * e)) (by decide) rfl (by omega) rfl ?_
  exact z_ireturn hY eX8_points_8 rfl (by rw [hφ]; exact ⟨congrArg (fun q => some (z_i q)) (by first | rfl | omega | (simp only [z_bl]; split <;> omega)), rfl⟩) ⟨Nat.zero_le _, Nat.zero_le _⟩
theorem m_pointsAt {G : z_G} {A : Nat → Nat} {σ : z_S} {h : z_H} (hG : z_OK G) (hA : mI A) (hB : mB σ) (hV : mV σ) {p : Int} (hp : -2147483648 ≤ p ∧ p ≤ 2147483647) : z_Tr G mX8_pointsAt [.ref (A 40), z_i p] (mH A σ h) 1 (z_i (yPa σ p)) := by
  obtain ⟨hf, hsc, hcm, hcr, hth, hgr, hlm, hld, hlo, hro, htm, hre, hpa, htp, hgp⟩ := id hV
  refine z_T_of hG pX8_pointsAt (Nat.le_of_ble_eq_true rfl) (ls0 := [(0, .ref (A 40)), (1, z_i p)]) rfl fun Y hY hg hmc hms hφ hψ => ?_
  subst hg
  refine z_const hY eX8_pointsAt_0 ?_
  refine z_istore hY eX8_pointsAt_1 (ls' := [(2, z_i 0), (0, .ref (A 40)), (1, z_i p)]) rfl ?_
  refine z_sub [1, 2, 0] (ls' := [(0, .ref (A 40)), (1, z_i p), (2, z_i 0)]) rfl ?_
  have lp2 : ∀ (fu : Nat) (e : Int), (σ 19 0 - e).toNat < fu → 0 ≤ e ∧ e ≤ σ 19 0 → z_fi (fun e => σ 18 e ≠ 0 ∧ yLs σ e + 1 ≤ p ∧ p ≤ yLs σ e + ySa σ e) (σ 19 0 - e).toNat e = z_ff (fun e => σ 18 e ≠ 0 ∧ yLs σ e + 1 ≤ p ∧ p ≤ yLs σ e + ySa σ e) (σ 19 0) → z_W Y 2 [(0, .ref (A 40)), (1, z_i p), (2, z_i e)] [] (mH A σ h) 0 0 := by
    intro fu
    induction fu with
    | zero => intro e hf; exact absurd hf (Nat.not_lt_zero _)
    | succ fu ih2 =>
      intro e hf h0 hn
      refine z_iload hY eX8_pointsAt_2 2 rfl ?_
      refine z_aload hY eX8_pointsAt_3 0 rfl ?_
      have hb1 := hB 19 0
      refine m_gf hY hA eX8_pointsAt_4 (v := z_i (σ 19 0)) rfl ?_
      refine z_icmpge hY eX8_pointsAt_7 (by omega) (fun c7 => ?_) (fun c7 => ?_)
      · refine z_const hY eX8_pointsAt_137 ?_
        exact z_ireturn hY eX8_pointsAt_138 rfl (by rw [hφ]; exact ⟨congrArg (fun q => some (z_i q)) (by have h1 := (z_fi_e (P := fun e => σ 18 e ≠ 0 ∧ yLs σ e + 1 ≤ p ∧ p ≤ yLs σ e + ySa σ e) (n := σ 19 0) (i := e) (by omega)).symm.trans hn; unfold yPa; rw [← h1, if_pos rfl]), rfl⟩) ⟨Nat.zero_le _, Nat.zero_le _⟩
      · refine z_aload hY eX8_pointsAt_10 0 rfl ?_
        refine m_gf hY hA eX8_pointsAt_11 (v := .ref (A 18)) rfl ?_
        refine z_iload hY eX8_pointsAt_14 2 rfl ?_
        have hb2 := hB 18 e
        refine m_bal hY hA eX8_pointsAt_15 (j := 18) (N := 30) (x := σ 18 e) (by decide) rfl (by omega) rfl ?_
        refine z_ifne hY eX8_pointsAt_16 (by omega) (fun c16 => ?_) (fun c16 => ?_)
        · refine z_const hY eX8_pointsAt_22 ?_
          refine z_istore hY eX8_pointsAt_23 (ls' := [(3, z_i 0), (0, .ref (A 40)), (1, z_i p), (2, z_i e)]) rfl ?_
          refine z_const hY eX8_pointsAt_24 ?_
          refine z_istore hY eX8_pointsAt_25 (ls' := [(4, z_i 0), (3, z_i 0), (0, .ref (A 40)), (1, z_i p), (2, z_i e)]) rfl ?_
          refine z_const hY eX8_pointsAt_27 ?_
          refine z_istore hY eX8_pointsAt_28 (ls' := [(5, z_i 0), (4, z_i 0), (3, z_i 0), (0, .ref (A 40)), (1, z_i p), (2, z_i e)]) rfl ?_
          refine z_sub [3, 4, 5, 0, 2, 1] (ls' := [(0, .ref (A 40)), (1, z_i p), (2, z_i e), (5, z_i 0), (3, z_i 0), (4, z_i 0)]) rfl ?_
          have lp30 : ∀ (fu : Nat) (o : Int) (n : Int) (u : Int), (σ 19 0 - o).toNat < fu → 0 ≤ o ∧ o ≤ σ 19 0 → n = z_sm (fun o => if σ 18 o ≠ 0 ∧ σ 14 (4 * o) < σ 14 (4 * e) then (1 : Int) else 0) o → u = z_sm (fun o => if σ 18 o ≠ 0 ∧ σ 14 (4 * o) = σ 14 (4 * e) then (1 : Int) else 0) o → 0 ≤ n ∧ n ≤ o ∧ 0 ≤ u ∧ u ≤ o → z_W Y 30 [(0, .ref (A 40)), (1, z_i p), (2, z_i e), (5, z_i o), (3, z_i n), (4, z_i u)] [] (mH A σ h) 0 0 := by
            intro fu
            induction fu with
            | zero => intro o n u hf; exact absurd hf (Nat.not_lt_zero _)
            | succ fu ih30 =>
              intro o n u hf h3 hu hv hnb
              refine z_iload hY eX8_pointsAt_30 3 rfl ?_
              refine z_aload hY eX8_pointsAt_32 0 rfl ?_
              refine m_gf hY hA eX8_pointsAt_33 (v := z_i (σ 19 0)) rfl ?_
              refine z_icmpge hY eX8_pointsAt_36 (by omega) (fun c36 => ?_) (fun c36 => ?_)
              · have e1 : n = yLs σ e := by rw [hu, show o = σ 19 0 by omega]; rfl
                have e2 : u = ySa σ e := by rw [hv, show o = σ 19 0 by omega]; rfl
                refine z_iload hY eX8_pointsAt_111 1 rfl ?_
                refine z_iload hY eX8_pointsAt_112 4 rfl ?_
                refine z_const hY eX8_pointsAt_113 ?_
                refine z_iadd hY eX8_pointsAt_114 ?_
                refine z_iload hY eX8_pointsAt_115 4 rfl ?_
                refine z_iload hY eX8_pointsAt_116 5 rfl ?_
                refine z_iadd hY eX8_pointsAt_118 ?_
                refine z_callSr (As := [z_i p, z_i (n + 1), z_i (n + u)]) (rest := []) (r := z_i (z_bl ((n + 1) ≤ p ∧ p ≤ (n + u)))) hY eX8_pointsAt_119 (m_in hG (by omega)) (by decide) (Nat.le_of_ble_eq_true rfl) ⟨Nat.zero_le _, Nat.zero_le _⟩ ?_
                refine z_ifeqb hY eX8_pointsAt_122 (fun c122 => ?_) (fun c122 => ?_)
                · refine z_iinc hY eX8_pointsAt_131 2 rfl (ls' := [(2, z_i (e + 1)), (0, .ref (A 40)), (1, z_i p), (5, z_i o), (3, z_i n), (4, z_i u)]) rfl ?_
                  refine z_goto hY eX8_pointsAt_134 ?_
                  refine z_sub [1, 2, 0] (ls' := [(0, .ref (A 40)), (1, z_i p), (2, z_i (e + 1))]) rfl ?_
                  exact ih2 (e + 1) (by omega) (by omega) ((z_fi_f (by omega) (by omega)).symm.trans hn)
                · refine z_aload hY eX8_pointsAt_125 0 rfl ?_
                  refine z_iload hY eX8_pointsAt_126 2 rfl ?_
                  refine z_callVr (As := [z_i e]) (rest := []) (r := z_i (σ 14 (4 * e))) hY eX8_pointsAt_127 (m_points hG hA hB (by omega)) (mH_at hA (k := 40) (by decide)) (by decide) (Nat.le_of_ble_eq_true rfl) ⟨Nat.zero_le _, Nat.zero_le _⟩ ?_
                  have hc3 := hB 14 (4 * e)
                  exact z_ireturn hY eX8_pointsAt_130 rfl (by rw [hφ]; exact ⟨congrArg (fun q => some (z_i q)) (by have h1 := (z_fi_t (P := fun e => σ 18 e ≠ 0 ∧ yLs σ e + 1 ≤ p ∧ p ≤ yLs σ e + ySa σ e) (n := σ 19 0) (i := e) (by omega) (by omega)).symm.trans hn; unfold yPa; rw [← h1, if_neg (by omega)]), rfl⟩) ⟨Nat.zero_le _, Nat.zero_le _⟩
              · refine z_iload hY eX8_pointsAt_39 4 rfl ?_
                refine z_aload hY eX8_pointsAt_40 0 rfl ?_
                refine m_gf hY hA eX8_pointsAt_41 (v := .ref (A 18)) rfl ?_
                refine z_iload hY eX8_pointsAt_44 3 rfl ?_
                have hb4 := hB 18 o
                refine m_bal hY hA eX8_pointsAt_46 (j := 18) (N := 30) (x := σ 18 o) (by decide) rfl (by omega) rfl ?_
                refine z_ifeq hY eX8_pointsAt_47 (by omega) (fun c47 => ?_) (fun c47 => ?_)
                · refine z_const hY eX8_pointsAt_68 ?_
                  refine z_iadd hY eX8_pointsAt_69 ?_
                  refine z_top (b := n) (by omega) ?_
                  refine z_istore hY eX8_pointsAt_70 (ls' := [(3, z_i n), (0, .ref (A 40)), (1, z_i p), (2, z_i e), (5, z_i o), (4, z_i u)]) rfl ?_
                  refine z_iload hY eX8_pointsAt_71 5 rfl ?_
                  refine z_aload hY eX8_pointsAt_73 1 rfl ?_
                  refine m_gf hY hA eX8_pointsAt_74 (v := .ref (A 18)) rfl ?_
                  refine z_iload hY eX8_pointsAt_77 4 rfl ?_
                  refine m_bal hY hA eX8_pointsAt_79 (j := 18) (N := 30) (x := σ 18 o) (by decide) rfl (by omega) rfl ?_
                  refine z_ifeq hY eX8_pointsAt_80 (by omega) (fun c80 => ?_) (fun c80 => ?_)
                  · refine z_const hY eX8_pointsAt_101 ?_
                    refine z_iadd hY eX8_pointsAt_102 ?_
                    refine z_top (b := u) (by omega) ?_
                    refine z_istore hY eX8_pointsAt_103 (ls' := [(4, z_i u), (3, z_i n), (0, .ref (A 40)), (1, z_i p), (2, z_i e), (5, z_i o)]) rfl ?_
                    refine z_iinc hY eX8_pointsAt_105 5 rfl (ls' := [(5, z_i (o + 1)), (4, z_i u), (3, z_i n), (0, .ref (A 40)), (1, z_i p), (2, z_i e)]) rfl ?_
                    refine z_goto hY eX8_pointsAt_108 ?_
                    refine z_sub [3, 4, 5, 0, 2, 1] (ls' := [(0, .ref (A 40)), (1, z_i p), (2, z_i e), (5, z_i (o + 1)), (3, z_i n), (4, z_i u)]) rfl ?_
                    exact ih30 (o + 1) n u (by omega) (by omega) (by rw [z_smS (by omega), ← hu]; split <;> omega) (by rw [z_smS (by omega), ← hv]; split <;> omega) (by omega)
                  · refine z_aload hY eX8_pointsAt_83 1 rfl ?_
                    refine z_iload hY eX8_pointsAt_84 4 rfl ?_
                    refine z_callVr (As := [z_i o]) (rest := [z_i u]) (r := z_i (σ 14 (4 * o))) hY eX8_pointsAt_86 (m_points hG hA hB (by omega)) (mH_at hA (k := 40) (by decide)) (by decide) (Nat.le_of_ble_eq_true rfl) ⟨Nat.zero_le _, Nat.zero_le _⟩ ?_
                    have hc5 := hB 14 (4 * o)
                    refine z_aload hY eX8_pointsAt_89 1 rfl ?_
                    refine z_iload hY eX8_pointsAt_90 3 rfl ?_
                    refine z_callVr (As := [z_i e]) (rest := [z_i (σ 14 (4 * o)), z_i u]) (r := z_i (σ 14 (4 * e))) hY eX8_pointsAt_91 (m_points hG hA hB (by omega)) (mH_at hA (k := 40) (by decide)) (by decide) (Nat.le_of_ble_eq_true rfl) ⟨Nat.zero_le _, Nat.zero_le _⟩ ?_
                    have hc6 := hB 14 (4 * e)
                    refine z_icmpne hY eX8_pointsAt_94 (by omega) (fun c94 => ?_) (fun c94 => ?_)
                    · refine z_const hY eX8_pointsAt_101 ?_
                      refine z_iadd hY eX8_pointsAt_102 ?_
                      refine z_top (b := u) (by omega) ?_
                      refine z_istore hY eX8_pointsAt_103 (ls' := [(4, z_i u), (3, z_i n), (0, .ref (A 40)), (1, z_i p), (2, z_i e), (5, z_i o)]) rfl ?_
                      refine z_iinc hY eX8_pointsAt_105 5 rfl (ls' := [(5, z_i (o + 1)), (4, z_i u), (3, z_i n), (0, .ref (A 40)), (1, z_i p), (2, z_i e)]) rfl ?_
                      refine z_goto hY eX8_pointsAt_108 ?_
                      refine z_sub [3, 4, 5, 0, 2, 1] (ls' := [(0, .ref (A 40)), (1, z_i p), (2, z_i e), (5, z_i (o + 1)), (3, z_i n), (4, z_i u)]) rfl ?_
                      exact ih30 (o + 1) n u (by omega) (by omega) (by rw [z_smS (by omega), ← hu]; split <;> omega) (by rw [z_smS (by omega), ← hv]; split <;> omega) (by omega)
                    · refine z_const hY eX8_pointsAt_97 ?_
                      refine z_goto hY eX8_pointsAt_98 ?_
                      refine z_iadd hY eX8_pointsAt_102 ?_
                      refine z_istore hY eX8_pointsAt_103 (ls' := [(4, z_i (u + 1)), (3, z_i n), (0, .ref (A 40)), (1, z_i p), (2, z_i e), (5, z_i o)]) rfl ?_
                      refine z_iinc hY eX8_pointsAt_105 5 rfl (ls' := [(5, z_i (o + 1)), (4, z_i (u + 1)), (3, z_i n), (0, .ref (A 40)), (1, z_i p), (2, z_i e)]) rfl ?_
                      refine z_goto hY eX8_pointsAt_108 ?_
                      refine z_sub [3, 4, 5, 0, 2, 1] (ls' := [(0, .ref (A 40)), (1, z_i p), (2, z_i e), (5, z_i (o + 1)), (3, z_i n), (4, z_i (u + 1))]) rfl ?_
                      exact ih30 (o + 1) n (u + 1) (by omega) (by omega) (by rw [z_smS (by omega), ← hu]; split <;> omega) (by rw [z_smS (by omega), ← hv]; split <;> omega) (by omega)
                · refine z_aload hY eX8_pointsAt_50 0 rfl ?_
                  refine z_iload hY eX8_pointsAt_51 3 rfl ?_
                  refine z_callVr (As := [z_i o]) (rest := [z_i n]) (r := z_i (σ 14 (4 * o))) hY eX8_pointsAt_53 (m_points hG hA hB (by omega)) (mH_at hA (k := 40) (by decide)) (by decide) (Nat.le_of_ble_eq_true rfl) ⟨Nat.zero_le _, Nat.zero_le _⟩ ?_
                  have hc7 := hB 14 (4 * o)
                  refine z_aload hY eX8_pointsAt_56 0 rfl ?_
                  refine z_iload hY eX8_pointsAt_57 2 rfl ?_
                  refine z_callVr (As := [z_i e]) (rest := [z_i (σ 14 (4 * o)), z_i n]) (r := z_i (σ 14 (4 * e))) hY eX8_pointsAt_58 (m_points hG hA hB (by omega)) (mH_at hA (k := 40) (by decide)) (by decide) (Nat.le_of_ble_eq_true rfl) ⟨Nat.zero_le _, Nat.zero_le _⟩ ?_
                  have hc8 := hB 14 (4 * e)
                  refine z_icmpge hY eX8_pointsAt_61 (by omega) (fun c61 => ?_) (fun c61 => ?_)
                  · refine z_const hY eX8_pointsAt_68 ?_
                    refine z_iadd hY eX8_pointsAt_69 ?_
                    refine z_top (b := n) (by omega) ?_
                    refine z_istore hY eX8_pointsAt_70 (ls' := [(3, z_i n), (0, .ref (A 40)), (1, z_i p), (2, z_i e), (5, z_i o), (4, z_i u)]) rfl ?_
                    refine z_iload hY eX8_pointsAt_71 5 rfl ?_
                    refine z_aload hY eX8_pointsAt_73 1 rfl ?_
                    refine m_gf hY hA eX8_pointsAt_74 (v := .ref (A 18)) rfl ?_
                    refine z_iload hY eX8_pointsAt_77 4 rfl ?_
                    refine m_bal hY hA eX8_pointsAt_79 (j := 18) (N := 30) (x := σ 18 o) (by decide) rfl (by omega) rfl ?_
                    refine z_ifeq hY eX8_pointsAt_80 (by omega) (fun c80 => ?_) (fun c80 => ?_)
                    · refine z_const hY eX8_pointsAt_101 ?_
                      refine z_iadd hY eX8_pointsAt_102 ?_
                      refine z_top (b := u) (by omega) ?_
                      refine z_istore hY eX8_pointsAt_103 (ls' := [(4, z_i u), (3, z_i n), (0, .ref (A 40)), (1, z_i p), (2, z_i e), (5, z_i o)]) rfl ?_
                      refine z_iinc hY eX8_pointsAt_105 5 rfl (ls' := [(5, z_i (o + 1)), (4, z_i u), (3, z_i n), (0, .ref (A 40)), (1, z_i p), (2, z_i e)]) rfl ?_
                      refine z_goto hY eX8_pointsAt_108 ?_
                      refine z_sub [3, 4, 5, 0, 2, 1] (ls' := [(0, .ref (A 40)), (1, z_i p), (2, z_i e), (5, z_i (o + 1)), (3, z_i n), (4, z_i u)]) rfl ?_
                      exact ih30 (o + 1) n u (by omega) (by omega) (by rw [z_smS (by omega), ← hu]; split <;> omega) (by rw [z_smS (by omega), ← hv]; split <;> omega) (by omega)
                    · refine z_aload hY eX8_pointsAt_83 1 rfl ?_
                      refine z_iload hY eX8_pointsAt_84 4 rfl ?_
                      refine z_callVr (As := [z_i o]) (rest := [z_i u]) (r := z_i (σ 14 (4 * o))) hY eX8_pointsAt_86 (m_points hG hA hB (by omega)) (mH_at hA (k := 40) (by decide)) (by decide) (Nat.le_of_ble_eq_true rfl) ⟨Nat.zero_le _, Nat.zero_le _⟩ ?_
                      have hc9 := hB 14 (4 * o)
                      refine z_aload hY eX8_pointsAt_89 1 rfl ?_
                      refine z_iload hY eX8_pointsAt_90 3 rfl ?_
                      refine z_callVr (As := [z_i e]) (rest := [z_i (σ 14 (4 * o)), z_i u]) (r := z_i (σ 14 (4 * e))) hY eX8_pointsAt_91 (m_points hG hA hB (by omega)) (mH_at hA (k := 40) (by decide)) (by decide) (Nat.le_of_ble_eq_true rfl) ⟨Nat.zero_le _, Nat.zero_le _⟩ ?_
                      have hc10 := hB 14 (4 * e)
                      refine z_icmpne hY eX8_pointsAt_94 (by omega) (fun c94 => ?_) (fun c94 => ?_)
                      · refine z_const hY eX8_pointsAt_101 ?_
                        refine z_iadd hY eX8_pointsAt_102 ?_
                        refine z_top (b := u) (by omega) ?_
                        refine z_istore hY eX8_pointsAt_103 (ls' := [(4, z_i u), (3, z_i n), (0, .ref (A 40)), (1, z_i p), (2, z_i e), (5, z_i o)]) rfl ?_
                        refine z_iinc hY eX8_pointsAt_105 5 rfl (ls' := [(5, z_i (o + 1)), (4, z_i u), (3, z_i n), (0, .ref (A 40)), (1, z_i p), (2, z_i e)]) rfl ?_
                        refine z_goto hY eX8_pointsAt_108 ?_
                        refine z_sub [3, 4, 5, 0, 2, 1] (ls' := [(0, .ref (A 40)), (1, z_i p), (2, z_i e), (5, z_i (o + 1)), (3, z_i n), (4, z_i u)]) rfl ?_
                        exact ih30 (o + 1) n u (by omega) (by omega) (by rw [z_smS (by omega), ← hu]; split <;> omega) (by rw [z_smS (by omega), ← hv]; split <;> omega) (by omega)
                      · refine z_const hY eX8_pointsAt_97 ?_
                        refine z_goto hY eX8_pointsAt_98 ?_
                        refine z_iadd hY eX8_pointsAt_102 ?_
                        refine z_istore hY eX8_pointsAt_103 (ls' := [(4, z_i (u + 1)), (3, z_i n), (0, .ref (A 40)), (1, z_i p), (2, z_i e), (5, z_i o)]) rfl ?_
                        refine z_iinc hY eX8_pointsAt_105 5 rfl (ls' := [(5, z_i (o + 1)), (4, z_i (u + 1)), (3, z_i n), (0, .ref (A 40)), (1, z_i p), (2, z_i e)]) rfl ?_
                        refine z_goto hY eX8_pointsAt_108 ?_
                        refine z_sub [3, 4, 5, 0, 2, 1] (ls' := [(0, .ref (A 40)), (1, z_i p), (2, z_i e), (5, z_i (o + 1)), (3, z_i n), (4, z_i (u + 1))]) rfl ?_
                        exact ih30 (o + 1) n (u + 1) (by omega) (by omega) (by rw [z_smS (by omega), ← hu]; split <;> omega) (by rw [z_smS (by omega), ← hv]; split <;> omega) (by omega)
                  · refine z_const hY eX8_pointsAt_64 ?_
                    refine z_goto hY eX8_pointsAt_65 ?_
                    refine z_iadd hY eX8_pointsAt_69 ?_
                    refine z_istore hY eX8_pointsAt_70 (ls' := [(3, z_i (n + 1)), (0, .ref (A 40)), (1, z_i p), (2, z_i e), (5, z_i o), (4, z_i u)]) rfl ?_
                    refine z_iload hY eX8_pointsAt_71 5 rfl ?_
                    refine z_aload hY eX8_pointsAt_73 1 rfl ?_
                    refine m_gf hY hA eX8_pointsAt_74 (v := .ref (A 18)) rfl ?_
                    refine z_iload hY eX8_pointsAt_77 4 rfl ?_
                    refine m_bal hY hA eX8_pointsAt_79 (j := 18) (N := 30) (x := σ 18 o) (by decide) rfl (by omega) rfl ?_
                    refine z_ifeq hY eX8_pointsAt_80 (by omega) (fun c80 => ?_) (fun c80 => ?_)
                    · refine z_const hY eX8_pointsAt_101 ?_
                      refine z_iadd hY eX8_pointsAt_102 ?_
                      refine z_top (b := u) (by omega) ?_
                      refine z_istore hY eX8_pointsAt_103 (ls' := [(4, z_i u), (3, z_i (n + 1)), (0, .ref (A 40)), (1, z_i p), (2, z_i e), (5, z_i o)]) rfl ?_
                      refine z_iinc hY eX8_pointsAt_105 5 rfl (ls' := [(5, z_i (o + 1)), (4, z_i u), (3, z_i (n + 1)), (0, .ref (A 40)), (1, z_i p), (2, z_i e)]) rfl ?_
                      refine z_goto hY eX8_pointsAt_108 ?_
                      refine z_sub [3, 4, 5, 0, 2, 1] (ls' := [(0, .ref (A 40)), (1, z_i p), (2, z_i e), (5, z_i (o + 1)), (3, z_i (n + 1)), (4, z_i u)]) rfl ?_
                      exact ih30 (o + 1) (n + 1) u (by omega) (by omega) (by rw [z_smS (by omega), ← hu]; split <;> omega) (by rw [z_smS (by omega), ← hv]; split <;> omega) (by omega)
                    · refine z_aload hY eX8_pointsAt_83 1 rfl ?_
                      refine z_iload hY eX8_pointsAt_84 4 rfl ?_
                      refine z_callVr (As := [z_i o]) (rest := [z_i u]) (r := z_i (σ 14 (4 * o))) hY eX8_pointsAt_86 (m_points hG hA hB (by omega)) (mH_at hA (k := 40) (by decide)) (by decide) (Nat.le_of_ble_eq_true rfl) ⟨Nat.zero_le _, Nat.zero_le _⟩ ?_
                      have hc11 := hB 14 (4 * o)
                      refine z_aload hY eX8_pointsAt_89 1 rfl ?_
                      refine z_iload hY eX8_pointsAt_90 3 rfl ?_
                      refine z_callVr (As := [z_i e]) (rest := [z_i (σ 14 (4 * o)), z_i u]) (r := z_i (σ 14 (4 * e))) hY eX8_pointsAt_91 (m_points hG hA hB (by omega)) (mH_at hA (k := 40) (by decide)) (by decide) (Nat.le_of_ble_eq_true rfl) ⟨Nat.zero_le _, Nat.zero_le _⟩ ?_
                      have hc12 := hB 14 (4 * e)
                      refine z_icmpne hY eX8_pointsAt_94 (by omega) (fun c94 => ?_) (fun c94 => ?_)
                      · refine z_const hY eX8_pointsAt_101 ?_
                        refine z_iadd hY eX8_pointsAt_102 ?_
                        refine z_top (b := u) (by omega) ?_
                        refine z_istore hY eX8_pointsAt_103 (ls' := [(4, z_i u), (3, z_i (n + 1)), (0, .ref (A 40)), (1, z_i p), (2, z_i e), (5, z_i o)]) rfl ?_
                        refine z_iinc hY eX8_pointsAt_105 5 rfl (ls' := [(5, z_i (o + 1)), (4, z_i u), (3, z_i (n + 1)), (0, .ref (A 40)), (1, z_i p), (2, z_i e)]) rfl ?_
                        refine z_goto hY eX8_pointsAt_108 ?_
                        refine z_sub [3, 4, 5, 0, 2, 1] (ls' := [(0, .ref (A 40)), (1, z_i p), (2, z_i e), (5, z_i (o + 1)), (3, z_i (n + 1)), (4, z_i u)]) rfl ?_
                        exact ih30 (o + 1) (n + 1) u (by omega) (by omega) (by rw [z_smS (by omega), ← hu]; split <;> omega) (by rw [z_smS (by omega), ← hv]; split <;> omega) (by omega)
                      · refine z_const hY eX8_pointsAt_97 ?_
                        refine z_goto hY eX8_pointsAt_98 ?_
                        refine z_iadd hY eX8_pointsAt_102 ?_
                        refine z_istore hY eX8_pointsAt_103 (ls' := [(4, z_i (u + 1)), (3, z_i (n + 1)), (0, .ref (A 40)), (1, z_i p), (2, z_i e), (5, z_i o)]) rfl ?_
                        refine z_iinc hY eX8_pointsAt_105 5 rfl (ls' := [(5, z_i (o + 1)), (4, z_i (u + 1)), (3, z_i (n + 1)), (0, .ref (A 40)), (1, z_i p), (2, z_i e)]) rfl ?_
                        refine z_goto hY eX8_pointsAt_108 ?_
                        refine z_sub [3, 4, 5, 0, 2, 1] (ls' := [(0, .ref (A 40)), (1, z_i p), (2, z_i e), (5, z_i (o + 1)), (3, z_i (n + 1)), (4, z_i (u + 1))]) rfl ?_
                        exact ih30 (o + 1) (n + 1) (u + 1) (by omega) (by omega) (by rw [z_smS (by omega), ← hu]; split <;> omega) (by rw [z_smS (by omega), ← hv]; split <;> omega) (by omega)
          exact lp30 _ 0 0 0 (Nat.lt_succ_self _) (by omega) (z_sm0 (by omega)).symm (z_sm0 (by omega)).symm (by omega)
        · refine z_goto hY eX8_pointsAt_19 ?_
          refine z_iinc hY eX8_pointsAt_131 2 rfl (ls' := [(2, z_i (e + 1)), (0, .ref (A 40)), (1, z_i p)]) rfl ?_
          refine z_goto hY eX8_pointsAt_134 ?_
          refine z_sub [1, 2, 0] (ls' := [(0, .ref (A 40)), (1, z_i p), (2, z_i (e + 1))]) rfl ?_
          exact ih2 (e + 1) (by omega) (by omega) ((z_fi_f (by omega) (by omega)).symm.trans hn)
  exact lp2 _ 0 (Nat.lt_succ_self _) (by omega) rfl
theorem m_ladderPlaceOf {G : z_G} {A : Nat → Nat} {σ : z_S} {h : z_H} (hG : z_OK G) (hA : mI A) (hB : mB σ) (hV : mV σ) {e : Int} (he : -2147483648 ≤ e ∧ e ≤ 2147483647) : z_Tr G mX8_ladderPlaceOf [.ref (A 40), z_i e] (mH A σ h) 0 (z_i (lp σ e)) := by
  obtain ⟨hf, hsc, hcm, hcr, hth, hgr, hlm, hld, hlo, hro, htm, hre, hpa, htp, hgp⟩ := id hV
  refine z_T_of hG pX8_ladderPlaceOf (Nat.le_of_ble_eq_true rfl) (ls0 := [(0, .ref (A 40)), (1, z_i e)]) rfl fun Y hY hg hmc hms hφ hψ => ?_
  subst hg
  refine z_const hY eX8_ladderPlaceOf_0 ?_
  refine z_istore hY eX8_ladderPlaceOf_1 (ls' := [(2, z_i 0), (0, .ref (A 40)), (1, z_i e)]) rfl ?_
  refine z_sub [1, 2, 0] (ls' := [(0, .ref (A 40)), (1, z_i e), (2, z_i 0)]) rfl ?_
  have lp2 : ∀ (fu : Nat) (o : Int), (σ 25 0 - o).toNat < fu → 0 ≤ o ∧ o ≤ σ 25 0 → z_fi (fun k => σ 21 k = e) (σ 25 0 - o).toNat o = z_ff (fun k => σ 21 k = e) (σ 25 0) → z_W Y 2 [(0, .ref (A 40)), (1, z_i e), (2, z_i o)] [] (mH A σ h) 0 0 := by
    intro fu
    induction fu with
    | zero => intro o hf; exact absurd hf (Nat.not_lt_zero _)
    | succ fu ih2 =>
      intro o hf h0 hn
      refine z_iload hY eX8_ladderPlaceOf_2 2 rfl ?_
      refine z_aload hY eX8_ladderPlaceOf_3 0 rfl ?_
      have hb1 := hB 25 0
      refine m_gf hY hA eX8_ladderPlaceOf_4 (v := z_i (σ 25 0)) rfl ?_
      refine z_icmpge hY eX8_ladderPlaceOf_7 (by omega) (fun c7 => ?_) (fun c7 => ?_)
      · refine z_const hY eX8_ladderPlaceOf_30 ?_
        exact z_ireturn hY eX8_ladderPlaceOf_31 rfl (by rw [hφ]; exact ⟨congrArg (fun q => some (z_i q)) (by have h1 := (z_fi_e (P := fun k => σ 21 k = e) (n := σ 25 0) (i := o) (by omega)).symm.trans hn; unfold lp; rw [← h1, if_pos rfl]), rfl⟩) ⟨Nat.zero_le _, Nat.zero_le _⟩
      · refine z_aload hY eX8_ladderPlaceOf_10 0 rfl ?_
        refine m_gf hY hA eX8_ladderPlaceOf_11 (v := .ref (A 21)) rfl ?_
        refine z_iload hY eX8_ladderPlaceOf_14 2 rfl ?_
        have hb2 := hB 21 o
        refine m_ial hY hA eX8_ladderPlaceOf_15 (j := 21) (N := 30) (x := σ 21 o) (by decide) rfl (by omega) rfl ?_
        refine z_iload hY eX8_ladderPlaceOf_16 1 rfl ?_
        refine z_icmpne hY eX8_ladderPlaceOf_17 (by omega) (fun c17 => ?_) (fun c17 => ?_)
        · refine z_iinc hY eX8_ladderPlaceOf_24 2 rfl (ls' := [(2, z_i (o + 1)), (0, .ref (A 40)), (1, z_i e)]) rfl ?_
          refine z_goto hY eX8_ladderPlaceOf_27 ?_
          refine z_sub [1, 2, 0] (ls' := [(0, .ref (A 40)), (1, z_i e), (2, z_i (o + 1))]) rfl ?_
          exact ih2 (o + 1) (by omega) (by omega) ((z_fi_f (by omega) (by omega)).symm.trans hn)
        · refine z_iload hY eX8_ladderPlaceOf_20 2 rfl ?_
          refine z_const hY eX8_ladderPlaceOf_21 ?_
          refine z_iadd hY eX8_ladderPlaceOf_22 ?_
          exact z_ireturn hY eX8_ladderPlaceOf_23 rfl (by rw [hφ]; exact ⟨congrArg (fun q => some (z_i q)) (by have h1 := (z_fi_t (P := fun k => σ 21 k = e) (n := σ 25 0) (i := o) (by omega) (by omega)).symm.trans hn; unfold lp; rw [← h1, if_neg (by omega)]), rfl⟩) ⟨Nat.zero_le _, Nat.zero_le _⟩
  exact lp2 _ 0 (Nat.lt_succ_self _) (by omega) rfl
theorem m_gainOf {G : z_G} {A : Nat → Nat} {σ : z_S} {h : z_H} (hG : z_OK G) (hA : mI A) (hB : mB σ) {e : Int} (he : 0 ≤ e ∧ e < 30) : z_Tr G mX8_gainOf [.ref (A 40), z_i e] (mH A σ h) 1 (z_i (σ 14 (4 * e) - σ 17 e)) := by
  refine z_T_of hG pX8_gainOf (Nat.le_of_ble_eq_true rfl) (ls0 := [(0, .ref (A 40)), (1, z_i e)]) rfl fun Y hY hg hmc hms hφ hψ => ?_
  subst hg
  refine z_aload hY eX8_gainOf_0 0 rfl ?_
  refine z_iload hY eX8_gainOf_1 1 rfl ?_
  refine z_callVr (As := [z_i e]) (rest := []) (r := z_i (σ 14 (4 * e))) hY eX8_gainOf_2 (m_points hG hA hB (by omega)) (mH_at hA (k := 40) (by decide)) (by decide) (Nat.le_of_ble_eq_true rfl) ⟨Nat.zero_le _, Nat.zero_le _⟩ ?_
  have hc1 := hB 14 (4 * e)
  refine z_aload hY eX8_gainOf_5 0 rfl ?_
  refine m_gf hY hA eX8_gainOf_6 (v := .ref (A 17)) rfl ?_
  refine z_iload hY eX8_gainOf_9 1 rfl ?_
  have hb2 := hB 17 e
  refine m_ial hY hA eX8_gainOf_10 (j := 17) (N := 30) (x := σ 17 e) (by decide) rfl (by omega) rfl ?_
  refine z_isub hY eX8_gainOf_11 ?_
  exact z_ireturn hY eX8_gainOf_12 rfl (by rw [hφ]; exact ⟨congrArg (fun q => some (z_i q)) (by first | rfl | omega | (simp only [z_bl]; split <;> omega)), rfl⟩) ⟨Nat.zero_le _, Nat.zero_le _⟩
theorem m_isForm {G : z_G} {h : z_H} (hG : z_OK G) {k n : Int} (hr : -2147483648 ≤ k ∧ k ≤ 2147483647 ∧ -2147483648 ≤ n ∧ n ≤ 2147483647) : z_Tr G mX8_isForm [z_i k, z_i n] (h) 1 (z_i (z_bl (1 ≤ n ∧ n ≤ 10 ∧ 1 ≤ k ∧ k ≤ n))) := by
  refine z_T_of hG pX8_isForm (Nat.le_of_ble_eq_true rfl) (ls0 := [(0, z_i k), (1, z_i n)]) rfl fun Y hY hg hmc hms hφ hψ => ?_
  subst hg
  refine z_iload hY eX8_isForm_0 1 rfl ?_
  refine z_const hY eX8_isForm_1 ?_
  refine z_const hY eX8_isForm_2 ?_
  refine z_callSr (As := [z_i n, z_i 1, z_i 10]) (rest := []) (r := z_i (z_bl (1 ≤ n ∧ n ≤ 10))) hY eX8_isForm_4 (m_in hG (by omega)) (by decide) (Nat.le_of_ble_eq_true rfl) ⟨Nat.zero_le _, Nat.zero_le _⟩ ?_
  refine z_ifeqb hY eX8_isForm_7 (fun c7 => ?_) (fun c7 => ?_)
  · refine z_const hY eX8_isForm_23 ?_
    exact z_zreturn hY eX8_isForm_24 rfl (by omega) (by rw [hφ]; exact ⟨congrArg (fun q => some (z_i q)) (by first | rfl | omega | (simp only [z_bl]; split <;> omega)), rfl⟩) ⟨Nat.zero_le _, Nat.zero_le _⟩
  · refine z_iload hY eX8_isForm_10 0 rfl ?_
    refine z_const hY eX8_isForm_11 ?_
    refine z_iload hY eX8_isForm_12 1 rfl ?_
    refine z_callSr (As := [z_i k, z_i 1, z_i n]) (rest := []) (r := z_i (z_bl (1 ≤ k ∧ k ≤ n))) hY eX8_isForm_13 (m_in hG (by omega)) (by decide) (Nat.le_of_ble_eq_true rfl) ⟨Nat.zero_le _, Nat.zero_le _⟩ ?_
    refine z_ifeqb hY eX8_isForm_16 (fun c16 => ?_) (fun c16 => ?_)
    · refine z_const hY eX8_isForm_23 ?_
      exact z_zreturn hY eX8_isForm_24 rfl (by omega) (by rw [hφ]; exact ⟨congrArg (fun q => some (z_i q)) (by first | rfl | omega | (simp only [z_bl]; split <;> omega)), rfl⟩) ⟨Nat.zero_le _, Nat.zero_le _⟩
    · refine z_const hY eX8_isForm_19 ?_
      refine z_goto hY eX8_isForm_20 ?_
      exact z_zreturn hY eX8_isForm_24 rfl (by omega) (by rw [hφ]; exact ⟨congrArg (fun q => some (z_i q)) (by first | rfl | omega | (simp only [z_bl]; split <;> omega)), rfl⟩) ⟨Nat.zero_le _, Nat.zero_le _⟩
theorem m_isKept {G : z_G} {A : Nat → Nat} {σ : z_S} {h : z_H} (hG : z_OK G) (hA : mI A) (hB : mB σ) {r : Int} (hr : -2147483648 ≤ r ∧ r ≤ 2147483647) : z_Tr G mX8_isKept [.ref (A 40), z_i r] (mH A σ h) 1 (z_i (z_bl (kp σ r))) := by
  refine z_T_of hG pX8_isKept (Nat.le_of_ble_eq_true rfl) (ls0 := [(0, .ref (A 40)), (1, z_i r)]) rfl fun Y hY hg hmc hms hφ hψ => ?_
  subst hg
  refine z_iload hY eX8_isKept_0 1 rfl ?_
  refine z_const hY eX8_isKept_1 ?_
  refine z_aload hY eX8_isKept_2 0 rfl ?_
  have hb1 := hB 30 0
  refine m_gf hY hA eX8_isKept_3 (v := z_i (σ 30 0)) rfl ?_
  refine z_const hY eX8_isKept_6 ?_
  refine z_isub hY eX8_isKept_7 ?_
  refine z_callSr (As := [z_i r, z_i 0, z_i ((σ 30 0) - 1)]) (rest := []) (r := z_i (z_bl (0 ≤ r ∧ r ≤ ((σ 30 0) - 1)))) hY eX8_isKept_8 (m_in hG (by omega)) (by decide) (Nat.le_of_ble_eq_true rfl) ⟨Nat.zero_le _, Nat.zero_le _⟩ ?_
  refine z_ifeqb hY eX8_isKept_11 (fun c11 => ?_) (fun c11 => ?_)
  · refine z_const hY eX8_isKept_29 ?_
    exact z_zreturn hY eX8_isKept_30 rfl (by omega) (by rw [hφ]; exact ⟨congrArg (fun q => some (z_i q)) (by first | rfl | omega | (simp only [z_bl]; split <;> omega)), rfl⟩) ⟨Nat.zero_le _, Nat.zero_le _⟩
  · refine z_iload hY eX8_isKept_14 1 rfl ?_
    refine z_aload hY eX8_isKept_15 0 rfl ?_
    refine m_gf hY hA eX8_isKept_16 (v := z_i (σ 30 0)) rfl ?_
    refine z_const hY eX8_isKept_19 ?_
    refine z_isub hY eX8_isKept_21 ?_
    refine z_icmplt hY eX8_isKept_22 (by omega) (fun c22 => ?_) (fun c22 => ?_)
    · refine z_const hY eX8_isKept_29 ?_
      exact z_zreturn hY eX8_isKept_30 rfl (by omega) (by rw [hφ]; exact ⟨congrArg (fun q => some (z_i q)) (by first | rfl | omega | (simp only [z_bl]; split <;> omega)), rfl⟩) ⟨Nat.zero_le _, Nat.zero_le _⟩
    · refine z_const hY eX8_isKept_25 ?_
      refine z_goto hY eX8_isKept_26 ?_
      exact z_zreturn hY eX8_isKept_30 rfl (by omega) (by rw [hφ]; exact ⟨congrArg (fun q => some (z_i q)) (by first | rfl | omega | (simp only [z_bl]; split <;> omega)), rfl⟩) ⟨Nat.zero_le _, Nat.zero_le _⟩
theorem m_placeIn {G : z_G} {A : Nat → Nat} {σ : z_S} {h : z_H} (hG : z_OK G) (hA : mI A) (hB : mB σ) (hV : mV σ) {r e : Int} (hr : -1 ≤ r ∧ r ≤ 2147483647) (he : 0 ≤ e ∧ e < 30) : z_Tr G mX8_placeIn [.ref (A 40), z_i r, z_i e] (mH A σ h) 4 (z_i (yPi σ r e)) := by
  obtain ⟨hf, hsc, hcm, hcr, hth, hgr, hlm, hld, hlo, hro, htm, hre, hpa, htp, hgp⟩ := id hV
  refine z_T_of hG pX8_placeIn (Nat.le_of_ble_eq_true rfl) (ls0 := [(0, .ref (A 40)), (1, z_i r), (2, z_i e)]) rfl fun Y hY hg hmc hms hφ hψ => ?_
  subst hg
  refine z_iload hY eX8_placeIn_0 1 rfl ?_
  refine z_const hY eX8_placeIn_1 ?_
  refine z_icmpne hY eX8_placeIn_2 (by omega) (fun c2 => ?_) (fun c2 => ?_)
  · refine z_aload hY eX8_placeIn_32 0 rfl ?_
    refine m_gf hY hA eX8_placeIn_33 (v := .ref (A 29)) rfl ?_
    refine z_const hY eX8_placeIn_36 ?_
    refine z_iload hY eX8_placeIn_38 2 rfl ?_
    refine z_imul hY eX8_placeIn_39 ?_
    refine z_iload hY eX8_placeIn_40 1 rfl ?_
    refine z_const hY eX8_placeIn_41 ?_
    refine z_irem hY eX8_placeIn_43 (by omega) ?_
    refine z_iadd hY eX8_placeIn_44 ?_
    have hm : 0 ≤ r % 20 ∧ r % 20 < 20 := ⟨Int.emod_nonneg _ (by omega), Int.emod_lt_of_pos _ (by omega)⟩
    have hb1 := hB 29 (20 * e + (r % 20))
    refine m_ial hY hA eX8_placeIn_45 (j := 29) (N := 600) (x := σ 29 (20 * e + (r % 20))) (by decide) rfl (by omega) rfl ?_
    exact z_ireturn hY eX8_placeIn_46 rfl (by rw [hφ]; exact ⟨congrArg (fun q => some (z_i q)) (by unfold yPi; (repeat' split) <;> omega), rfl⟩) ⟨Nat.zero_le _, Nat.zero_le _⟩
  · refine z_iload hY eX8_placeIn_5 2 rfl ?_
    refine z_aload hY eX8_placeIn_6 0 rfl ?_
    have hb2 := hB 19 0
    refine m_gf hY hA eX8_placeIn_7 (v := z_i (σ 19 0)) rfl ?_
    refine z_icmpge hY eX8_placeIn_10 (by omega) (fun c10 => ?_) (fun c10 => ?_)
    · refine z_const hY eX8_placeIn_30 ?_
      exact z_ireturn hY eX8_placeIn_31 rfl (by rw [hφ]; exact ⟨congrArg (fun q => some (z_i q)) (by unfold yPi; (repeat' split) <;> omega), rfl⟩) ⟨Nat.zero_le _, Nat.zero_le _⟩
    · refine z_aload hY eX8_placeIn_13 0 rfl ?_
      refine m_gf hY hA eX8_placeIn_14 (v := .ref (A 18)) rfl ?_
      refine z_iload hY eX8_placeIn_17 2 rfl ?_
      have hb3 := hB 18 e
      refine m_bal hY hA eX8_placeIn_18 (j := 18) (N := 30) (x := σ 18 e) (by decide) rfl (by omega) rfl ?_
      refine z_ifeq hY eX8_placeIn_19 (by omega) (fun c19 => ?_) (fun c19 => ?_)
      · refine z_const hY eX8_placeIn_30 ?_
        exact z_ireturn hY eX8_placeIn_31 rfl (by rw [hφ]; exact ⟨congrArg (fun q => some (z_i q)) (by unfold yPi; (repeat' split) <;> omega), rfl⟩) ⟨Nat.zero_le _, Nat.zero_le _⟩
      · refine z_aload hY eX8_placeIn_22 0 rfl ?_
        refine z_iload hY eX8_placeIn_23 2 rfl ?_
        refine z_callVr (As := [z_i e]) (rest := []) (r := z_i (pl σ e)) hY eX8_placeIn_24 (m_placeOf hG hA hB hV (by omega)) (mH_at hA (k := 40) (by decide)) (by decide) (Nat.le_of_ble_eq_true rfl) ⟨Nat.zero_le _, Nat.zero_le _⟩ ?_
        have hc4 := pl_b hV (e := e) (by omega)
        refine z_goto hY eX8_placeIn_27 ?_
        exact z_ireturn hY eX8_placeIn_31 rfl (by rw [hφ]; exact ⟨congrArg (fun q => some (z_i q)) (by unfold yPi; (repeat' split) <;> omega), rfl⟩) ⟨Nat.zero_le _, Nat.zero_le _⟩
end M1
