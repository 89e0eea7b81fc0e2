/-! THE MODEL's trials, forms, rounds, tape (laid by wip/whole/gen/gm5.py). -/
section M5
theorem mB_ur {σ : z_S} (hB : mB σ) {k : Nat} {f : Int → Int} (hf : ∀ i, -1000000 ≤ f i ∧ f i ≤ 1000000) : mB (z_ur σ k f) := by
  intro k' i
  unfold z_ur
  split
  · exact hf i
  · exact hB _ _
def mEqv (ρ σ : z_S) : Prop := ρ 8 = σ 8 ∧ ρ 10 = σ 10 ∧ ρ 12 = σ 12 ∧ ρ 14 = σ 14 ∧ ρ 18 = σ 18 ∧ ρ 19 = σ 19
theorem vl_congr {ρ σ : z_S} (E : mEqv ρ σ) (e c : Int) : vl ρ e c = vl σ e c := by
  unfold vl
  rw [E.1, E.2.2.2.1]
theorem cm_congr {ρ σ : z_S} (E : mEqv ρ σ) (e o : Int) : ∀ (f : Nat) (c : Int), cm ρ e o f c = cm σ e o f c := by
  intro f
  induction f with
  | zero => intro c; rfl
  | succ f ih =>
    intro c
    unfold cm
    rw [vl_congr E, vl_congr E, ih, E.2.1]
theorem cp_congr {ρ σ : z_S} (E : mEqv ρ σ) (e o : Int) : cp ρ e o = cp σ e o := by
  unfold cp
  rw [E.2.2.1, cm_congr E]
theorem bt_congr {ρ σ : z_S} (E : mEqv ρ σ) (e : Int) : bt ρ e = bt σ e := by
  unfold bt
  rw [E.2.2.2.2.1, E.2.2.2.2.2]
  exact congrArg (fun f => z_sm f (σ 19 0)) (funext fun o => by rw [cp_congr E])
theorem al_congr {ρ σ : z_S} (E : mEqv ρ σ) (e : Int) : al ρ e = al σ e := by
  unfold al
  rw [E.2.2.2.2.1, E.2.2.2.2.2]
  exact congrArg (fun f => z_sm f (σ 19 0)) (funext fun o => by rw [cp_congr E])
theorem pl_congr {ρ σ : z_S} (E : mEqv ρ σ) (e : Int) : pl ρ e = pl σ e := by
  unfold pl
  rw [E.2.2.2.2.1, bt_congr E]
  exact congrArg (fun f => bt σ e + 1 + z_sm f e) (funext fun o => by rw [cp_congr E])
theorem my_congr {ρ σ : z_S} (E : mEqv ρ σ) : my ρ = my σ := by
  unfold my
  rw [E.2.2.2.2.1, E.2.2.2.2.2]
theorem z_fi_congr {P Q : Int → Prop} [DecidablePred P] [DecidablePred Q] (h : ∀ i, P i ↔ Q i) : ∀ (f : Nat) (i : Int), z_fi P f i = z_fi Q f i := by
  intro f
  induction f with
  | zero => intro i; rfl
  | succ f ih =>
    intro i
    show ite _ _ _ = ite _ _ _
    by_cases hp : P i
    · rw [if_pos hp, if_pos ((h i).mp hp)]
    · rw [if_neg hp, if_neg (fun q => hp ((h i).mpr q)), ih]
theorem z_ff_congr {P Q : Int → Prop} [DecidablePred P] [DecidablePred Q] {n : Int} (h : ∀ i, P i ↔ Q i) : z_ff P n = z_ff Q n := z_fi_congr h _ _
theorem ea_congr {ρ σ : z_S} (E : mEqv ρ σ) (p : Int) : ea ρ p = ea σ p := by
  unfold ea
  rw [E.2.2.2.2.2]
  exact z_ff_congr fun i => by rw [E.2.2.2.2.1, pl_congr E]
theorem lp_is {σ : z_S} {e k : Int} (h0 : 0 ≤ k ∧ k < σ 25 0) (h1 : σ 21 k = e) (h2 : ∀ i, 0 ≤ i → i < k → σ 21 i ≠ e) : lp σ e = k + 1 := by
  unfold lp
  rcases z_ff_s (fun k => σ 21 k = e) (σ 25 0) with ⟨-, h4⟩ | ⟨h3, h4, h5, h6⟩
  · exact absurd h1 (h4 k h0.1 h0.2)
  · have : z_ff (fun k => σ 21 k = e) (σ 25 0) = k := by
      rcases Int.lt_trichotomy (z_ff (fun k => σ 21 k = e) (σ 25 0)) k with h | h | h
      · exact absurd h5 (h2 _ h3 h)
      · exact h
      · exact absurd h1 (h6 k h0.1 h)
    rw [this, if_neg (by omega)]
-- falls
abbrev yFc (σ : z_S) (k : Int) : Prop := σ 30 0 - σ 27 0 + 1 < σ 22 (σ 21 k) ∨ (σ 30 0 - σ 27 0 + 1 ≤ σ 23 (σ 21 k) ∧ σ 23 (σ 21 k) ≠ -1) ∨ σ 30 0 - σ 27 0 + 1 < 0 ∨ k + 1 = σ 25 0
def yFs (σ : z_S) : Nat → Int → Int
  | 0 => σ 21
  | j + 1 => if yFc σ (σ 25 0 - 1 - j) then yFs σ j else fun i => if i = σ 25 0 - 1 - j + 1 then σ 21 (σ 25 0 - 1 - j) else if i = σ 25 0 - 1 - j then yFs σ j (σ 25 0 - 1 - j + 1) else yFs σ j i
def ylk (σ : z_S) : Int → Int := fun i => if 0 ≤ i ∧ i < σ 25 0 then σ 21 i else σ 24 i
theorem yFs_lo (σ : z_S) : ∀ (j : Nat) (i : Int), i ≤ σ 25 0 - 1 - j → yFs σ j i = σ 21 i := by
  intro j
  induction j with
  | zero => intro i _; rfl
  | succ j ih =>
    intro i hi
    unfold yFs
    split
    · exact ih i (by omega)
    · show ite _ _ _ = _
      rw [if_neg (by omega), if_neg (by omega)]
      exact ih i (by omega)
theorem yFs_b {σ : z_S} (hV : mV σ) : ∀ (j : Nat) (i : Int), 0 ≤ yFs σ j i ∧ yFs σ j i < 30 := by
  have hl := hV.2.2.2.2.2.2.2.1
  intro j
  induction j with
  | zero => intro i; exact hl i
  | succ j ih =>
    intro i
    unfold yFs
    split
    · exact ih i
    · show 0 ≤ ite _ _ _ ∧ ite _ _ _ < 30
      split
      · exact hl _
      · split
        · exact ih _
        · exact ih _
theorem yFs_s {σ : z_S} {k : Int} (h0 : 0 ≤ k ∧ k < σ 25 0) (hc : yFc σ k) : yFs σ (σ 25 0 - 1 - k).toNat = yFs σ (σ 25 0 - 1 - (k - 1)).toNat := by
  rw [show (σ 25 0 - 1 - (k - 1)).toNat = (σ 25 0 - 1 - k).toNat + 1 by omega]
  show _ = ite _ _ _
  rw [if_pos]
  rw [show σ 25 0 - 1 - (((σ 25 0 - 1 - k).toNat : Nat) : Int) = k by omega]
  exact hc
theorem yFs_w {σ : z_S} {k : Int} (h0 : 0 ≤ k ∧ k < σ 25 0) (hc : ¬ yFc σ k) : yFs σ (σ 25 0 - 1 - (k - 1)).toNat = fun i => if i = k + 1 then σ 21 k else if i = k then yFs σ (σ 25 0 - 1 - k).toNat (k + 1) else yFs σ (σ 25 0 - 1 - k).toNat i := by
  rw [show (σ 25 0 - 1 - (k - 1)).toNat = (σ 25 0 - 1 - k).toNat + 1 by omega]
  show ite _ _ _ = _
  have e : σ 25 0 - 1 - (((σ 25 0 - 1 - k).toNat : Nat) : Int) = k := by omega
  rw [e, if_neg hc]
def yFa (σ : z_S) : Int → Int := yFs σ (σ 25 0).toNat
def mD (σ : z_S) : Prop := ∀ i j, 0 ≤ i → i < σ 25 0 → 0 ≤ j → j < σ 25 0 → σ 21 i = σ 21 j → i = j
theorem mV_f {σ : z_S} (hV : mV σ) {f g : Int → Int} (hf : ∀ i, 0 ≤ f i ∧ f i < 30) (hg : ∀ i, 0 ≤ g i ∧ g i < 30) : mV (z_ur (z_ur σ 24 f) 21 g) := by
  obtain ⟨q1, q2, q3, q4, q5, q6, q7, q8, q9, q10⟩ := hV
  exact ⟨q1, q2, q3, q4, q5, q6, q7, hg, hf, q10⟩
-- forms
def yGn (σ : z_S) (e i : Int) : Int := if σ 30 0 - i - 1 < 0 then 0 else σ 28 (200 * e + σ 30 0 - i - 1)
def yPs (R : Int → Int) (x : Int) : Nat → Int
  | 0 => 0
  | a + 1 => if R a < x then yPs R x a else a + 1
def yIn (R : Int → Int) (i x : Int) : Int → Int := fun j => if yPs R x i.toNat < j ∧ j ≤ i then R (j - 1) else if j = yPs R x i.toNat then x else R j
def yRw (σ : z_S) (e : Int) (R : Int → Int) : Nat → Int → Int
  | 0 => R
  | i + 1 => yIn (yRw σ e R i) i (yGn σ e i)
theorem yPs_n {R : Int → Int} {x a : Int} (h : 0 < a) (h1 : R (a - 1) < x) : yPs R x a.toNat = yPs R x (a - 1).toNat := by
  rw [show a.toNat = (a - 1).toNat + 1 by omega]
  show ite _ _ _ = _
  rw [if_pos]
  · rw [show (((a - 1).toNat : Nat) : Int) = a - 1 by omega]; exact h1
theorem yPs_y {R : Int → Int} {x a : Int} (h : 0 < a) (h1 : x ≤ R (a - 1)) : yPs R x a.toNat = a := by
  rw [show a.toNat = (a - 1).toNat + 1 by omega]
  show ite _ _ _ = _
  rw [show (((a - 1).toNat : Nat) : Int) = a - 1 by omega, if_neg (by omega)]
  omega
theorem yPs_b (R : Int → Int) (x : Int) : ∀ a : Nat, 0 ≤ yPs R x a ∧ yPs R x a ≤ a := by
  intro a
  induction a with
  | zero => exact ⟨by show (0 : Int) ≤ 0; omega, by show (0 : Int) ≤ ((0 : Nat) : Int); omega⟩
  | succ a ih =>
    unfold yPs
    split <;> omega
theorem yRw_S {σ : z_S} {e i : Int} {R : Int → Int} (h : 0 ≤ i) : yRw σ e R (i + 1).toNat = yIn (yRw σ e R i.toNat) i (yGn σ e i) := by
  rw [show (i + 1).toNat = i.toNat + 1 by omega]
  show yIn _ _ _ = _
  rw [show ((i.toNat : Nat) : Int) = i by omega]
theorem yRw_b {σ : z_S} (hB : mB σ) {e : Int} {R : Int → Int} (hR : ∀ i, -1000000 ≤ R i ∧ R i ≤ 1000000) : ∀ (n : Nat) (i : Int), -1000000 ≤ yRw σ e R n i ∧ yRw σ e R n i ≤ 1000000 := by
  intro n
  induction n with
  | zero => exact hR
  | succ n ih =>
    intro i
    show -1000000 ≤ yIn _ _ _ _ ∧ yIn _ _ _ _ ≤ 1000000
    unfold yIn
    split
    · exact ih _
    · split
      · unfold yGn
        split
        · omega
        · exact hB _ _
      · exact ih _
theorem yPs_congr {R S : Int → Int} {x : Int} : ∀ a : Nat, (∀ j : Int, 0 ≤ j → j < a → R j = S j) → yPs R x a = yPs S x a := by
  intro a
  induction a with
  | zero => intro _; rfl
  | succ a ih =>
    intro h
    unfold yPs
    rw [h a (by omega) (by omega), ih (fun j h1 h2 => h j h1 (by omega))]
theorem yRw_congr {σ ρ : z_S} {e : Int} {R S : Int → Int} (h28 : ρ 28 = σ 28) (h30 : ρ 30 = σ 30) : ∀ (n : Nat) (j : Int), 0 ≤ j → j < n → yRw ρ e R n j = yRw σ e S n j := by
  intro n
  induction n with
  | zero => intro j h1 h2; omega
  | succ n ih =>
    intro j h1 h2
    show yIn _ _ _ _ = yIn _ _ _ _
    have hg : yGn ρ e n = yGn σ e n := by unfold yGn; rw [h28, h30]
    rw [hg]
    have hp := yPs_congr (x := yGn σ e n) n ih
    unfold yIn
    rw [Int.toNat_natCast, hp]
    have hb := yPs_b (yRw σ e S n) (yGn σ e n) n
    split
    · exact ih _ (by omega) (by omega)
    · split
      · rfl
      · exact ih _ (by omega) (by omega)
def yFo (σ : z_S) (e k n : Int) : Int := z_sm (yRw σ e (fun _ => 0) n.toNat) k
theorem yFo_eq {σ ρ : z_S} {e k n : Int} {R : Int → Int} (hk : k ≤ n) (h28 : ρ 28 = σ 28) (h30 : ρ 30 = σ 30) : z_sm (yRw ρ e R n.toNat) k = yFo σ e k n := z_sm_congr fun i h1 h2 => yRw_congr h28 h30 n.toNat i h1 (by omega)
theorem yFo_b {σ : z_S} (hB : mB σ) {e k n : Int} (hk : 0 ≤ k ∧ k ≤ 10) : -10000000 ≤ yFo σ e k n ∧ yFo σ e k n ≤ 10000000 := by
  have := z_sm_le (f := yRw σ e (fun _ => 0) n.toNat) hk.1 (fun i _ _ => yRw_b hB (e := e) (R := fun _ => 0) (fun i => by show (-1000000 : Int) ≤ 0 ∧ (0 : Int) ≤ 1000000; omega) n.toNat i)
  unfold yFo
  omega
-- the tape
def yPb (σ : z_S) (b : Int) : z_S := if b = 0 then σ else z_u (z_u σ 1 (σ 2 0) b) 2 0 (σ 2 0 + 1)
theorem yPb_2 (σ : z_S) (b : Int) : yPb σ b 2 0 = σ 2 0 + (if b = 0 then 0 else 1) := by
  unfold yPb
  split
  · omega
  · exact z_u_at
def yTk (σ : z_S) (v : Int) : z_S := yPb (yPb (yPb (yPb σ (v / 16777216 % 256)) (v / 65536 % 256)) (v / 256 % 256)) (v / 1 % 256)
theorem yTk_2 (σ : z_S) (v : Int) : yTk σ v 2 0 = σ 2 0 + yBy v := by
  unfold yTk
  rw [yPb_2, yPb_2, yPb_2, yPb_2]
  unfold yBy
  omega
def ygv (σ : z_S) (e : Int) : Int := if e < σ 19 0 ∧ σ 18 e ≠ 0 then σ 14 (4 * e) - σ 17 e else 0
def ypv (σ : z_S) (e : Int) : Int := if e < σ 19 0 ∧ σ 18 e ≠ 0 then pl σ e else -1
def yG (σ : z_S) (n : Int) : Int → Int := fun i => if i % 200 = σ 30 0 ∧ 0 ≤ i ∧ i / 200 < n then ygv σ (i / 200) else σ 28 i
def yP (σ : z_S) (n : Int) : Int → Int := fun i => if i % 20 = σ 30 0 % 20 ∧ 0 ≤ i ∧ i / 20 < n then ypv σ (i / 20) else σ 29 i
def yBg (σ : z_S) (n : Int) : Int → Int := fun i => if 0 ≤ i ∧ i < n then σ 14 (4 * i) else σ 17 i
def yEr (σ : z_S) : z_S := z_u (z_ur (z_ur (z_ur (z_ur (z_ur σ 24 (ylk σ)) 21 (yFa σ)) 28 (yG σ 30)) 29 (yP σ 30)) 17 (yBg σ (σ 19 0))) 30 0 (σ 30 0 + 1)
theorem yE_0 {τ : z_S} {f g : Int → Int} : z_ur (z_ur τ 24 f) 21 g = z_ur (z_ur (z_ur (z_ur τ 24 f) 21 g) 28 (yG τ 0)) 29 (yP τ 0) := by
  have h1 : z_ur (z_ur τ 24 f) 21 g = z_ur (z_ur (z_ur τ 24 f) 21 g) 28 (yG τ 0) := z_ur_id (fun i => if_neg (by omega))
  exact h1.trans (z_ur_id (fun i => if_neg (by omega)))
theorem yE_s {τ : z_S} {f g : Int → Int} {e : Int} (h0 : 0 ≤ e ∧ e ≤ 30) (h1 : e < 30) (hr : 0 ≤ τ 30 0 ∧ τ 30 0 < 200) : z_u (z_u (z_ur (z_ur (z_ur (z_ur τ 24 f) 21 g) 28 (yG τ e)) 29 (yP τ e)) 28 (200 * e + τ 30 0) (ygv τ e)) 29 (20 * e + τ 30 0 % 20) (ypv τ e) = z_ur (z_ur (z_ur (z_ur τ 24 f) 21 g) 28 (yG τ (e + 1))) 29 (yP τ (e + 1)) := by
  have hG : ∀ j, yG τ (e + 1) j = if j = 200 * e + τ 30 0 then ygv τ e else yG τ e j := by
    intro j
    unfold yG
    by_cases hj : j = 200 * e + τ 30 0
    · rw [if_pos hj, if_pos (by omega), show j / 200 = e by omega]
    · rw [if_neg hj]
      split <;> split <;> first | rfl | (exfalso; omega)
  have hP : ∀ j, yP τ (e + 1) j = if j = 20 * e + τ 30 0 % 20 then ypv τ e else yP τ e j := by
    intro j
    unfold yP
    by_cases hj : j = 20 * e + τ 30 0 % 20
    · rw [if_pos hj, if_pos (by omega), show j / 20 = e by omega]
    · rw [if_neg hj]
      split <;> split <;> first | rfl | (exfalso; omega)
  funext k j
  unfold z_u z_ur
  by_cases k29 : k = 29
  · subst k29
    simp [hP]
  · by_cases k28 : k = 28
    · subst k28
      simp [hG]
    · rw [if_neg k29, if_neg k28, if_neg k29, if_neg k28, if_neg k29, if_neg k28]

def S_wouldGain (σ : z_S) (e k m : Int) (c r : Int) : Prop := if pr σ e then (if 0 ≤ k ∧ k ≤ 3 then (if -100000 ≤ σ 14 (4 * e + k) + m ∧ σ 14 (4 * e + k) + m ≤ 100000 then c = 0 ∧ r = pl σ e - pl (z_u σ 14 (4 * e + k) (σ 14 (4 * e + k) + m)) e else c = 2) else c = 2) else c = 1
def S_needed (σ : z_S) (e q : Int) (c r : Int) : Prop := if pr σ e then (if 1 ≤ q ∧ q ≤ 30 then c = 0 ∧ r = z_ff (fun m => bt (z_u σ 14 (4 * e) (σ 14 (4 * e) + m)) e < q) (min 1001 (100001 - σ 14 (4 * e))) else c = 2) else c = 1
def S_form (σ : z_S) (e k n : Int) (c r : Int) (ρ : z_S) : Prop := if pr σ e then (if 1 ≤ n ∧ n ≤ 10 ∧ 1 ≤ k ∧ k ≤ n then c = 0 ∧ r = yFo σ e k n ∧ ρ = z_ur σ 31 (yRw σ e (σ 31) n.toNat) else c = 2 ∧ ρ = z_u σ 0 0 2) else c = 1 ∧ ρ = z_u σ 0 0 1
theorem mEqv_ur {σ : z_S} {f : Int → Int} : mEqv (z_ur σ 31 f) σ := ⟨rfl, rfl, rfl, rfl, rfl, rfl⟩
def yIf (σ : z_S) (k n : Int) : Int := z_fl (fun t o => if t = -1 ∨ yFo σ t k n < yFo σ (ea σ (o + 1)) k n then ea σ (o + 1) else t) (-1) (my σ)
def S_inForm (σ : z_S) (k n : Int) (c r : Int) (ρ : z_S) : Prop := if 1 ≤ n ∧ n ≤ 10 ∧ 1 ≤ k ∧ k ≤ n then (if 0 < my σ then c = 0 ∧ r = yIf σ k n ∧ ∃ R : Int → Int, ρ = z_ur σ 31 R ∧ ∀ i, -1000000 ≤ R i ∧ R i ≤ 1000000 else c = 2 ∧ ρ = z_u σ 0 0 2) else c = 1 ∧ ρ = z_u σ 0 0 1
def S_endRound (σ : z_S)  (c r : Int) (ρ : z_S) : Prop := if σ 30 0 < 200 then c = 0 ∧ r = σ 30 0 ∧ ρ = yEr σ else c = 1 ∧ ρ = z_u σ 0 0 1
end M5
