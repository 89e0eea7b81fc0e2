/-! THE MODEL's trials, forms, rounds, tape (laid by wip/whole/gen/gm5.py). -/
section M5
theorem mB_ur {σ : z_S} (hB : mB σ) {k : Nat} {f : Int → Int} (hf : ∀ i, -1000000 ≤ f i ∧ f i ≤ 1000000) : mB (z_ur σ k f) := by
  intro k' i
  unfold z_ur
  split
  · exact hf i
  · exact hB _ _
def mEqv (ρ σ : z_S) : Prop := ρ 8 = σ 8 ∧ ρ 10 = σ 10 ∧ ρ 12 = σ 12 ∧ ρ 14 = σ 14 ∧ ρ 18 = σ 18 ∧ ρ 19 = σ 19
theorem vl_congr {ρ σ : z_S} (E : mEqv ρ σ) (e c : Int) : vl ρ e c = vl σ e c := by
  unfold vl
  rw [E.1, E.2.2.2.1]
theorem cm_congr {ρ σ : z_S} (E : mEqv ρ σ) (e o : Int) : ∀ (f : Nat) (c : Int), cm ρ e o f c = cm σ e o f c := by
  intro f
  induction f with
  | zero => intro c; rfl
  | succ f ih =>
    intro c
    unfold cm
    rw [vl_congr E, vl_congr E, ih, E.2.1]
theorem cp_congr {ρ σ : z_S} (E : mEqv ρ σ) (e o : Int) : cp ρ e o = cp σ e o := by
  unfold cp
  rw [E.2.2.1, cm_congr E]
theorem bt_congr {ρ σ : z_S} (E : mEqv ρ σ) (e : Int) : bt ρ e = bt σ e := by
  unfold bt
  rw [E.2.2.2.2.1, E.2.2.2.2.2]
  exact congrArg (fun f => z_sm f (σ 19 0)) (funext fun o => by rw [cp_congr E])
theorem al_congr {ρ σ : z_S} (E : mEqv ρ σ) (e : Int) : al ρ e = al σ e := by
  unfold al
  rw [E.2.2.2.2.1, E.2.2.2.2.2]
  exact congrArg (fun f => z_sm f (σ 19 0)) (funext fun o => by rw [cp_congr E])
theorem pl_congr {ρ σ : z_S} (E : mEqv ρ σ) (e : Int) : pl ρ e = pl σ e := by
  unfold pl
  rw [E.2.2.2.2.1, bt_congr E]
  exact congrArg (fun f => bt σ e + 1 + z_sm f e) (funext fun o => by rw [cp_congr E])
theorem my_congr {ρ σ : z_S} (E : mEqv ρ σ) : my ρ = my σ := by
  unfold my
  rw [E.2.2.2.2.1, E.2.2.2.2.2]
theorem z_fi_congr {P Q : Int → Prop} [DecidablePred P] [DecidablePred Q] (h : ∀ i, P i ↔ Q i) : ∀ (f : Nat) (i : Int), z_fi P f i = z_fi Q f i := by
  intro f
  induction f with
  | zero => intro i; rfl
  | succ f ih =>
    intro i
    show ite _ _ _ = ite _ _ _
    by_cases hp : P i
    · rw [if_pos hp, if_pos ((h i).mp hp)]
    · rw [if_neg hp, if_neg (fun q => hp ((h i).mpr q)), ih]
theorem z_ff_congr {P Q : Int → Prop} [DecidablePred P] [DecidablePred Q] {n : Int} (h : ∀ i, P i ↔ Q i) : z_ff P n = z_ff Q n := z_fi_congr h _ _
theorem ea_congr {ρ σ : z_S} (E : mEqv ρ σ) (p : Int) : ea ρ p = ea σ p := by
  unfold ea
  rw [E.2.2.2.2.2]
  exact z_ff_congr fun i => by rw [E.2.2.2.2.1, pl_congr E]
theorem lp_is {σ : z_S} {e k : Int} (h0 : 0 ≤ k ∧ k < σ 25 0) (h1 : σ 21 k = e) (h2 : ∀ i, 0 ≤ i → i < k → σ 21 i ≠ e) : lp σ e = k + 1 := by
  unfold lp
  rcases z_ff_s (fun k => σ 21 k = e) (σ 25 0) with ⟨-, h4⟩ | ⟨h3, h4, h5, h6⟩
  · exact absurd h1 (h4 k h0.1 h0.2)
  · have : z_ff (fun k => σ 21 k = e) (σ 25 0) = k := by
      rcases Int.lt_trichotomy (z_ff (fun k => σ 21 k = e) (σ 25 0)) k with h | h | h
      · exact absurd h5 (h2 _ h3 h)
      · exact h
      · exact absurd h1 (h6 k h0.1 h)
    rw [this, if_neg (by omega)]
-- falls
abbrev yFc (σ : z_S) (k : Int) : Prop := σ 30 0 - σ 27 0 + 1 < σ 22 (σ 21 k) ∨ (σ 30 0 - σ 27 0 + 1 ≤ σ 23 (σ 21 k) ∧ σ 23 (σ 21 k) ≠ -1) ∨ σ 30 0 - σ 27 0 + 1 < 0 ∨ k + 1 = σ 25 0
def yFs (σ : z_S) : Nat → Int → Int
  | 0 => σ 21
  | j + 1 => if yFc σ (σ 25 0 - 1 - j) then yFs σ j else fun i => if i = σ 25 0 - 1 - j + 1 then σ 21 (σ 25 0 - 1 - j) else if i = σ 25 0 - 1 - j then yFs σ j (σ 25 0 - 1 - j + 1) else yFs σ j i
def ylk (σ : z_S) : Int → Int := fun i => if 0 ≤ i ∧ i < σ 25 0 then σ 21 i else σ 24 i
theorem yFs_lo (σ : z_S) : ∀ (j : Nat) (i : Int), i ≤ σ 25 0 - 1 - j → yFs σ j i = σ 21 i := by
  intro j
  induction j with
  | zero => intro i _; rfl
  | succ j ih =>
    intro i hi
    unfold yFs
    split
    · exact ih i (by omega)
    · show ite _ _ _ = _
      rw [if_neg (by omega), if_neg (by omega)]
      exact ih i (by omega)
theorem yFs_b {σ : z_S} (hV : mV σ) : ∀ (j : Nat) (i : Int), 0 ≤ yFs σ j i ∧ yFs σ j i < 30 := by
  have hl := hV.2.2.2.2.2.2.2.1
  intro j
  induction j with
  | zero => intro i; exact hl i
  | succ j ih =>
    intro i
    unfold yFs
    split
    · exact ih i
    · show 0 ≤ ite _ _ _ ∧ ite _ _ _ < 30
      split
      · exact hl _
      · split
        · exact ih _
        · exact ih _
theorem yFs_s {σ : z_S} {k : Int} (h0 : 0 ≤ k ∧ k < σ 25 0) (hc : yFc σ k) : yFs σ (σ 25 0 - 1 - k).toNat = yFs σ (σ 25 0 - 1 - (k - 1)).toNat := by
  rw [show (σ 25 0 - 1 - (k - 1)).toNat = (σ 25 0 - 1 - k).toNat + 1 by omega]
  show _ = ite _ _ _
  rw [if_pos]
  rw [show σ 25 0 - 1 - (((σ 25 0 - 1 - k).toNat : Nat) : Int) = k by omega]
  exact hc
theorem yFs_w {σ : z_S} {k : Int} (h0 : 0 ≤ k ∧ k < σ 25 0) (hc : ¬ yFc σ k) : yFs σ (σ 25 0 - 1 - (k - 1)).toNat = fun i => if i = k + 1 then σ 21 k else if i = k then yFs σ (σ 25 0 - 1 - k).toNat (k + 1) else yFs σ (σ 25 0 - 1 - k).toNat i := by
  rw [show (σ 25 0 - 1 - (k - 1)).toNat = (σ 25 0 - 1 - k).toNat + 1 by omega]
  show ite _ _ _ = _
  have e : σ 25 0 - 1 - (((σ 25 0 - 1 - k).toNat : Nat) : Int) = k := by omega
  rw [e, if_neg hc]
def yFa (σ : z_S) : Int → Int := yFs σ (σ 25 0).toNat
def mD (σ : z_S) : Prop := ∀ i j, 0 ≤ i → i < σ 25 0 → 0 ≤ j → j < σ 25 0 → σ 21 i = σ 21 j → i = j
theorem mV_f {σ : z_S} (hV : mV σ) {f g : Int → Int} (hf : ∀ i, 0 ≤ f i ∧ f i < 30) (hg : ∀ i, 0 ≤ g i ∧ g i < 30) : mV (z_ur (z_ur σ 24 f) 21 g) := by
  obtain ⟨q1, q2, q3, q4, q5, q6, q7, q8, q9, q10⟩ := hV
  exact ⟨q1, q2, q3, q4, q5, q6, q7, hg, hf, q10⟩
-- forms
def yGn (σ : z_S) (e i : Int) : Int := if σ 30 0 - i - 1 < 0 then 0 else σ 28 (200 * e + σ 30 0 - i - 1)
def yPs (R : Int → Int) (x : Int) : Nat → Int
  | 0 => 0
  | a + 1 => if R a < x then yPs R x a else a + 1
def yIn (R : Int → Int) (i x : Int) : Int → Int := fun j => if yPs R x i.toNat < j ∧ j ≤ i then R (j - 1) else if j = yPs R x i.toNat then x else R j
def yRw (σ : z_S) (e : Int) (R : Int → Int) : Nat → Int → Int
  | 0 => R
  | i + 1 => yIn (yRw σ e R i) i (yGn σ e i)
theorem yPs_n {R : Int → Int} {x a : Int} (h : 0 < a) (h1 : R (a - 1) < x) : yPs R x a.toNat = yPs R x (a - 1).toNat := by
  rw [show a.toNat = (a - 1).toNat + 1 by omega]
  show ite _ _ _ = _
  rw [if_pos]
  · rw [show (((a - 1).toNat : Nat) : Int) = a - 1 by omega]; exact h1
theorem yPs_y {R : Int → Int} {x a : Int} (h : 0 < a) (h1 : x ≤ R (a - 1)) : yPs R x a.toNat = a := by
  rw [show a.toNat = (a - 1).toNat + 1 by omega]
  show ite _ _ _ = _
  rw [show (((a - 1).toNat : Nat) : Int) = a - 1 by omega, if_neg (by omega)]
  omega
theorem yPs_b (R : Int → Int) (x : Int) : ∀ a : Nat, 0 ≤ yPs R x a ∧ yPs R x a ≤ a := by
  intro a
  induction a with
  | zero => exact ⟨by show (0 : Int) ≤ 0; omega, by show (0 : Int) ≤ ((0 : Nat) : Int); omega⟩
  | succ a ih =>
    unfold yPs
    split <;> omega
theorem yRw_S {σ : z_S} {e i : Int} {R : Int → Int} (h : 0 ≤ i) : yRw σ e R (i + 1).toNat = yIn (yRw σ e R i.toNat) i (yGn σ e i) := by
  rw [show (i + 1).toNat = i.toNat + 1 by omega]
  show yIn _ _ _ = _
  rw [show ((i.toNat : Nat) : Int) = i by omega]
theorem yRw_b {σ : z_S} (hB : mB σ) {e : Int} {R : Int → Int} (hR : ∀ i, -1000000 ≤ R i ∧ R i ≤ 1000000) : ∀ (n : Nat) (i : Int), -1000000 ≤ yRw σ e R n i ∧ yRw σ e R n i ≤ 1000000 := by
  intro n
  induction n with
  | zero => exact hR
  | succ n ih =>
    intro i
    show -1000000 ≤ yIn _ _ _ _ ∧ yIn _ _ _ _ ≤ 1000000
    unfold yIn
    split
    · exact ih _
    · split
      · unfold yGn
        split
        · omega
        · exact hB _ _
      · exact ih _
theorem yPs_congr {R S : Int → Int} {x : Int} : ∀ a : Nat, (∀ j : Int, 0 ≤ j → j < a → R j = S j) → yPs R x a = yPs S x a := by
  intro a
  induction a with
  | zero => intro _; rfl
  | succ a ih =>
    intro h
    unfold yPs
    rw [h a (by omega) (by omega), ih (fun j h1 h2 => h j h1 (by omega))]
theorem yRw_congr {σ ρ : z_S} {e : Int} {R S : Int → Int} (h28 : ρ 28 = σ 28) (h30 : ρ 30 = σ 30) : ∀ (n : Nat) (j : Int), 0 ≤ j → j < n → yRw ρ e R n j = yRw σ e S n j := by
  intro n
  induction n with
  | zero => intro j h1 h2; omega
  | succ n ih =>
    intro j h1 h2
    show yIn _ _ _ _ = yIn _ _ _ _
    have hg : yGn ρ e n = yGn σ e n := by unfold yGn; rw [h28, h30]
    rw [hg]
    have hp := yPs_congr (x := yGn σ e n) n ih
    unfold yIn
    rw [Int.toNat_natCast, hp]
    have hb := yPs_b (yRw σ e S n) (yGn σ e n) n
    split
    · exact ih _ (by omega) (by omega)
    · split
      · rfl
      · exact ih _ (by omega) (by omega)
def yFo (σ : z_S) (e k n : Int) : Int := z_sm (yRw σ e (fun _ => 0) n.toNat) k
theorem yFo_eq {σ ρ : z_S} {e k n : Int} {R : Int → Int} (hk : k ≤ n) (h28 : ρ 28 = σ 28) (h30 : ρ 30 = σ 30) : z_sm (yRw ρ e R n.toNat) k = yFo σ e k n := z_sm_congr fun i h1 h2 => yRw_congr h28 h30 n.toNat i h1 (by omega)
theorem yFo_b {σ : z_S} (hB : mB σ) {e k n : Int} (hk : 0 ≤ k ∧ k ≤ 10) : -10000000 ≤ yFo σ e k n ∧ yFo σ e k n ≤ 10000000 := by
  have := z_sm_le (f := yRw σ e (fun _ => 0) n.toNat) hk.1 (fun i _ _ => yRw_b hB (e := e) (R := fun _ => 0) (fun i => by show (-1000000 : Int) ≤ 0 ∧ (0 : Int) ≤ 1000000; omega) n.toNat i)
  unfold yFo
  omega
-- the tape
def yPb (σ : z_S) (b : Int) : z_S := if b = 0 then σ else z_u (z_u σ 1 (σ 2 0) b) 2 0 (σ 2 0 + 1)
theorem yPb_2 (σ : z_S) (b : Int) : yPb σ b 2 0 = σ 2 0 + (if b = 0 then 0 else 1) := by
  unfold yPb
  split
  · omega
  · exact z_u_at
def yTk (σ : z_S) (v : Int) : z_S := yPb (yPb (yPb (yPb σ (v / 16777216 % 256)) (v / 65536 % 256)) (v / 256 % 256)) (v / 1 % 256)
theorem yTk_2 (σ : z_S) (v : Int) : yTk σ v 2 0 = σ 2 0 + yBy v := by
  unfold yTk
  rw [yPb_2, yPb_2, yPb_2, yPb_2]
  unfold yBy
  omega
def ygv (σ : z_S) (e : Int) : Int := if e < σ 19 0 ∧ σ 18 e ≠ 0 then σ 14 (4 * e) - σ 17 e else 0
def ypv (σ : z_S) (e : Int) : Int := if e < σ 19 0 ∧ σ 18 e ≠ 0 then pl σ e else -1
def yG (σ : z_S) (n : Int) : Int → Int := fun i => if i % 200 = σ 30 0 ∧ 0 ≤ i ∧ i / 200 < n then ygv σ (i / 200) else σ 28 i
def yP (σ : z_S) (n : Int) : Int → Int := fun i => if i % 20 = σ 30 0 % 20 ∧ 0 ≤ i ∧ i / 20 < n then ypv σ (i / 20) else σ 29 i
def yBg (σ : z_S) (n : Int) : Int → Int := fun i => if 0 ≤ i ∧ i < n then σ 14 (4 * i) else σ 17 i
def yEr (σ : z_S) : z_S := z_u (z_ur (z_ur (z_ur (z_ur (z_ur σ 24 (ylk σ)) 21 (yFa σ)) 28 (yG σ 30)) 29 (yP σ 30)) 17 (yBg σ (σ 19 0))) 30 0 (σ 30 0 + 1)
theorem yE_0 {τ : z_S} {f g : Int → Int} : z_ur (z_ur τ 24 f) 21 g = z_ur (z_ur (z_ur (z_ur τ 24 f) 21 g) 28 (yG τ 0)) 29 (yP τ 0) := by
  have h1 : z_ur (z_ur τ 24 f) 21 g = z_ur (z_ur (z_ur τ 24 f) 21 g) 28 (yG τ 0) := z_ur_id (fun i => if_neg (by omega))
  exact h1.trans (z_ur_id (fun i => if_neg (by omega)))
theorem yE_s {τ : z_S} {f g : Int → Int} {e : Int} (h0 : 0 ≤ e ∧ e ≤ 30) (h1 : e < 30) (hr : 0 ≤ τ 30 0 ∧ τ 30 0 < 200) : z_u (z_u (z_ur (z_ur (z_ur (z_ur τ 24 f) 21 g) 28 (yG τ e)) 29 (yP τ e)) 28 (200 * e + τ 30 0) (ygv τ e)) 29 (20 * e + τ 30 0 % 20) (ypv τ e) = z_ur (z_ur (z_ur (z_ur τ 24 f) 21 g) 28 (yG τ (e + 1))) 29 (yP τ (e + 1)) := by
  have hG : ∀ j, yG τ (e + 1) j = if j = 200 * e + τ 30 0 then ygv τ e else yG τ e j := by
    intro j
    unfold yG
    by_cases hj : j = 200 * e + τ 30 0
    · rw [if_pos hj, if_pos (by omega), show j / 200 = e by omega]
    · rw [if_neg hj]
      split <;> split <;> first | rfl | (exfalso; omega)
  have hP : ∀ j, yP τ (e + 1) j = if j = 20 * e + τ 30 0 % 20 then ypv τ e else yP τ e j := by
    intro j
    unfold yP
    by_cases hj : j = 20 * e + τ 30 0 % 20
    · rw [if_pos hj, if_pos (by omega), show j / 20 = e by omega]
    · rw [if_neg hj]
      split <;> split <;> first | rfl | (exfalso; omega)
  funext k j
  unfold z_u z_ur
  by_cases k29 : k = 29
  · subst k29
    simp [hP]
  · by_cases k28 : k = 28
    · subst k28
      simp [hG]
    · rw [if_neg k29, if_neg k28, if_neg k29, if_neg k28, if_neg k29, if_neg k28]

def S_wouldGain (σ : z_S) (e k m : Int) (c r : Int) : Prop := if pr σ e then (if 0 ≤ k ∧ k ≤ 3 then (if -100000 ≤ σ 14 (4 * e + k) + m ∧ σ 14 (4 * e + k) + m ≤ 100000 then c = 0 ∧ r = pl σ e - pl (z_u σ 14 (4 * e + k) (σ 14 (4 * e + k) + m)) e else c = 2) else c = 2) else c = 1
theorem p_wouldGain {G : z_G} {A : Nat → Nat} {σ τ : z_S} {h : z_H} (hτ : z_u σ 0 0 0 = τ) (hG : z_OK G) (hA : mI A) (hB : mB τ) (hV : mV τ) {e k m : Int} (hr : -2147483648 ≤ e ∧ e ≤ 2147483647 ∧ -2147483648 ≤ k ∧ k ≤ 2147483647 ∧ -2147483648 ≤ m ∧ m ≤ 2147483647) : z_T G mX8_wouldGain [.ref (A 40), z_i e, z_i k, z_i m] (mH A σ h) 4 0 0 (fun v h' => ∃ c r : Int, v = some (z_i r) ∧ h' = mH A (z_u τ 0 0 c) h ∧ S_wouldGain τ e k m c r) (z_no) := by
  have h00 : τ 0 0 = 0 := by rw [← hτ]; rfl
  obtain ⟨hf, hsc, hcm, hcr, hth, hgr, hlm, hld, hlo, hro, htm, hre, hpa, htp, hgp⟩ := id hV
  refine z_T_of hG pX8_wouldGain (Nat.le_of_ble_eq_true rfl) (ls0 := [(0, .ref (A 40)), (1, z_i e), (2, z_i k), (3, z_i m)]) rfl fun Y hY hg hmc hms hφ hψ => ?_
  subst hg
  refine z_aload hY eX8_wouldGain_0 0 rfl ?_
  refine z_const hY eX8_wouldGain_1 ?_
  refine m_pf hY hA eX8_wouldGain_2 (by decide) ?_
  rw [hτ]
  refine z_aload hY eX8_wouldGain_5 0 rfl ?_
  refine z_iload hY eX8_wouldGain_6 1 rfl ?_
  refine z_iload hY eX8_wouldGain_7 2 rfl ?_
  by_cases g1 : pr τ e
  · by_cases g2 : 0 ≤ k ∧ k ≤ 3
    · refine z_callVr (As := [z_i e, z_i k]) (rest := []) (r := z_i 0) hY eX8_wouldGain_8 (m_noK_t hG hA hB hV h00 (by omega) g1 g2) (mH_at hA (k := 40) (by decide)) (by decide) (Nat.le_of_ble_eq_true rfl) ⟨Nat.zero_le _, Nat.zero_le _⟩ ?_
      refine z_ifne hY eX8_wouldGain_11 (by omega) (fun c => absurd c (by omega)) (fun _ => ?_)
      refine z_aload hY eX8_wouldGain_14 0 rfl ?_
      refine z_aload hY eX8_wouldGain_15 0 rfl ?_
      refine m_gf hY hA eX8_wouldGain_16 (v := .ref (A 14)) rfl ?_
      refine z_const hY eX8_wouldGain_19 ?_
      refine z_iload hY eX8_wouldGain_20 1 rfl ?_
      refine z_imul hY eX8_wouldGain_21 ?_
      refine z_iload hY eX8_wouldGain_22 2 rfl ?_
      refine z_iadd hY eX8_wouldGain_23 ?_
      have hb3 := hB 14 (4 * e + k)
      refine m_ial hY hA eX8_wouldGain_24 (j := 14) (N := 120) (x := τ 14 (4 * e + k)) (by decide) rfl (by omega) rfl ?_
      refine z_i2l hY eX8_wouldGain_25 (by omega) ?_
      refine z_iload hY eX8_wouldGain_26 3 rfl ?_
      refine z_i2l hY eX8_wouldGain_27 (by omega) ?_
      refine z_ladd hY eX8_wouldGain_28 ?_
      refine z_callSr (As := [z_l ((τ 14 (4 * e + k)) + m)]) (rest := [.ref (A 40)]) (r := z_i (z_bl (-100000 ≤ ((τ 14 (4 * e + k)) + m) ∧ ((τ 14 (4 * e + k)) + m) ≤ 100000))) hY eX8_wouldGain_29 (m_isScore hG (by omega)) (by decide) (Nat.le_of_ble_eq_true rfl) ⟨Nat.zero_le _, Nat.zero_le _⟩ ?_
      refine z_const hY eX8_wouldGain_32 ?_
      have hgb := z_bl01 (-100000 ≤ ((τ 14 (4 * e + k)) + m) ∧ ((τ 14 (4 * e + k)) + m) ≤ 100000)
      by_cases g4 : -100000 ≤ ((τ 14 (4 * e + k)) + m) ∧ ((τ 14 (4 * e + k)) + m) ≤ 100000
      · refine z_callVr (As := [z_i (z_bl (-100000 ≤ ((τ 14 (4 * e + k)) + m) ∧ ((τ 14 (4 * e + k)) + m) ≤ 100000)), z_i 2]) (rest := []) (r := z_i 0) hY eX8_wouldGain_33 (m_fails_t hG hA hB h00 (g := (z_bl (-100000 ≤ ((τ 14 (4 * e + k)) + m) ∧ ((τ 14 (4 * e + k)) + m) ≤ 100000))) (c := 2) (by rw [z_bl_t g4]; omega) (by omega)) (mH_at hA (k := 40) (by decide)) (by decide) (Nat.le_of_ble_eq_true rfl) ⟨Nat.zero_le _, Nat.zero_le _⟩ ?_
        refine z_ifeq hY eX8_wouldGain_36 (by omega) (fun _ => ?_) (fun c => absurd c (by omega))
        refine z_aload hY eX8_wouldGain_41 0 rfl ?_
        refine z_iload hY eX8_wouldGain_42 1 rfl ?_
        refine z_callVr (As := [z_i e]) (rest := []) (r := z_i (pl τ e)) hY eX8_wouldGain_43 (m_placeOf hG hA hB hV (by omega)) (mH_at hA (k := 40) (by decide)) (by decide) (Nat.le_of_ble_eq_true rfl) ⟨Nat.zero_le _, Nat.zero_le _⟩ ?_
        have hc5 := pl_b hV (e := e) (by omega)
        refine z_istore hY eX8_wouldGain_46 (ls' := [(4, z_i (pl τ e)), (0, .ref (A 40)), (1, z_i e), (2, z_i k), (3, z_i m)]) rfl ?_
        refine z_aload hY eX8_wouldGain_48 1 rfl ?_
        refine m_gf hY hA eX8_wouldGain_49 (v := .ref (A 14)) rfl ?_
        refine z_const hY eX8_wouldGain_52 ?_
        refine z_iload hY eX8_wouldGain_53 2 rfl ?_
        refine z_imul hY eX8_wouldGain_54 ?_
        refine z_iload hY eX8_wouldGain_55 3 rfl ?_
        refine z_iadd hY eX8_wouldGain_56 ?_
        refine z_dup2 hY eX8_wouldGain_57 rfl rfl ?_
        refine m_ial hY hA eX8_wouldGain_58 (j := 14) (N := 120) (x := τ 14 (4 * e + k)) (by decide) rfl (by omega) rfl ?_
        refine z_iload hY eX8_wouldGain_59 4 rfl ?_
        refine z_iadd hY eX8_wouldGain_60 ?_
        refine m_ias hY hA eX8_wouldGain_61 (j := 14) (N := 120) (by decide) (fun _ => rfl) (by omega) ?_
        have hB6 : mB (z_u τ 14 (4 * e + k) ((τ 14 (4 * e + k)) + m)) := mB_u hB (by omega)
        have hV6 : mV (z_u τ 14 (4 * e + k) ((τ 14 (4 * e + k)) + m)) := mV_14 hV (by omega)
        refine z_aload hY eX8_wouldGain_62 1 rfl ?_
        refine z_iload hY eX8_wouldGain_63 2 rfl ?_
        refine z_callVr (As := [z_i e]) (rest := []) (r := z_i (pl (z_u τ 14 (4 * e + k) ((τ 14 (4 * e + k)) + m)) e)) hY eX8_wouldGain_64 (m_placeOf hG hA hB6 hV6 (by omega)) (mH_at hA (k := 40) (by decide)) (by decide) (Nat.le_of_ble_eq_true rfl) ⟨Nat.zero_le _, Nat.zero_le _⟩ ?_
        have hc7 := pl_b hV6 (e := e) (by omega)
        refine z_istore hY eX8_wouldGain_67 (ls' := [(5, z_i (pl (z_u τ 14 (4 * e + k) ((τ 14 (4 * e + k)) + m)) e)), (4, z_i (pl τ e)), (0, .ref (A 40)), (1, z_i e), (2, z_i k), (3, z_i m)]) rfl ?_
        refine z_aload hY eX8_wouldGain_69 2 rfl ?_
        refine m_gf hY hA eX8_wouldGain_70 (v := .ref (A 14)) rfl ?_
        refine z_const hY eX8_wouldGain_73 ?_
        refine z_iload hY eX8_wouldGain_74 3 rfl ?_
        refine z_imul hY eX8_wouldGain_75 ?_
        refine z_iload hY eX8_wouldGain_76 4 rfl ?_
        refine z_iadd hY eX8_wouldGain_77 ?_
        refine z_dup2 hY eX8_wouldGain_78 rfl rfl ?_
        refine m_ial hY hA eX8_wouldGain_79 (j := 14) (N := 120) (x := (τ 14 (4 * e + k)) + m) (by decide) rfl (by omega) (by simp [z_u]) ?_
        refine z_iload hY eX8_wouldGain_80 5 rfl ?_
        refine z_isub hY eX8_wouldGain_81 ?_
        refine z_top (b := τ 14 (4 * e + k)) (by omega) ?_
        refine m_ias hY hA eX8_wouldGain_82 (j := 14) (N := 120) (by decide) (fun _ => rfl) (by omega) ?_
        refine z_iload hY eX8_wouldGain_83 1 rfl ?_
        refine z_iload hY eX8_wouldGain_85 0 rfl ?_
        refine z_isub hY eX8_wouldGain_87 ?_
        exact z_ireturn hY eX8_wouldGain_88 rfl (by rw [hφ]; exact ⟨0, _, rfl, by rw [z_u_u, z_u_same (by omega), z_u_id h00], by unfold S_wouldGain; (repeat' split) <;> omega⟩) ⟨Nat.zero_le _, Nat.zero_le _⟩
      · refine z_callV (As := [z_i (z_bl (-100000 ≤ ((τ 14 (4 * e + k)) + m) ∧ ((τ 14 (4 * e + k)) + m) ≤ 100000)), z_i 2]) (rest := []) hY eX8_wouldGain_33 (m_fails_f hG hA hB h00 (g := (z_bl (-100000 ≤ ((τ 14 (4 * e + k)) + m) ∧ ((τ 14 (4 * e + k)) + m) ≤ 100000))) (c := 2) (z_bl_f g4) (by omega)) (mH_at hA (k := 40) (by decide)) (by decide) (Nat.le_of_ble_eq_true rfl) ⟨Nat.zero_le _, Nat.zero_le _⟩ (fun _ _ q => q.elim) (fun v8 h8 q8 => ?_)
        obtain ⟨rfl, rfl⟩ := q8
        refine z_ifeq hY eX8_wouldGain_36 (by omega) (fun c => absurd c (by omega)) (fun _ => ?_)
        refine z_const hY eX8_wouldGain_39 ?_
        exact z_ireturn hY eX8_wouldGain_40 rfl (by rw [hφ]; exact ⟨2, _, rfl, rfl, by unfold S_wouldGain; (repeat' split) <;> omega⟩) ⟨Nat.zero_le _, Nat.zero_le _⟩
    · refine z_callV (As := [z_i e, z_i k]) (rest := []) hY eX8_wouldGain_8 (m_noK_2 hG hA hB hV h00 (by omega) g1 g2) (mH_at hA (k := 40) (by decide)) (by decide) (Nat.le_of_ble_eq_true rfl) ⟨Nat.zero_le _, Nat.zero_le _⟩ (fun _ _ q => q.elim) (fun v9 h9 q9 => ?_)
      obtain ⟨rfl, rfl⟩ := q9
      refine z_ifne hY eX8_wouldGain_11 (by omega) (fun _ => ?_) (fun c => absurd c (by omega))
      refine z_const hY eX8_wouldGain_39 ?_
      exact z_ireturn hY eX8_wouldGain_40 rfl (by rw [hφ]; exact ⟨2, _, rfl, rfl, by unfold S_wouldGain; (repeat' split) <;> omega⟩) ⟨Nat.zero_le _, Nat.zero_le _⟩
  · refine z_callV (As := [z_i e, z_i k]) (rest := []) hY eX8_wouldGain_8 (m_noK_1 hG hA hB hV h00 (by omega) g1) (mH_at hA (k := 40) (by decide)) (by decide) (Nat.le_of_ble_eq_true rfl) ⟨Nat.zero_le _, Nat.zero_le _⟩ (fun _ _ q => q.elim) (fun v10 h10 q10 => ?_)
    obtain ⟨rfl, rfl⟩ := q10
    refine z_ifne hY eX8_wouldGain_11 (by omega) (fun _ => ?_) (fun c => absurd c (by omega))
    refine z_const hY eX8_wouldGain_39 ?_
    exact z_ireturn hY eX8_wouldGain_40 rfl (by rw [hφ]; exact ⟨1, _, rfl, rfl, by unfold S_wouldGain; (repeat' split) <;> omega⟩) ⟨Nat.zero_le _, Nat.zero_le _⟩
def S_needed (σ : z_S) (e q : Int) (c r : Int) : Prop := if pr σ e then (if 1 ≤ q ∧ q ≤ 30 then c = 0 ∧ r = z_ff (fun m => bt (z_u σ 14 (4 * e) (σ 14 (4 * e) + m)) e < q) (min 1001 (100001 - σ 14 (4 * e))) else c = 2) else c = 1
theorem p_needed {G : z_G} {A : Nat → Nat} {σ τ : z_S} {h : z_H} (hτ : z_u σ 0 0 0 = τ) (hG : z_OK G) (hA : mI A) (hB : mB τ) (hV : mV τ) {e q : Int} (hr : -2147483648 ≤ e ∧ e ≤ 2147483647 ∧ -2147483648 ≤ q ∧ q ≤ 2147483647) : z_T G mX8_needed [.ref (A 40), z_i e, z_i q] (mH A σ h) 4 0 0 (fun v h' => ∃ c r : Int, v = some (z_i r) ∧ h' = mH A (z_u τ 0 0 c) h ∧ S_needed τ e q c r) (z_no) := by
  have h00 : τ 0 0 = 0 := by rw [← hτ]; rfl
  obtain ⟨hf, hsc, hcm, hcr, hth, hgr, hlm, hld, hlo, hro, htm, hre, hpa, htp, hgp⟩ := id hV
  have hse := hsc (4 * e)
  refine z_T_of hG pX8_needed (Nat.le_of_ble_eq_true rfl) (ls0 := [(0, .ref (A 40)), (1, z_i e), (2, z_i q)]) rfl fun Y hY hg hmc hms hφ hψ => ?_
  subst hg
  refine z_aload hY eX8_needed_0 0 rfl ?_
  refine z_const hY eX8_needed_1 ?_
  refine m_pf hY hA eX8_needed_2 (by decide) ?_
  rw [hτ]
  refine z_aload hY eX8_needed_5 0 rfl ?_
  refine z_iload hY eX8_needed_6 1 rfl ?_
  by_cases g1 : pr τ e
  · refine z_callVr (As := [z_i e]) (rest := []) (r := z_i 0) hY eX8_needed_7 (m_noE_t hG hA hB hV h00 (by omega) g1) (mH_at hA (k := 40) (by decide)) (by decide) (Nat.le_of_ble_eq_true rfl) ⟨Nat.zero_le _, Nat.zero_le _⟩ ?_
    refine z_ifne hY eX8_needed_10 (by omega) (fun c => absurd c (by omega)) (fun _ => ?_)
    refine z_aload hY eX8_needed_13 0 rfl ?_
    refine z_iload hY eX8_needed_14 2 rfl ?_
    refine z_const hY eX8_needed_15 ?_
    refine z_const hY eX8_needed_16 ?_
    refine z_callSr (As := [z_i q, z_i 1, z_i 30]) (rest := [.ref (A 40)]) (r := z_i (z_bl (1 ≤ q ∧ q ≤ 30))) hY eX8_needed_18 (m_in hG (by omega)) (by decide) (Nat.le_of_ble_eq_true rfl) ⟨Nat.zero_le _, Nat.zero_le _⟩ ?_
    refine z_const hY eX8_needed_21 ?_
    have hgb := z_bl01 (1 ≤ q ∧ q ≤ 30)
    by_cases g2 : 1 ≤ q ∧ q ≤ 30
    · refine z_callVr (As := [z_i (z_bl (1 ≤ q ∧ q ≤ 30)), z_i 2]) (rest := []) (r := z_i 0) hY eX8_needed_22 (m_fails_t hG hA hB h00 (g := (z_bl (1 ≤ q ∧ q ≤ 30))) (c := 2) (by rw [z_bl_t g2]; omega) (by omega)) (mH_at hA (k := 40) (by decide)) (by decide) (Nat.le_of_ble_eq_true rfl) ⟨Nat.zero_le _, Nat.zero_le _⟩ ?_
      refine z_ifeq hY eX8_needed_25 (by omega) (fun _ => ?_) (fun c => absurd c (by omega))
      refine z_aload hY eX8_needed_30 0 rfl ?_
      refine m_gf hY hA eX8_needed_31 (v := .ref (A 14)) rfl ?_
      refine z_const hY eX8_needed_34 ?_
      refine z_iload hY eX8_needed_35 1 rfl ?_
      refine z_imul hY eX8_needed_36 ?_
      have hb3 := hB 14 (4 * e)
      refine m_ial hY hA eX8_needed_37 (j := 14) (N := 120) (x := τ 14 (4 * e)) (by decide) rfl (by omega) rfl ?_
      refine z_istore hY eX8_needed_38 (ls' := [(3, z_i (τ 14 (4 * e))), (0, .ref (A 40)), (1, z_i e), (2, z_i q)]) rfl ?_
      refine z_const hY eX8_needed_39 ?_
      refine z_istore hY eX8_needed_40 (ls' := [(4, z_i (-1)), (3, z_i (τ 14 (4 * e))), (0, .ref (A 40)), (1, z_i e), (2, z_i q)]) rfl ?_
      refine z_const hY eX8_needed_42 ?_
      refine z_istore hY eX8_needed_43 (ls' := [(5, z_i 0), (4, z_i (-1)), (3, z_i (τ 14 (4 * e))), (0, .ref (A 40)), (1, z_i e), (2, z_i q)]) rfl ?_
      refine z_sub [3, 4, 5, 2, 0, 1] (ls' := [(0, .ref (A 40)), (1, z_i e), (2, z_i q), (3, z_i (τ 14 (4 * e))), (5, z_i 0), (4, z_i (-1))]) rfl ?_
      have lp45 : ∀ (fu : Nat) (m : Int) (t : Int) (w : Int), (1001 - m).toNat < fu → (0 ≤ m ∧ m ≤ 1001 ∧ -1 ≤ t ∧ t ≤ 1001) → ((t = -1 → z_fi (fun m => bt (z_u τ 14 (4 * e) (τ 14 (4 * e) + m)) e < q) (min 1001 (100001 - τ 14 (4 * e)) - m).toNat m = z_ff (fun m => bt (z_u τ 14 (4 * e) (τ 14 (4 * e) + m)) e < q) (min 1001 (100001 - τ 14 (4 * e))))) → ((t ≠ -1 → t = z_ff (fun m => bt (z_u τ 14 (4 * e) (τ 14 (4 * e) + m)) e < q) (min 1001 (100001 - τ 14 (4 * e))))) → z_W Y 45 [(0, .ref (A 40)), (1, z_i e), (2, z_i q), (3, z_i (τ 14 (4 * e))), (5, z_i m), (4, z_i t)] [] (mH A (z_u τ 14 (4 * e) w) h) 0 0 := by
        intro fu
        induction fu with
        | zero => intro m t w hf; exact absurd hf (Nat.not_lt_zero _)
        | succ fu ih45 =>
          intro m t w hf h0 hn hn2
          refine z_iload hY eX8_needed_45 4 rfl ?_
          refine z_const hY eX8_needed_47 ?_
          refine z_icmpgt hY eX8_needed_50 (by omega) (fun c50 => ?_) (fun c50 => ?_)
          · refine z_aload hY eX8_needed_99 0 rfl ?_
            refine m_gf hY hA eX8_needed_100 (v := .ref (A 14)) rfl ?_
            refine z_const hY eX8_needed_103 ?_
            refine z_iload hY eX8_needed_104 1 rfl ?_
            refine z_imul hY eX8_needed_105 ?_
            refine z_iload hY eX8_needed_106 3 rfl ?_
            refine m_ias hY hA eX8_needed_107 (j := 14) (N := 120) (by decide) (fun _ => rfl) (by omega) ?_
            refine z_iload hY eX8_needed_108 5 rfl ?_
            exact z_ireturn hY eX8_needed_110 rfl (by rw [hφ]; exact ⟨0, _, rfl, by rw [z_u_u, z_u_same rfl, z_u_id h00], by unfold S_needed; rw [if_pos (by omega), if_pos (by omega)]; refine ⟨rfl, ?_⟩; by_cases ht : t = -1 <;> first | exact hn2 ht | exact ht.trans ((z_fi_e (by omega)).symm.trans (hn ht))⟩) ⟨Nat.zero_le _, Nat.zero_le _⟩
          · refine z_iload hY eX8_needed_53 3 rfl ?_
            refine z_iload hY eX8_needed_54 4 rfl ?_
            refine z_iadd hY eX8_needed_56 ?_
            refine z_const hY eX8_needed_57 ?_
            refine z_icmpgt hY eX8_needed_59 (by omega) (fun c59 => ?_) (fun c59 => ?_)
            · refine z_aload hY eX8_needed_99 0 rfl ?_
              refine m_gf hY hA eX8_needed_100 (v := .ref (A 14)) rfl ?_
              refine z_const hY eX8_needed_103 ?_
              refine z_iload hY eX8_needed_104 1 rfl ?_
              refine z_imul hY eX8_needed_105 ?_
              refine z_iload hY eX8_needed_106 3 rfl ?_
              refine m_ias hY hA eX8_needed_107 (j := 14) (N := 120) (by decide) (fun _ => rfl) (by omega) ?_
              refine z_iload hY eX8_needed_108 5 rfl ?_
              exact z_ireturn hY eX8_needed_110 rfl (by rw [hφ]; exact ⟨0, _, rfl, by rw [z_u_u, z_u_same rfl, z_u_id h00], by unfold S_needed; rw [if_pos (by omega), if_pos (by omega)]; refine ⟨rfl, ?_⟩; by_cases ht : t = -1 <;> first | exact hn2 ht | exact ht.trans ((z_fi_e (by omega)).symm.trans (hn ht))⟩) ⟨Nat.zero_le _, Nat.zero_le _⟩
            · refine z_iload hY eX8_needed_62 5 rfl ?_
              refine z_const hY eX8_needed_64 ?_
              refine z_icmpne hY eX8_needed_65 (by omega) (fun c65 => ?_) (fun c65 => ?_)
              · refine z_aload hY eX8_needed_99 0 rfl ?_
                refine m_gf hY hA eX8_needed_100 (v := .ref (A 14)) rfl ?_
                refine z_const hY eX8_needed_103 ?_
                refine z_iload hY eX8_needed_104 1 rfl ?_
                refine z_imul hY eX8_needed_105 ?_
                refine z_iload hY eX8_needed_106 3 rfl ?_
                refine m_ias hY hA eX8_needed_107 (j := 14) (N := 120) (by decide) (fun _ => rfl) (by omega) ?_
                refine z_iload hY eX8_needed_108 5 rfl ?_
                exact z_ireturn hY eX8_needed_110 rfl (by rw [hφ]; exact ⟨0, _, rfl, by rw [z_u_u, z_u_same rfl, z_u_id h00], by unfold S_needed; rw [if_pos (by omega), if_pos (by omega)]; refine ⟨rfl, ?_⟩; by_cases ht : t = -1 <;> first | exact hn2 ht | exact ht.trans ((z_fi_e (by omega)).symm.trans (hn ht))⟩) ⟨Nat.zero_le _, Nat.zero_le _⟩
              · refine z_aload hY eX8_needed_68 0 rfl ?_
                refine m_gf hY hA eX8_needed_69 (v := .ref (A 14)) rfl ?_
                refine z_const hY eX8_needed_72 ?_
                refine z_iload hY eX8_needed_73 1 rfl ?_
                refine z_imul hY eX8_needed_74 ?_
                refine z_iload hY eX8_needed_75 3 rfl ?_
                refine z_iload hY eX8_needed_76 4 rfl ?_
                refine z_iadd hY eX8_needed_78 ?_
                refine m_ias hY hA eX8_needed_79 (j := 14) (N := 120) (by decide) (fun _ => rfl) (by omega) ?_
                refine z_heq (congrArg (fun q => mH A q h) z_u_u) ?_
                have hB4 : mB (z_u τ 14 (4 * e) ((τ 14 (4 * e)) + m)) := mB_u hB (by omega)
                have hV4 : mV (z_u τ 14 (4 * e) ((τ 14 (4 * e)) + m)) := mV_14 hV (by omega)
                refine z_aload hY eX8_needed_80 0 rfl ?_
                refine z_iload hY eX8_needed_81 1 rfl ?_
                refine z_callVr (As := [z_i e]) (rest := []) (r := z_i (bt (z_u τ 14 (4 * e) ((τ 14 (4 * e)) + m)) e)) hY eX8_needed_82 (m_better hG hA hB4 hV4 (by omega)) (mH_at hA (k := 40) (by decide)) (by decide) (Nat.le_of_ble_eq_true rfl) ⟨Nat.zero_le _, Nat.zero_le _⟩ ?_
                have hc5 := bt_b hV4 e
                refine z_iload hY eX8_needed_85 2 rfl ?_
                refine z_icmpge hY eX8_needed_86 (by omega) (fun c86 => ?_) (fun c86 => ?_)
                · refine z_iinc hY eX8_needed_93 4 rfl (ls' := [(5, z_i (m + 1)), (0, .ref (A 40)), (1, z_i e), (2, z_i q), (3, z_i (τ 14 (4 * e))), (4, z_i t)]) rfl ?_
                  refine z_goto hY eX8_needed_96 ?_
                  refine z_sub [1, 2, 3, 4, 0, 5] (ls' := [(0, .ref (A 40)), (1, z_i e), (2, z_i q), (3, z_i (τ 14 (4 * e))), (5, z_i (m + 1)), (4, z_i t)]) rfl ?_
                  exact ih45 (m + 1) t ((τ 14 (4 * e)) + m) (by omega) (by omega) (fun q => by first | (exfalso; omega) | exact (z_fi_f (by omega) (by omega)).symm.trans (hn (by omega))) (fun q => by first | exact hn2 q | exact (z_fi_t (by omega) (by omega)).symm.trans (hn (by omega)))
                · refine z_iload hY eX8_needed_89 4 rfl ?_
                  refine z_istore hY eX8_needed_91 (ls' := [(4, z_i m), (0, .ref (A 40)), (1, z_i e), (2, z_i q), (3, z_i (τ 14 (4 * e))), (5, z_i m)]) rfl ?_
                  refine z_iinc hY eX8_needed_93 5 rfl (ls' := [(5, z_i (m + 1)), (4, z_i m), (0, .ref (A 40)), (1, z_i e), (2, z_i q), (3, z_i (τ 14 (4 * e)))]) rfl ?_
                  refine z_goto hY eX8_needed_96 ?_
                  refine z_sub [2, 3, 4, 5, 0, 1] (ls' := [(0, .ref (A 40)), (1, z_i e), (2, z_i q), (3, z_i (τ 14 (4 * e))), (5, z_i (m + 1)), (4, z_i m)]) rfl ?_
                  exact ih45 (m + 1) m ((τ 14 (4 * e)) + m) (by omega) (by omega) (fun q => by first | (exfalso; omega) | exact (z_fi_f (by omega) (by omega)).symm.trans (hn (by omega))) (fun q => by first | exact hn2 q | exact (z_fi_t (by omega) (by omega)).symm.trans (hn (by omega)))
      refine z_heq (congrArg (fun q => mH A q h) (show τ = z_u τ 14 (4 * e) (τ 14 (4 * e)) from (z_u_same rfl).symm)) ?_
      exact lp45 _ 0 (-1) (τ 14 (4 * e)) (Nat.lt_succ_self _) (by omega) (fun _ => rfl) (fun q => absurd rfl q)
    · refine z_callV (As := [z_i (z_bl (1 ≤ q ∧ q ≤ 30)), z_i 2]) (rest := []) hY eX8_needed_22 (m_fails_f hG hA hB h00 (g := (z_bl (1 ≤ q ∧ q ≤ 30))) (c := 2) (z_bl_f g2) (by omega)) (mH_at hA (k := 40) (by decide)) (by decide) (Nat.le_of_ble_eq_true rfl) ⟨Nat.zero_le _, Nat.zero_le _⟩ (fun _ _ q => q.elim) (fun v6 h6 q6 => ?_)
      obtain ⟨rfl, rfl⟩ := q6
      refine z_ifeq hY eX8_needed_25 (by omega) (fun c => absurd c (by omega)) (fun _ => ?_)
      refine z_const hY eX8_needed_28 ?_
      exact z_ireturn hY eX8_needed_29 rfl (by rw [hφ]; exact ⟨2, _, rfl, rfl, by unfold S_needed; (repeat' split) <;> omega⟩) ⟨Nat.zero_le _, Nat.zero_le _⟩
  · refine z_callV (As := [z_i e]) (rest := []) hY eX8_needed_7 (m_noE_f hG hA hB hV h00 (by omega) g1) (mH_at hA (k := 40) (by decide)) (by decide) (Nat.le_of_ble_eq_true rfl) ⟨Nat.zero_le _, Nat.zero_le _⟩ (fun _ _ q => q.elim) (fun v7 h7 q7 => ?_)
    obtain ⟨rfl, rfl⟩ := q7
    refine z_ifne hY eX8_needed_10 (by omega) (fun _ => ?_) (fun c => absurd c (by omega))
    refine z_const hY eX8_needed_28 ?_
    exact z_ireturn hY eX8_needed_29 rfl (by rw [hφ]; exact ⟨1, _, rfl, rfl, by unfold S_needed; (repeat' split) <;> omega⟩) ⟨Nat.zero_le _, Nat.zero_le _⟩
theorem m_falls {G : z_G} {A : Nat → Nat} {σ : z_S} {h : z_H} (hG : z_OK G) (hA : mI A) (hB : mB σ) (hV : mV σ) (hD : mD σ) : z_T G mX8_falls [.ref (A 40)] (mH A σ h) 1 0 0 (fun v h' => v = none ∧ h' = mH A (z_ur (z_ur σ 24 (ylk σ)) 21 (yFa σ)) h) (z_no) := by
  obtain ⟨hf, hsc, hcm, hcr, hth, hgr, hlm, hld, hlo, hro, htm, hre, hpa, htp, hgp⟩ := id hV
  refine z_T_of hG pX8_falls (Nat.le_of_ble_eq_true rfl) (ls0 := [(0, .ref (A 40))]) rfl fun Y hY hg hmc hms hφ hψ => ?_
  subst hg
  refine z_aload hY eX8_falls_0 0 rfl ?_
  have hb1 := hB 30 0
  refine m_gf hY hA eX8_falls_1 (v := z_i (σ 30 0)) rfl ?_
  refine z_aload hY eX8_falls_4 0 rfl ?_
  have hb2 := hB 27 0
  refine m_gf hY hA eX8_falls_5 (v := z_i (σ 27 0)) rfl ?_
  refine z_isub hY eX8_falls_8 ?_
  refine z_const hY eX8_falls_9 ?_
  refine z_iadd hY eX8_falls_10 ?_
  refine z_istore hY eX8_falls_11 (ls' := [(1, z_i ((σ 30 0) - (σ 27 0) + 1)), (0, .ref (A 40))]) rfl ?_
  refine z_const hY eX8_falls_12 ?_
  refine z_istore hY eX8_falls_13 (ls' := [(2, z_i 0), (1, z_i ((σ 30 0) - (σ 27 0) + 1)), (0, .ref (A 40))]) rfl ?_
  refine z_sub [2, 1, 0] (ls' := [(0, .ref (A 40)), (1, z_i ((σ 30 0) - (σ 27 0) + 1)), (2, z_i 0)]) rfl ?_
  have lp14 : ∀ (fu : Nat) (k : Int), (σ 25 0 - k).toNat < fu → (0 ≤ k ∧ k ≤ σ 25 0) → z_W Y 14 [(0, .ref (A 40)), (1, z_i ((σ 30 0) - (σ 27 0) + 1)), (2, z_i k)] [] (mH A (z_ur σ 24 (fun i => if 0 ≤ i ∧ i < k then σ 21 i else σ 24 i)) h) 0 0 := by
    intro fu
    induction fu with
    | zero => intro k hf; exact absurd hf (Nat.not_lt_zero _)
    | succ fu ih14 =>
      intro k hf h0
      refine z_iload hY eX8_falls_14 2 rfl ?_
      refine z_aload hY eX8_falls_15 0 rfl ?_
      have hb3 := hB 25 0
      refine m_gf hY hA eX8_falls_16 (v := z_i (σ 25 0)) (by simp [mF, z_u, z_ur]) ?_
      refine z_icmpge hY eX8_falls_19 (by omega) (fun c19 => ?_) (fun c19 => ?_)
      · obtain rfl : k = σ 25 0 := by omega
        refine z_heq (congrArg (fun q => mH A q h) (show _ = z_ur σ 24 (ylk σ) from rfl)) ?_
        refine z_aload hY eX8_falls_40 0 rfl ?_
        refine m_gf hY hA eX8_falls_41 (v := z_i (σ 25 0)) (by simp [mF, z_u, z_ur]) ?_
        refine z_const hY eX8_falls_44 ?_
        refine z_isub hY eX8_falls_45 ?_
        refine z_istore hY eX8_falls_46 (ls' := [(2, z_i ((σ 25 0) - 1)), (0, .ref (A 40)), (1, z_i ((σ 30 0) - (σ 27 0) + 1))]) rfl ?_
        refine z_sub [1, 2, 0] (ls' := [(0, .ref (A 40)), (1, z_i ((σ 30 0) - (σ 27 0) + 1)), (2, z_i ((σ 25 0) - 1))]) rfl ?_
        have lp47 : ∀ (fu : Nat) (k : Int), (k + 1).toNat < fu → (-1 ≤ k ∧ k ≤ σ 25 0 - 1) → z_W Y 47 [(0, .ref (A 40)), (1, z_i ((σ 30 0) - (σ 27 0) + 1)), (2, z_i k)] [] (mH A (z_ur (z_ur σ 24 (ylk σ)) 21 (yFs σ (σ 25 0 - 1 - k).toNat)) h) 0 0 := by
          intro fu
          induction fu with
          | zero => intro k hf; exact absurd hf (Nat.not_lt_zero _)
          | succ fu ih47 =>
            intro k hf h0
            have hk1 := hld k
            have hke := hB 22 (σ 21 k)
            have hkp := hB 23 (σ 21 k)
            refine z_iload hY eX8_falls_47 2 rfl ?_
            refine z_iflt hY eX8_falls_48 (by omega) (fun c48 => ?_) (fun c48 => ?_)
            · exact z_return hY eX8_falls_141 rfl (by rw [hφ]; exact ⟨rfl, by rw [show k = -1 by omega, show σ 25 0 - 1 - -1 = σ 25 0 by omega]; rfl⟩) ⟨Nat.zero_le _, Nat.zero_le _⟩
            · refine z_aload hY eX8_falls_51 0 rfl ?_
              refine m_gf hY hA eX8_falls_52 (v := .ref (A 24)) rfl ?_
              refine z_iload hY eX8_falls_55 2 rfl ?_
              refine m_ial hY hA eX8_falls_56 (j := 24) (N := 30) (x := σ 21 k) (by decide) rfl (by omega) (by rw [z_ur_ne (by decide), z_ur_at]; exact if_pos (by omega)) ?_
              refine z_istore hY eX8_falls_57 (ls' := [(3, z_i (σ 21 k)), (0, .ref (A 40)), (1, z_i ((σ 30 0) - (σ 27 0) + 1)), (2, z_i k)]) rfl ?_
              have hB4 : mB (z_ur (z_ur σ 24 (ylk σ)) 21 (yFs σ (σ 25 0 - 1 - k).toNat)) := mB_ur (mB_ur hB (fun i => by unfold ylk; split <;> exact hB _ _)) (fun i => by have := yFs_b hV (σ 25 0 - 1 - k).toNat i; omega)
              have hV4 : mV (z_ur (z_ur σ 24 (ylk σ)) 21 (yFs σ (σ 25 0 - 1 - k).toNat)) := mV_f hV (fun i => by unfold ylk; split; exact hld i; exact hlo i) (yFs_b hV _)
              refine z_aload hY eX8_falls_58 1 rfl ?_
              refine z_iload hY eX8_falls_59 0 rfl ?_
              refine z_callVr (As := [z_i (σ 21 k)]) (rest := []) (r := z_i (k + 1)) hY eX8_falls_60 (lp_is (σ := z_ur (z_ur σ 24 (ylk σ)) 21 (yFs σ (σ 25 0 - 1 - k).toNat)) (e := σ 21 k) (k := k) (by first | exact ⟨by omega, by simp [z_ur]; omega⟩ | (show 0 ≤ k ∧ k < σ 25 0; omega)) ((yFs_lo σ _ k (by omega))) (fun i h1 h2 q => by have q2 := (yFs_lo σ (σ 25 0 - 1 - k).toNat i (by omega)).symm.trans q; have := hD i k (by omega) (by omega) (by omega) (by omega) q2; omega) ▸ m_ladderPlaceOf hG hA hB4 hV4 (by omega)) (mH_at hA (k := 40) (by decide)) (by decide) (Nat.le_of_ble_eq_true rfl) ⟨Nat.zero_le _, Nat.zero_le _⟩ ?_
              refine z_istore hY eX8_falls_63 (ls' := [(4, z_i (k + 1)), (3, z_i (σ 21 k)), (0, .ref (A 40)), (1, z_i ((σ 30 0) - (σ 27 0) + 1)), (2, z_i k)]) rfl ?_
              refine z_aload hY eX8_falls_65 2 rfl ?_
              refine m_gf hY hA eX8_falls_66 (v := .ref (A 22)) rfl ?_
              refine z_iload hY eX8_falls_69 1 rfl ?_
              have hb5 := hB 22 (σ 21 k)
              refine m_ial hY hA eX8_falls_70 (j := 22) (N := 30) (x := σ 22 (σ 21 k)) (by decide) rfl (by omega) (by simp [z_u, z_ur]) ?_
              refine z_iload hY eX8_falls_71 3 rfl ?_
              refine z_icmpgt hY eX8_falls_72 (by omega) (fun c72 => ?_) (fun c72 => ?_)
              · refine z_iinc hY eX8_falls_135 4 rfl (ls' := [(2, z_i (k + (-1))), (4, z_i (k + 1)), (3, z_i (σ 21 k)), (0, .ref (A 40)), (1, z_i ((σ 30 0) - (σ 27 0) + 1))]) rfl ?_
                refine z_lq (ls' := [(2, z_i (k - 1)), (4, z_i (k + 1)), (3, z_i (σ 21 k)), (0, .ref (A 40)), (1, z_i ((σ 30 0) - (σ 27 0) + 1))]) (by rw [show (k + (-1) : Int) = k - 1 by omega]) ?_
                refine z_goto hY eX8_falls_138 ?_
                refine z_sub [3, 4, 0] (ls' := [(0, .ref (A 40)), (1, z_i ((σ 30 0) - (σ 27 0) + 1)), (2, z_i (k - 1))]) rfl ?_
                refine z_heq (congrArg (fun q => mH A q h) (show z_ur (z_ur σ 24 (ylk σ)) 21 (yFs σ (σ 25 0 - 1 - k).toNat) = z_ur (z_ur σ 24 (ylk σ)) 21 (yFs σ (σ 25 0 - 1 - (k - 1)).toNat) from (by rw [yFs_s (k := k) (by omega) (by unfold yFc; omega)]))) ?_
                exact ih47 (k - 1) (by omega) (by omega)
              · refine z_aload hY eX8_falls_75 2 rfl ?_
                refine m_gf hY hA eX8_falls_76 (v := .ref (A 23)) rfl ?_
                refine z_iload hY eX8_falls_79 1 rfl ?_
                have hb6 := hB 23 (σ 21 k)
                refine m_ial hY hA eX8_falls_80 (j := 23) (N := 30) (x := σ 23 (σ 21 k)) (by decide) rfl (by omega) (by simp [z_u, z_ur]) ?_
                refine z_iload hY eX8_falls_81 3 rfl ?_
                refine z_icmplt hY eX8_falls_82 (by omega) (fun c82 => ?_) (fun c82 => ?_)
                · refine z_iload hY eX8_falls_95 3 rfl ?_
                  refine z_iflt hY eX8_falls_96 (by omega) (fun c96 => ?_) (fun c96 => ?_)
                  · refine z_iinc hY eX8_falls_135 4 rfl (ls' := [(2, z_i (k + (-1))), (4, z_i (k + 1)), (3, z_i (σ 21 k)), (0, .ref (A 40)), (1, z_i ((σ 30 0) - (σ 27 0) + 1))]) rfl ?_
                    refine z_lq (ls' := [(2, z_i (k - 1)), (4, z_i (k + 1)), (3, z_i (σ 21 k)), (0, .ref (A 40)), (1, z_i ((σ 30 0) - (σ 27 0) + 1))]) (by rw [show (k + (-1) : Int) = k - 1 by omega]) ?_
                    refine z_goto hY eX8_falls_138 ?_
                    refine z_sub [3, 4, 0] (ls' := [(0, .ref (A 40)), (1, z_i ((σ 30 0) - (σ 27 0) + 1)), (2, z_i (k - 1))]) rfl ?_
                    refine z_heq (congrArg (fun q => mH A q h) (show z_ur (z_ur σ 24 (ylk σ)) 21 (yFs σ (σ 25 0 - 1 - k).toNat) = z_ur (z_ur σ 24 (ylk σ)) 21 (yFs σ (σ 25 0 - 1 - (k - 1)).toNat) from (by rw [yFs_s (k := k) (by omega) (by unfold yFc; omega)]))) ?_
                    exact ih47 (k - 1) (by omega) (by omega)
                  · refine z_iload hY eX8_falls_99 0 rfl ?_
                    refine z_aload hY eX8_falls_101 2 rfl ?_
                    refine m_gf hY hA eX8_falls_102 (v := z_i (σ 25 0)) (by simp [mF, z_u, z_ur]) ?_
                    refine z_icmpne hY eX8_falls_105 (by omega) (fun c105 => ?_) (fun c105 => ?_)
                    · refine z_aload hY eX8_falls_111 2 rfl ?_
                      refine m_gf hY hA eX8_falls_112 (v := .ref (A 21)) rfl ?_
                      refine z_iload hY eX8_falls_115 0 rfl ?_
                      refine z_const hY eX8_falls_117 ?_
                      refine z_isub hY eX8_falls_118 ?_
                      refine z_top (b := k) (by omega) ?_
                      refine z_aload hY eX8_falls_119 2 rfl ?_
                      refine m_gf hY hA eX8_falls_120 (v := .ref (A 21)) rfl ?_
                      refine z_iload hY eX8_falls_123 0 rfl ?_
                      refine m_ial hY hA eX8_falls_125 (j := 21) (N := 30) (x := yFs σ (σ 25 0 - 1 - k).toNat (k + 1)) (by decide) rfl (by omega) (by rw [z_ur_at]) ?_
                      refine m_ias hY hA eX8_falls_126 (j := 21) (N := 30) (by decide) (fun _ => rfl) (by omega) ?_
                      refine z_aload hY eX8_falls_127 2 rfl ?_
                      refine m_gf hY hA eX8_falls_128 (v := .ref (A 21)) rfl ?_
                      refine z_iload hY eX8_falls_131 0 rfl ?_
                      refine z_iload hY eX8_falls_133 1 rfl ?_
                      refine m_ias hY hA eX8_falls_134 (j := 21) (N := 30) (by decide) (fun _ => rfl) (by omega) ?_
                      refine z_iinc hY eX8_falls_135 4 rfl (ls' := [(2, z_i (k + (-1))), (4, z_i (k + 1)), (3, z_i (σ 21 k)), (0, .ref (A 40)), (1, z_i ((σ 30 0) - (σ 27 0) + 1))]) rfl ?_
                      refine z_lq (ls' := [(2, z_i (k - 1)), (4, z_i (k + 1)), (3, z_i (σ 21 k)), (0, .ref (A 40)), (1, z_i ((σ 30 0) - (σ 27 0) + 1))]) (by rw [show (k + (-1) : Int) = k - 1 by omega]) ?_
                      refine z_goto hY eX8_falls_138 ?_
                      refine z_sub [3, 4, 0] (ls' := [(0, .ref (A 40)), (1, z_i ((σ 30 0) - (σ 27 0) + 1)), (2, z_i (k - 1))]) rfl ?_
                      refine z_heq (congrArg (fun q => mH A q h) (show z_u (z_u (z_ur (z_ur σ 24 (ylk σ)) 21 (yFs σ (σ 25 0 - 1 - k).toNat)) 21 k (yFs σ (σ 25 0 - 1 - k).toNat (k + 1))) 21 (k + 1) (σ 21 k) = z_ur (z_ur σ 24 (ylk σ)) 21 (yFs σ (σ 25 0 - 1 - (k - 1)).toNat) from (by refine (congrArg (fun q => z_u q 21 (k + 1) (σ 21 k)) (z_ur_u (g := fun i => if i = k then yFs σ (σ 25 0 - 1 - k).toNat (k + 1) else yFs σ (σ 25 0 - 1 - k).toNat i) (if_pos rfl) (fun j hj => if_neg hj))).trans (z_ur_u ?_ ?_) <;> rw [yFs_w (k := k) (by omega) (by unfold yFc; omega)]; exact if_pos rfl; exact fun j hj => if_neg hj))) ?_
                      exact ih47 (k - 1) (by omega) (by omega)
                    · refine z_goto hY eX8_falls_108 ?_
                      refine z_iinc hY eX8_falls_135 4 rfl (ls' := [(2, z_i (k + (-1))), (4, z_i (k + 1)), (3, z_i (σ 21 k)), (0, .ref (A 40)), (1, z_i ((σ 30 0) - (σ 27 0) + 1))]) rfl ?_
                      refine z_lq (ls' := [(2, z_i (k - 1)), (4, z_i (k + 1)), (3, z_i (σ 21 k)), (0, .ref (A 40)), (1, z_i ((σ 30 0) - (σ 27 0) + 1))]) (by rw [show (k + (-1) : Int) = k - 1 by omega]) ?_
                      refine z_goto hY eX8_falls_138 ?_
                      refine z_sub [3, 4, 0] (ls' := [(0, .ref (A 40)), (1, z_i ((σ 30 0) - (σ 27 0) + 1)), (2, z_i (k - 1))]) rfl ?_
                      refine z_heq (congrArg (fun q => mH A q h) (show z_ur (z_ur σ 24 (ylk σ)) 21 (yFs σ (σ 25 0 - 1 - k).toNat) = z_ur (z_ur σ 24 (ylk σ)) 21 (yFs σ (σ 25 0 - 1 - (k - 1)).toNat) from (by rw [yFs_s (k := k) (by omega) (by unfold yFc; omega)]))) ?_
                      exact ih47 (k - 1) (by omega) (by omega)
                · refine z_aload hY eX8_falls_85 2 rfl ?_
                  refine m_gf hY hA eX8_falls_86 (v := .ref (A 23)) rfl ?_
                  refine z_iload hY eX8_falls_89 1 rfl ?_
                  refine m_ial hY hA eX8_falls_90 (j := 23) (N := 30) (x := σ 23 (σ 21 k)) (by decide) rfl (by omega) (by simp [z_u, z_ur]) ?_
                  refine z_const hY eX8_falls_91 ?_
                  refine z_icmpne hY eX8_falls_92 (by omega) (fun c92 => ?_) (fun c92 => ?_)
                  · refine z_iinc hY eX8_falls_135 4 rfl (ls' := [(2, z_i (k + (-1))), (4, z_i (k + 1)), (3, z_i (σ 21 k)), (0, .ref (A 40)), (1, z_i ((σ 30 0) - (σ 27 0) + 1))]) rfl ?_
                    refine z_lq (ls' := [(2, z_i (k - 1)), (4, z_i (k + 1)), (3, z_i (σ 21 k)), (0, .ref (A 40)), (1, z_i ((σ 30 0) - (σ 27 0) + 1))]) (by rw [show (k + (-1) : Int) = k - 1 by omega]) ?_
                    refine z_goto hY eX8_falls_138 ?_
                    refine z_sub [3, 4, 0] (ls' := [(0, .ref (A 40)), (1, z_i ((σ 30 0) - (σ 27 0) + 1)), (2, z_i (k - 1))]) rfl ?_
                    refine z_heq (congrArg (fun q => mH A q h) (show z_ur (z_ur σ 24 (ylk σ)) 21 (yFs σ (σ 25 0 - 1 - k).toNat) = z_ur (z_ur σ 24 (ylk σ)) 21 (yFs σ (σ 25 0 - 1 - (k - 1)).toNat) from (by rw [yFs_s (k := k) (by omega) (by unfold yFc; omega)]))) ?_
                    exact ih47 (k - 1) (by omega) (by omega)
                  · refine z_iload hY eX8_falls_95 3 rfl ?_
                    refine z_iflt hY eX8_falls_96 (by omega) (fun c96 => ?_) (fun c96 => ?_)
                    · refine z_iinc hY eX8_falls_135 4 rfl (ls' := [(2, z_i (k + (-1))), (4, z_i (k + 1)), (3, z_i (σ 21 k)), (0, .ref (A 40)), (1, z_i ((σ 30 0) - (σ 27 0) + 1))]) rfl ?_
                      refine z_lq (ls' := [(2, z_i (k - 1)), (4, z_i (k + 1)), (3, z_i (σ 21 k)), (0, .ref (A 40)), (1, z_i ((σ 30 0) - (σ 27 0) + 1))]) (by rw [show (k + (-1) : Int) = k - 1 by omega]) ?_
                      refine z_goto hY eX8_falls_138 ?_
                      refine z_sub [3, 4, 0] (ls' := [(0, .ref (A 40)), (1, z_i ((σ 30 0) - (σ 27 0) + 1)), (2, z_i (k - 1))]) rfl ?_
                      refine z_heq (congrArg (fun q => mH A q h) (show z_ur (z_ur σ 24 (ylk σ)) 21 (yFs σ (σ 25 0 - 1 - k).toNat) = z_ur (z_ur σ 24 (ylk σ)) 21 (yFs σ (σ 25 0 - 1 - (k - 1)).toNat) from (by rw [yFs_s (k := k) (by omega) (by unfold yFc; omega)]))) ?_
                      exact ih47 (k - 1) (by omega) (by omega)
                    · refine z_iload hY eX8_falls_99 0 rfl ?_
                      refine z_aload hY eX8_falls_101 2 rfl ?_
                      refine m_gf hY hA eX8_falls_102 (v := z_i (σ 25 0)) (by simp [mF, z_u, z_ur]) ?_
                      refine z_icmpne hY eX8_falls_105 (by omega) (fun c105 => ?_) (fun c105 => ?_)
                      · refine z_aload hY eX8_falls_111 2 rfl ?_
                        refine m_gf hY hA eX8_falls_112 (v := .ref (A 21)) rfl ?_
                        refine z_iload hY eX8_falls_115 0 rfl ?_
                        refine z_const hY eX8_falls_117 ?_
                        refine z_isub hY eX8_falls_118 ?_
                        refine z_top (b := k) (by omega) ?_
                        refine z_aload hY eX8_falls_119 2 rfl ?_
                        refine m_gf hY hA eX8_falls_120 (v := .ref (A 21)) rfl ?_
                        refine z_iload hY eX8_falls_123 0 rfl ?_
                        refine m_ial hY hA eX8_falls_125 (j := 21) (N := 30) (x := yFs σ (σ 25 0 - 1 - k).toNat (k + 1)) (by decide) rfl (by omega) (by rw [z_ur_at]) ?_
                        refine m_ias hY hA eX8_falls_126 (j := 21) (N := 30) (by decide) (fun _ => rfl) (by omega) ?_
                        refine z_aload hY eX8_falls_127 2 rfl ?_
                        refine m_gf hY hA eX8_falls_128 (v := .ref (A 21)) rfl ?_
                        refine z_iload hY eX8_falls_131 0 rfl ?_
                        refine z_iload hY eX8_falls_133 1 rfl ?_
                        refine m_ias hY hA eX8_falls_134 (j := 21) (N := 30) (by decide) (fun _ => rfl) (by omega) ?_
                        refine z_iinc hY eX8_falls_135 4 rfl (ls' := [(2, z_i (k + (-1))), (4, z_i (k + 1)), (3, z_i (σ 21 k)), (0, .ref (A 40)), (1, z_i ((σ 30 0) - (σ 27 0) + 1))]) rfl ?_
                        refine z_lq (ls' := [(2, z_i (k - 1)), (4, z_i (k + 1)), (3, z_i (σ 21 k)), (0, .ref (A 40)), (1, z_i ((σ 30 0) - (σ 27 0) + 1))]) (by rw [show (k + (-1) : Int) = k - 1 by omega]) ?_
                        refine z_goto hY eX8_falls_138 ?_
                        refine z_sub [3, 4, 0] (ls' := [(0, .ref (A 40)), (1, z_i ((σ 30 0) - (σ 27 0) + 1)), (2, z_i (k - 1))]) rfl ?_
                        refine z_heq (congrArg (fun q => mH A q h) (show z_u (z_u (z_ur (z_ur σ 24 (ylk σ)) 21 (yFs σ (σ 25 0 - 1 - k).toNat)) 21 k (yFs σ (σ 25 0 - 1 - k).toNat (k + 1))) 21 (k + 1) (σ 21 k) = z_ur (z_ur σ 24 (ylk σ)) 21 (yFs σ (σ 25 0 - 1 - (k - 1)).toNat) from (by refine (congrArg (fun q => z_u q 21 (k + 1) (σ 21 k)) (z_ur_u (g := fun i => if i = k then yFs σ (σ 25 0 - 1 - k).toNat (k + 1) else yFs σ (σ 25 0 - 1 - k).toNat i) (if_pos rfl) (fun j hj => if_neg hj))).trans (z_ur_u ?_ ?_) <;> rw [yFs_w (k := k) (by omega) (by unfold yFc; omega)]; exact if_pos rfl; exact fun j hj => if_neg hj))) ?_
                        exact ih47 (k - 1) (by omega) (by omega)
                      · refine z_goto hY eX8_falls_108 ?_
                        refine z_iinc hY eX8_falls_135 4 rfl (ls' := [(2, z_i (k + (-1))), (4, z_i (k + 1)), (3, z_i (σ 21 k)), (0, .ref (A 40)), (1, z_i ((σ 30 0) - (σ 27 0) + 1))]) rfl ?_
                        refine z_lq (ls' := [(2, z_i (k - 1)), (4, z_i (k + 1)), (3, z_i (σ 21 k)), (0, .ref (A 40)), (1, z_i ((σ 30 0) - (σ 27 0) + 1))]) (by rw [show (k + (-1) : Int) = k - 1 by omega]) ?_
                        refine z_goto hY eX8_falls_138 ?_
                        refine z_sub [3, 4, 0] (ls' := [(0, .ref (A 40)), (1, z_i ((σ 30 0) - (σ 27 0) + 1)), (2, z_i (k - 1))]) rfl ?_
                        refine z_heq (congrArg (fun q => mH A q h) (show z_ur (z_ur σ 24 (ylk σ)) 21 (yFs σ (σ 25 0 - 1 - k).toNat) = z_ur (z_ur σ 24 (ylk σ)) 21 (yFs σ (σ 25 0 - 1 - (k - 1)).toNat) from (by rw [yFs_s (k := k) (by omega) (by unfold yFc; omega)]))) ?_
                        exact ih47 (k - 1) (by omega) (by omega)
        refine z_heq (congrArg (fun q => mH A q h) (show z_ur σ 24 (ylk σ) = z_ur (z_ur σ 24 (ylk σ)) 21 (yFs σ (σ 25 0 - 1 - ((σ 25 0) - 1)).toNat) from (by rw [show (σ 25 0 - 1 - (σ 25 0 - 1)).toNat = 0 by omega]; exact z_ur_id (fun i => rfl)))) ?_
        exact lp47 _ ((σ 25 0) - 1) (Nat.lt_succ_self _) (by omega)
      · refine z_aload hY eX8_falls_22 0 rfl ?_
        refine m_gf hY hA eX8_falls_23 (v := .ref (A 24)) rfl ?_
        refine z_iload hY eX8_falls_26 2 rfl ?_
        refine z_aload hY eX8_falls_27 0 rfl ?_
        refine m_gf hY hA eX8_falls_28 (v := .ref (A 21)) rfl ?_
        refine z_iload hY eX8_falls_31 2 rfl ?_
        refine m_ial hY hA eX8_falls_32 (j := 21) (N := 30) (x := σ 21 k) (by decide) rfl (by omega) (by simp [z_ur]) ?_
        refine m_ias hY hA eX8_falls_33 (j := 24) (N := 30) (by decide) (fun _ => rfl) (by omega) ?_
        refine z_iinc hY eX8_falls_34 2 rfl (ls' := [(2, z_i (k + 1)), (0, .ref (A 40)), (1, z_i ((σ 30 0) - (σ 27 0) + 1))]) rfl ?_
        refine z_goto hY eX8_falls_37 ?_
        refine z_sub [1, 2, 0] (ls' := [(0, .ref (A 40)), (1, z_i ((σ 30 0) - (σ 27 0) + 1)), (2, z_i (k + 1))]) rfl ?_
        refine z_heq (congrArg (fun q => mH A q h) (show z_u (z_ur σ 24 (fun i => if 0 ≤ i ∧ i < k then σ 21 i else σ 24 i)) 24 k (σ 21 k) = z_ur σ 24 (fun i => if 0 ≤ i ∧ i < (k + 1) then σ 21 i else σ 24 i) from (z_ur_u (if_pos (by omega)) (fun j hj => by show ite _ _ _ = ite _ _ _; split <;> split <;> first | rfl | (exfalso; omega))))) ?_
        exact ih14 (k + 1) (by omega) (by omega)
  refine z_heq (congrArg (fun q => mH A q h) (show σ = z_ur σ 24 (fun i => if 0 ≤ i ∧ i < 0 then σ 21 i else σ 24 i) from (z_ur_id (fun i => if_neg (by omega))))) ?_
  exact lp14 _ 0 (Nat.lt_succ_self _) (by omega)
theorem m_formOf {G : z_G} {A : Nat → Nat} {σ : z_S} {h : z_H} (hG : z_OK G) (hA : mI A) (hB : mB σ) (hV : mV σ) {e k n : Int} (he : 0 ≤ e ∧ e < 30) (hf0 : 1 ≤ n ∧ n ≤ 10 ∧ 1 ≤ k ∧ k ≤ n) : z_T G mX8_formOf [.ref (A 40), z_i e, z_i k, z_i n] (mH A σ h) 0 0 0 (fun v h' => v = some (z_i (yFo σ e k n)) ∧ h' = mH A (z_ur σ 31 (yRw σ e (σ 31) n.toNat)) h) (z_no) := by
  obtain ⟨hf, hsc, hcm, hcr, hth, hgr, hlm, hld, hlo, hro, htm, hre, hpa, htp, hgp⟩ := id hV
  refine z_T_of hG pX8_formOf (Nat.le_of_ble_eq_true rfl) (ls0 := [(0, .ref (A 40)), (1, z_i e), (2, z_i k), (3, z_i n)]) rfl fun Y hY hg hmc hms hφ hψ => ?_
  subst hg
  refine z_const hY eX8_formOf_0 ?_
  refine z_istore hY eX8_formOf_1 (ls' := [(4, z_i 0), (0, .ref (A 40)), (1, z_i e), (2, z_i k), (3, z_i n)]) rfl ?_
  refine z_sub [1, 2, 3, 4, 0] (ls' := [(0, .ref (A 40)), (1, z_i e), (2, z_i k), (3, z_i n), (4, z_i 0)]) rfl ?_
  have lp3 : ∀ (fu : Nat) (i : Int), (n - i).toNat < fu → (0 ≤ i ∧ i ≤ n) → z_W Y 3 [(0, .ref (A 40)), (1, z_i e), (2, z_i k), (3, z_i n), (4, z_i i)] [] (mH A (z_ur σ 31 (yRw σ e (σ 31) (i : Int).toNat)) h) 0 0 := by
    intro fu
    induction fu with
    | zero => intro i hf; exact absurd hf (Nat.not_lt_zero _)
    | succ fu ih3 =>
      intro i hf h0
      refine z_iload hY eX8_formOf_3 4 rfl ?_
      refine z_iload hY eX8_formOf_5 3 rfl ?_
      refine z_icmpge hY eX8_formOf_6 (by omega) (fun c6 => ?_) (fun c6 => ?_)
      · have ein : i = n := by omega
        refine z_const hY eX8_formOf_104 ?_
        refine z_istore hY eX8_formOf_105 (ls' := [(4, z_i 0), (0, .ref (A 40)), (1, z_i e), (2, z_i k), (3, z_i n)]) rfl ?_
        refine z_const hY eX8_formOf_107 ?_
        refine z_istore hY eX8_formOf_108 (ls' := [(5, z_i 0), (4, z_i 0), (0, .ref (A 40)), (1, z_i e), (2, z_i k), (3, z_i n)]) rfl ?_
        refine z_sub [2, 4, 0, 1] (ls' := [(0, .ref (A 40)), (2, z_i k), (5, z_i 0), (4, z_i 0)]) rfl ?_
        have lp110 : ∀ (fu : Nat) (j : Int) (w : Int), (k - j).toNat < fu → (0 ≤ j ∧ j ≤ k) → (w = z_sm (yRw σ e (σ 31) (i : Int).toNat) j) → z_W Y 110 [(0, .ref (A 40)), (2, z_i k), (5, z_i j), (4, z_i w)] [] (mH A (z_ur σ 31 (yRw σ e (σ 31) (i : Int).toNat)) h) 0 0 := by
          intro fu
          induction fu with
          | zero => intro j w hf; exact absurd hf (Nat.not_lt_zero _)
          | succ fu ih110 =>
            intro j w hf h5 hw
            refine z_iload hY eX8_formOf_110 2 rfl ?_
            refine z_iload hY eX8_formOf_112 1 rfl ?_
            refine z_icmpge hY eX8_formOf_113 (by omega) (fun c113 => ?_) (fun c113 => ?_)
            · refine z_iload hY eX8_formOf_134 3 rfl ?_
              exact z_ireturn hY eX8_formOf_136 rfl (by rw [hφ]; exact ⟨congrArg (fun q => some (z_i q)) (by rw [hw, show j = k by omega, ein]; exact yFo_eq (by omega) rfl rfl), by rw [ein]⟩) ⟨Nat.zero_le _, Nat.zero_le _⟩
            · refine z_iload hY eX8_formOf_116 3 rfl ?_
              refine z_aload hY eX8_formOf_118 0 rfl ?_
              refine m_gf hY hA eX8_formOf_119 (v := .ref (A 31)) rfl ?_
              refine z_iload hY eX8_formOf_122 2 rfl ?_
              refine m_ial hY hA eX8_formOf_124 (j := 31) (N := 10) (x := yRw σ e (σ 31) (i : Int).toNat j) (by decide) rfl (by omega) (by rw [z_ur_at]) ?_
              refine z_iadd hY eX8_formOf_125 ?_
              refine z_istore hY eX8_formOf_126 (ls' := [(4, z_i (w + (yRw σ e (σ 31) (i : Int).toNat j))), (0, .ref (A 40)), (2, z_i k), (5, z_i j)]) rfl ?_
              refine z_iinc hY eX8_formOf_128 3 rfl (ls' := [(5, z_i (j + 1)), (4, z_i (w + (yRw σ e (σ 31) (i : Int).toNat j))), (0, .ref (A 40)), (2, z_i k)]) rfl ?_
              refine z_goto hY eX8_formOf_131 ?_
              refine z_sub [2, 3, 0, 1] (ls' := [(0, .ref (A 40)), (2, z_i k), (5, z_i (j + 1)), (4, z_i (w + (yRw σ e (σ 31) (i : Int).toNat j)))]) rfl ?_
              exact ih110 (j + 1) (w + (yRw σ e (σ 31) (i : Int).toNat j)) (by omega) (by omega) (by rw [z_smS (by omega), ← hw])
        exact lp110 _ 0 0 (Nat.lt_succ_self _) (by omega) (z_sm0 (by omega)).symm
      · refine z_aload hY eX8_formOf_9 0 rfl ?_
        have hb1 := hB 30 0
        refine m_gf hY hA eX8_formOf_10 (v := z_i (σ 30 0)) (by simp [mF, z_u, z_ur]) ?_
        refine z_const hY eX8_formOf_13 ?_
        refine z_isub hY eX8_formOf_14 ?_
        refine z_iload hY eX8_formOf_15 4 rfl ?_
        refine z_isub hY eX8_formOf_17 ?_
        refine z_top (b := (σ 30 0) - i - 1) (by omega) ?_
        refine z_istore hY eX8_formOf_18 (ls' := [(5, z_i ((σ 30 0) - i - 1)), (0, .ref (A 40)), (1, z_i e), (2, z_i k), (3, z_i n), (4, z_i i)]) rfl ?_
        have hgn : -1000000 ≤ yGn σ e i ∧ yGn σ e i ≤ 1000000 := by unfold yGn; split; omega; exact hB _ _
        have hJ2 : z_W Y 42 [(0, .ref (A 40)), (1, z_i e), (2, z_i k), (3, z_i n), (4, z_i i)] [z_i (yGn σ e i)] (mH A (z_ur σ 31 (yRw σ e (σ 31) (i : Int).toNat)) h) 0 0 := by
          refine z_istore hY eX8_formOf_42 (ls' := [(6, z_i (yGn σ e i)), (0, .ref (A 40)), (1, z_i e), (2, z_i k), (3, z_i n), (4, z_i i)]) rfl ?_
          refine z_iload hY eX8_formOf_44 5 rfl ?_
          refine z_istore hY eX8_formOf_46 (ls' := [(7, z_i i), (6, z_i (yGn σ e i)), (0, .ref (A 40)), (1, z_i e), (2, z_i k), (3, z_i n), (4, z_i i)]) rfl ?_
          refine z_sub [2, 3, 4, 5, 6, 1, 0] (ls' := [(0, .ref (A 40)), (1, z_i e), (2, z_i k), (3, z_i n), (4, z_i i), (6, z_i (yGn σ e i)), (7, z_i i)]) rfl ?_
          have lp48 : ∀ (fu : Nat) (a : Int), (a).toNat < fu → (0 ≤ a ∧ a ≤ i) → (yPs (yRw σ e (σ 31) (i : Int).toNat) (yGn σ e i) a.toNat = yPs (yRw σ e (σ 31) (i : Int).toNat) (yGn σ e i) i.toNat) → z_W Y 48 [(0, .ref (A 40)), (1, z_i e), (2, z_i k), (3, z_i n), (4, z_i i), (6, z_i (yGn σ e i)), (7, z_i a)] [] (mH A (z_ur σ 31 (fun j => if a < j ∧ j ≤ i then yRw σ e (σ 31) (i : Int).toNat (j - 1) else yRw σ e (σ 31) (i : Int).toNat j)) h) 0 0 := by
            intro fu
            induction fu with
            | zero => intro a hf; exact absurd hf (Nat.not_lt_zero _)
            | succ fu ih48 =>
              intro a hf h3 hp
              have hra := yRw_b hB (e := e) (R := σ 31) (hB 31) (i).toNat (a - 1)
              refine z_iload hY eX8_formOf_48 6 rfl ?_
              refine z_ifle hY eX8_formOf_50 (by omega) (fun c50 => ?_) (fun c50 => ?_)
              · have hps : yPs (yRw σ e (σ 31) (i : Int).toNat) (yGn σ e i) i.toNat = a := by rw [← hp]; first | exact yPs_y (by omega) (by omega) | (rw [show a = 0 by omega]; rfl)
                refine z_aload hY eX8_formOf_89 0 rfl ?_
                refine m_gf hY hA eX8_formOf_90 (v := .ref (A 31)) rfl ?_
                refine z_iload hY eX8_formOf_93 6 rfl ?_
                refine z_iload hY eX8_formOf_95 5 rfl ?_
                refine m_ias hY hA eX8_formOf_97 (j := 31) (N := 10) (by decide) (fun _ => rfl) (by omega) ?_
                refine z_iinc hY eX8_formOf_98 4 rfl (ls' := [(4, z_i (i + 1)), (0, .ref (A 40)), (1, z_i e), (2, z_i k), (3, z_i n), (6, z_i (yGn σ e i)), (7, z_i a)]) rfl ?_
                refine z_goto hY eX8_formOf_101 ?_
                refine z_sub [1, 2, 3, 4, 0] (ls' := [(0, .ref (A 40)), (1, z_i e), (2, z_i k), (3, z_i n), (4, z_i (i + 1))]) rfl ?_
                refine z_heq (congrArg (fun q => mH A q h) (show z_u (z_ur σ 31 (fun j => if a < j ∧ j ≤ i then yRw σ e (σ 31) (i : Int).toNat (j - 1) else yRw σ e (σ 31) (i : Int).toNat j)) 31 a (yGn σ e i) = z_ur σ 31 (yRw σ e (σ 31) ((i + 1) : Int).toNat) from (by rw [yRw_S h0.1]; refine z_ur_u ?_ ?_ <;> unfold yIn <;> rw [hps]; exact (if_neg (by omega)).trans (if_pos rfl); intro j hj; show ite _ _ (ite _ _ _) = ite _ _ _; rw [if_neg hj]))) ?_
                exact ih3 (i + 1) (by omega) (by omega)
              · refine z_aload hY eX8_formOf_53 0 rfl ?_
                refine m_gf hY hA eX8_formOf_54 (v := .ref (A 31)) rfl ?_
                refine z_iload hY eX8_formOf_57 6 rfl ?_
                refine z_const hY eX8_formOf_59 ?_
                refine z_isub hY eX8_formOf_60 ?_
                refine m_ial hY hA eX8_formOf_61 (j := 31) (N := 10) (x := yRw σ e (σ 31) (i : Int).toNat (a - 1)) (by decide) rfl (by omega) (by rw [z_ur_at]; exact if_neg (by omega)) ?_
                refine z_iload hY eX8_formOf_62 5 rfl ?_
                refine z_icmpge hY eX8_formOf_64 (by omega) (fun c64 => ?_) (fun c64 => ?_)
                · have hps : yPs (yRw σ e (σ 31) (i : Int).toNat) (yGn σ e i) i.toNat = a := by rw [← hp]; first | exact yPs_y (by omega) (by omega) | (rw [show a = 0 by omega]; rfl)
                  refine z_aload hY eX8_formOf_89 0 rfl ?_
                  refine m_gf hY hA eX8_formOf_90 (v := .ref (A 31)) rfl ?_
                  refine z_iload hY eX8_formOf_93 6 rfl ?_
                  refine z_iload hY eX8_formOf_95 5 rfl ?_
                  refine m_ias hY hA eX8_formOf_97 (j := 31) (N := 10) (by decide) (fun _ => rfl) (by omega) ?_
                  refine z_iinc hY eX8_formOf_98 4 rfl (ls' := [(4, z_i (i + 1)), (0, .ref (A 40)), (1, z_i e), (2, z_i k), (3, z_i n), (6, z_i (yGn σ e i)), (7, z_i a)]) rfl ?_
                  refine z_goto hY eX8_formOf_101 ?_
                  refine z_sub [1, 2, 3, 4, 0] (ls' := [(0, .ref (A 40)), (1, z_i e), (2, z_i k), (3, z_i n), (4, z_i (i + 1))]) rfl ?_
                  refine z_heq (congrArg (fun q => mH A q h) (show z_u (z_ur σ 31 (fun j => if a < j ∧ j ≤ i then yRw σ e (σ 31) (i : Int).toNat (j - 1) else yRw σ e (σ 31) (i : Int).toNat j)) 31 a (yGn σ e i) = z_ur σ 31 (yRw σ e (σ 31) ((i + 1) : Int).toNat) from (by rw [yRw_S h0.1]; refine z_ur_u ?_ ?_ <;> unfold yIn <;> rw [hps]; exact (if_neg (by omega)).trans (if_pos rfl); intro j hj; show ite _ _ (ite _ _ _) = ite _ _ _; rw [if_neg hj]))) ?_
                  exact ih3 (i + 1) (by omega) (by omega)
                · refine z_aload hY eX8_formOf_67 0 rfl ?_
                  refine m_gf hY hA eX8_formOf_68 (v := .ref (A 31)) rfl ?_
                  refine z_iload hY eX8_formOf_71 6 rfl ?_
                  refine z_aload hY eX8_formOf_73 0 rfl ?_
                  refine m_gf hY hA eX8_formOf_74 (v := .ref (A 31)) rfl ?_
                  refine z_iload hY eX8_formOf_77 6 rfl ?_
                  refine z_const hY eX8_formOf_79 ?_
                  refine z_isub hY eX8_formOf_80 ?_
                  refine m_ial hY hA eX8_formOf_81 (j := 31) (N := 10) (x := yRw σ e (σ 31) (i : Int).toNat (a - 1)) (by decide) rfl (by omega) (by rw [z_ur_at]; exact if_neg (by omega)) ?_
                  refine m_ias hY hA eX8_formOf_82 (j := 31) (N := 10) (by decide) (fun _ => rfl) (by omega) ?_
                  refine z_iinc hY eX8_formOf_83 6 rfl (ls' := [(7, z_i (a + (-1))), (0, .ref (A 40)), (1, z_i e), (2, z_i k), (3, z_i n), (4, z_i i), (6, z_i (yGn σ e i))]) rfl ?_
                  refine z_lq (ls' := [(7, z_i (a - 1)), (0, .ref (A 40)), (1, z_i e), (2, z_i k), (3, z_i n), (4, z_i i), (6, z_i (yGn σ e i))]) (by rw [show (a + (-1) : Int) = a - 1 by omega]) ?_
                  refine z_goto hY eX8_formOf_86 ?_
                  refine z_sub [1, 2, 3, 4, 5, 6, 0] (ls' := [(0, .ref (A 40)), (1, z_i e), (2, z_i k), (3, z_i n), (4, z_i i), (6, z_i (yGn σ e i)), (7, z_i (a - 1))]) rfl ?_
                  refine z_heq (congrArg (fun q => mH A q h) (show z_u (z_ur σ 31 (fun j => if a < j ∧ j ≤ i then yRw σ e (σ 31) (i : Int).toNat (j - 1) else yRw σ e (σ 31) (i : Int).toNat j)) 31 a (yRw σ e (σ 31) (i : Int).toNat (a - 1)) = z_ur σ 31 (fun j => if (a - 1) < j ∧ j ≤ i then yRw σ e (σ 31) (i : Int).toNat (j - 1) else yRw σ e (σ 31) (i : Int).toNat j) from (z_ur_u (if_pos (by omega)) (fun j hj => by show ite _ _ _ = ite _ _ _; split <;> split <;> first | rfl | (exfalso; omega))))) ?_
                  exact ih48 (a - 1) (by omega) (by omega) ((yPs_n (by omega) (by omega)).symm.trans hp)
          refine z_heq (congrArg (fun q => mH A q h) (show z_ur σ 31 (yRw σ e (σ 31) (i : Int).toNat) = z_ur σ 31 (fun j => if i < j ∧ j ≤ i then yRw σ e (σ 31) (i : Int).toNat (j - 1) else yRw σ e (σ 31) (i : Int).toNat j) from (congrArg (z_ur σ 31) (funext fun j => (if_neg (by omega)).symm)))) ?_
          exact lp48 _ i (Nat.lt_succ_self _) (by omega) rfl
        refine z_iload hY eX8_formOf_20 0 rfl ?_
        refine z_ifge hY eX8_formOf_22 (by omega) (fun c22 => ?_) (fun c22 => ?_)
        · refine z_aload hY eX8_formOf_29 1 rfl ?_
          refine m_gf hY hA eX8_formOf_30 (v := .ref (A 28)) rfl ?_
          refine z_const hY eX8_formOf_33 ?_
          refine z_iload hY eX8_formOf_36 2 rfl ?_
          refine z_imul hY eX8_formOf_37 ?_
          refine z_iload hY eX8_formOf_38 0 rfl ?_
          refine z_iadd hY eX8_formOf_40 ?_
          refine z_top (b := 200 * e + (σ 30 0) - i - 1) (by omega) ?_
          have hb3 := hB 28 (200 * e + (σ 30 0) - i - 1)
          refine m_ial hY hA eX8_formOf_41 (j := 28) (N := 6000) (x := σ 28 (200 * e + (σ 30 0) - i - 1)) (by decide) rfl (by omega) (by simp [z_u, z_ur]) ?_
          refine z_sub [1, 2, 3, 4, 5] (ls' := [(0, .ref (A 40)), (1, z_i e), (2, z_i k), (3, z_i n), (4, z_i i)]) rfl ?_
          refine z_top (b := yGn σ e i) (by unfold yGn; first | exact (if_pos (by omega)).symm | exact (if_neg (by omega)).symm) ?_
          exact hJ2
        · refine z_const hY eX8_formOf_25 ?_
          refine z_goto hY eX8_formOf_26 ?_
          refine z_sub [1, 2, 3, 4, 5] (ls' := [(0, .ref (A 40)), (1, z_i e), (2, z_i k), (3, z_i n), (4, z_i i)]) rfl ?_
          refine z_top (b := yGn σ e i) (by unfold yGn; first | exact (if_pos (by omega)).symm | exact (if_neg (by omega)).symm) ?_
          exact hJ2
  refine z_heq (congrArg (fun q => mH A q h) (show σ = z_ur σ 31 (yRw σ e (σ 31) (0 : Int).toNat) from (z_ur_id (fun i => rfl)))) ?_
  exact lp3 _ 0 (Nat.lt_succ_self _) (by omega)
def S_form (σ : z_S) (e k n : Int) (c r : Int) (ρ : z_S) : Prop := if pr σ e then (if 1 ≤ n ∧ n ≤ 10 ∧ 1 ≤ k ∧ k ≤ n then c = 0 ∧ r = yFo σ e k n ∧ ρ = z_ur σ 31 (yRw σ e (σ 31) n.toNat) else c = 2 ∧ ρ = z_u σ 0 0 2) else c = 1 ∧ ρ = z_u σ 0 0 1
theorem p_form {G : z_G} {A : Nat → Nat} {σ τ : z_S} {h : z_H} (hτ : z_u σ 0 0 0 = τ) (hG : z_OK G) (hA : mI A) (hB : mB τ) (hV : mV τ) {e k n : Int} (hr : -2147483648 ≤ e ∧ e ≤ 2147483647 ∧ -2147483648 ≤ k ∧ k ≤ 2147483647 ∧ -2147483648 ≤ n ∧ n ≤ 2147483647) : z_T G mX8_form [.ref (A 40), z_i e, z_i k, z_i n] (mH A σ h) 3 0 0 (fun v h' => ∃ (c r : Int) (ρ : z_S), v = some (z_i r) ∧ h' = mH A ρ h ∧ S_form τ e k n c r ρ) (z_no) := by
  have h00 : τ 0 0 = 0 := by rw [← hτ]; rfl
  obtain ⟨hf, hsc, hcm, hcr, hth, hgr, hlm, hld, hlo, hro, htm, hre, hpa, htp, hgp⟩ := id hV
  refine z_T_of hG pX8_form (Nat.le_of_ble_eq_true rfl) (ls0 := [(0, .ref (A 40)), (1, z_i e), (2, z_i k), (3, z_i n)]) rfl fun Y hY hg hmc hms hφ hψ => ?_
  subst hg
  refine z_aload hY eX8_form_0 0 rfl ?_
  refine z_const hY eX8_form_1 ?_
  refine m_pf hY hA eX8_form_2 (by decide) ?_
  rw [hτ]
  refine z_aload hY eX8_form_5 0 rfl ?_
  refine z_iload hY eX8_form_6 1 rfl ?_
  by_cases g1 : pr τ e
  · refine z_callVr (As := [z_i e]) (rest := []) (r := z_i 0) hY eX8_form_7 (m_noE_t hG hA hB hV h00 (by omega) g1) (mH_at hA (k := 40) (by decide)) (by decide) (Nat.le_of_ble_eq_true rfl) ⟨Nat.zero_le _, Nat.zero_le _⟩ ?_
    refine z_ifne hY eX8_form_10 (by omega) (fun c => absurd c (by omega)) (fun _ => ?_)
    refine z_aload hY eX8_form_13 0 rfl ?_
    refine z_iload hY eX8_form_14 2 rfl ?_
    refine z_iload hY eX8_form_15 3 rfl ?_
    refine z_callSr (As := [z_i k, z_i n]) (rest := [.ref (A 40)]) (r := z_i (z_bl (1 ≤ n ∧ n ≤ 10 ∧ 1 ≤ k ∧ k ≤ n))) hY eX8_form_16 (m_isForm hG (by omega)) (by decide) (Nat.le_of_ble_eq_true rfl) ⟨Nat.zero_le _, Nat.zero_le _⟩ ?_
    refine z_const hY eX8_form_19 ?_
    have hgb := z_bl01 (1 ≤ n ∧ n ≤ 10 ∧ 1 ≤ k ∧ k ≤ n)
    by_cases g2 : 1 ≤ n ∧ n ≤ 10 ∧ 1 ≤ k ∧ k ≤ n
    · refine z_callVr (As := [z_i (z_bl (1 ≤ n ∧ n ≤ 10 ∧ 1 ≤ k ∧ k ≤ n)), z_i 2]) (rest := []) (r := z_i 0) hY eX8_form_20 (m_fails_t hG hA hB h00 (g := (z_bl (1 ≤ n ∧ n ≤ 10 ∧ 1 ≤ k ∧ k ≤ n))) (c := 2) (by rw [z_bl_t g2]; omega) (by omega)) (mH_at hA (k := 40) (by decide)) (by decide) (Nat.le_of_ble_eq_true rfl) ⟨Nat.zero_le _, Nat.zero_le _⟩ ?_
      refine z_ifeq hY eX8_form_23 (by omega) (fun _ => ?_) (fun c => absurd c (by omega))
      refine z_aload hY eX8_form_30 0 rfl ?_
      refine z_iload hY eX8_form_31 1 rfl ?_
      refine z_iload hY eX8_form_32 2 rfl ?_
      refine z_iload hY eX8_form_33 3 rfl ?_
      refine z_callV (As := [z_i e, z_i k, z_i n]) (rest := []) hY eX8_form_34 (m_formOf hG hA hB hV (by omega) (by omega)) (mH_at hA (k := 40) (by decide)) (by decide) (Nat.le_of_ble_eq_true rfl) ⟨Nat.zero_le _, Nat.zero_le _⟩ (fun _ _ q => q.elim) (fun v3 h3 q3 => ?_)
      obtain ⟨rfl, rfl⟩ := q3
      exact z_ireturn hY eX8_form_37 rfl (by rw [hφ]; exact ⟨0, _, _, rfl, rfl, by unfold S_form; (repeat' split) <;> first | exact ⟨rfl, rfl, rfl⟩ | exact ⟨rfl, by omega, rfl⟩ | exact ⟨rfl, rfl⟩ | (exfalso; omega)⟩) ⟨Nat.zero_le _, Nat.zero_le _⟩
    · refine z_callV (As := [z_i (z_bl (1 ≤ n ∧ n ≤ 10 ∧ 1 ≤ k ∧ k ≤ n)), z_i 2]) (rest := []) hY eX8_form_20 (m_fails_f hG hA hB h00 (g := (z_bl (1 ≤ n ∧ n ≤ 10 ∧ 1 ≤ k ∧ k ≤ n))) (c := 2) (z_bl_f g2) (by omega)) (mH_at hA (k := 40) (by decide)) (by decide) (Nat.le_of_ble_eq_true rfl) ⟨Nat.zero_le _, Nat.zero_le _⟩ (fun _ _ q => q.elim) (fun v4 h4 q4 => ?_)
      obtain ⟨rfl, rfl⟩ := q4
      refine z_ifeq hY eX8_form_23 (by omega) (fun c => absurd c (by omega)) (fun _ => ?_)
      refine z_const hY eX8_form_26 ?_
      refine z_goto hY eX8_form_27 ?_
      exact z_ireturn hY eX8_form_37 rfl (by rw [hφ]; exact ⟨2, _, _, rfl, rfl, by unfold S_form; (repeat' split) <;> first | exact ⟨rfl, rfl, rfl⟩ | exact ⟨rfl, by omega, rfl⟩ | exact ⟨rfl, rfl⟩ | (exfalso; omega)⟩) ⟨Nat.zero_le _, Nat.zero_le _⟩
  · refine z_callV (As := [z_i e]) (rest := []) hY eX8_form_7 (m_noE_f hG hA hB hV h00 (by omega) g1) (mH_at hA (k := 40) (by decide)) (by decide) (Nat.le_of_ble_eq_true rfl) ⟨Nat.zero_le _, Nat.zero_le _⟩ (fun _ _ q => q.elim) (fun v5 h5 q5 => ?_)
    obtain ⟨rfl, rfl⟩ := q5
    refine z_ifne hY eX8_form_10 (by omega) (fun _ => ?_) (fun c => absurd c (by omega))
    refine z_const hY eX8_form_26 ?_
    refine z_goto hY eX8_form_27 ?_
    exact z_ireturn hY eX8_form_37 rfl (by rw [hφ]; exact ⟨1, _, _, rfl, rfl, by unfold S_form; (repeat' split) <;> first | exact ⟨rfl, rfl, rfl⟩ | exact ⟨rfl, by omega, rfl⟩ | exact ⟨rfl, rfl⟩ | (exfalso; omega)⟩) ⟨Nat.zero_le _, Nat.zero_le _⟩
theorem m_formOf2 {G : z_G} {A : Nat → Nat} {τ : z_S} {h : z_H} (hG : z_OK G) (hA : mI A) (hB : mB τ) (hV : mV τ) {R : Int → Int} (hR : ∀ i, -1000000 ≤ R i ∧ R i ≤ 1000000) {e k n : Int} (he : 0 ≤ e ∧ e < 30) (hf0 : 1 ≤ n ∧ n ≤ 10 ∧ 1 ≤ k ∧ k ≤ n) : z_T G mX8_formOf [.ref (A 40), z_i e, z_i k, z_i n] (mH A (z_ur τ 31 R) h) 0 0 0 (fun v h' => ∃ R' : Int → Int, v = some (z_i (yFo τ e k n)) ∧ h' = mH A (z_ur τ 31 R') h ∧ ∀ i, -1000000 ≤ R' i ∧ R' i ≤ 1000000) z_no := by
  refine z_T.mono (m_formOf (σ := z_ur τ 31 R) hG hA (mB_ur hB hR) (show mV (z_ur τ 31 R) from hV) he hf0) (fun v h' q => ?_) (fun _ _ q => q)
  obtain ⟨q1, q2⟩ := q
  refine ⟨yRw (z_ur τ 31 R) e (z_ur τ 31 R 31) n.toNat, ?_, ?_, ?_⟩
  · rw [q1]
    exact congrArg (fun q => some (z_i q)) (z_sm_congr fun i h1 h2 => yRw_congr (ρ := z_ur τ 31 R) (σ := τ) rfl rfl n.toNat i h1 (by omega))
  · rw [q2]
    refine congrArg (fun q => mH A q h) ?_
    funext k' j
    unfold z_ur
    by_cases hk : k' = 31
    · rw [if_pos hk, if_pos hk]
    · rw [if_neg hk, if_neg hk, if_neg hk]
  · exact yRw_b (mB_ur hB hR) (fun i => mB_ur hB hR 31 i) _
theorem mEqv_ur {σ : z_S} {f : Int → Int} : mEqv (z_ur σ 31 f) σ := ⟨rfl, rfl, rfl, rfl, rfl, rfl⟩
def yIf (σ : z_S) (k n : Int) : Int := z_fl (fun t o => if t = -1 ∨ yFo σ t k n < yFo σ (ea σ (o + 1)) k n then ea σ (o + 1) else t) (-1) (my σ)
def S_inForm (σ : z_S) (k n : Int) (c r : Int) (ρ : z_S) : Prop := if 1 ≤ n ∧ n ≤ 10 ∧ 1 ≤ k ∧ k ≤ n then (if 0 < my σ then c = 0 ∧ r = yIf σ k n ∧ ∃ R : Int → Int, ρ = z_ur σ 31 R ∧ ∀ i, -1000000 ≤ R i ∧ R i ≤ 1000000 else c = 2 ∧ ρ = z_u σ 0 0 2) else c = 1 ∧ ρ = z_u σ 0 0 1
theorem p_inForm {G : z_G} {A : Nat → Nat} {σ τ : z_S} {h : z_H} (hτ : z_u σ 0 0 0 = τ) (hG : z_OK G) (hA : mI A) (hB : mB τ) (hV : mV τ) {k n : Int} (hr : -2147483648 ≤ k ∧ k ≤ 2147483647 ∧ -2147483648 ≤ n ∧ n ≤ 2147483647) (hE : mE τ) : z_T G mX8_inForm [.ref (A 40), z_i k, z_i n] (mH A σ h) 7 0 0 (fun v h' => ∃ (c r : Int) (ρ : z_S), v = some (z_i r) ∧ h' = mH A ρ h ∧ S_inForm τ k n c r ρ) (z_no) := by
  have h00 : τ 0 0 = 0 := by rw [← hτ]; rfl
  obtain ⟨hf, hsc, hcm, hcr, hth, hgr, hlm, hld, hlo, hro, htm, hre, hpa, htp, hgp⟩ := id hV
  refine z_T_of hG pX8_inForm (Nat.le_of_ble_eq_true rfl) (ls0 := [(0, .ref (A 40)), (1, z_i k), (2, z_i n)]) rfl fun Y hY hg hmc hms hφ hψ => ?_
  subst hg
  refine z_aload hY eX8_inForm_0 0 rfl ?_
  refine z_const hY eX8_inForm_1 ?_
  refine m_pf hY hA eX8_inForm_2 (by decide) ?_
  rw [hτ]
  refine z_aload hY eX8_inForm_5 0 rfl ?_
  refine z_iload hY eX8_inForm_6 1 rfl ?_
  refine z_iload hY eX8_inForm_7 2 rfl ?_
  refine z_callSr (As := [z_i k, z_i n]) (rest := [.ref (A 40)]) (r := z_i (z_bl (1 ≤ n ∧ n ≤ 10 ∧ 1 ≤ k ∧ k ≤ n))) hY eX8_inForm_8 (m_isForm hG (by omega)) (by decide) (Nat.le_of_ble_eq_true rfl) ⟨Nat.zero_le _, Nat.zero_le _⟩ ?_
  refine z_const hY eX8_inForm_11 ?_
  have hgb := z_bl01 (1 ≤ n ∧ n ≤ 10 ∧ 1 ≤ k ∧ k ≤ n)
  by_cases g1 : 1 ≤ n ∧ n ≤ 10 ∧ 1 ≤ k ∧ k ≤ n
  · refine z_callVr (As := [z_i (z_bl (1 ≤ n ∧ n ≤ 10 ∧ 1 ≤ k ∧ k ≤ n)), z_i 1]) (rest := []) (r := z_i 0) hY eX8_inForm_12 (m_fails_t hG hA hB h00 (g := (z_bl (1 ≤ n ∧ n ≤ 10 ∧ 1 ≤ k ∧ k ≤ n))) (c := 1) (by rw [z_bl_t g1]; omega) (by omega)) (mH_at hA (k := 40) (by decide)) (by decide) (Nat.le_of_ble_eq_true rfl) ⟨Nat.zero_le _, Nat.zero_le _⟩ ?_
    refine z_ifne hY eX8_inForm_15 (by omega) (fun c => absurd c (by omega)) (fun _ => ?_)
    refine z_aload hY eX8_inForm_18 0 rfl ?_
    refine z_aload hY eX8_inForm_19 0 rfl ?_
    refine z_callVr (As := []) (rest := [.ref (A 40)]) (r := z_i (my τ)) hY eX8_inForm_20 (m_many (σ := τ) hG hA hB hV) (mH_at hA (k := 40) (by decide)) (by decide) (Nat.le_of_ble_eq_true rfl) ⟨Nat.zero_le _, Nat.zero_le _⟩ ?_
    have hmy := my_b hV
    refine z_ifle hY eX8_inForm_23 (by omega) (fun c23 => ?_) (fun c23 => ?_)
    · refine z_const hY eX8_inForm_30 ?_
      refine z_const hY eX8_inForm_31 ?_
      refine z_callV (As := [z_i 0, z_i 2]) (rest := []) hY eX8_inForm_32 (m_fails_f hG hA hB h00 (g := 0) (c := 2) (by omega) (by omega)) (mH_at hA (k := 40) (by decide)) (by decide) (Nat.le_of_ble_eq_true rfl) ⟨Nat.zero_le _, Nat.zero_le _⟩ (fun _ _ q => q.elim) (fun v2 h2 q2 => ?_)
      obtain ⟨rfl, rfl⟩ := q2
      refine z_ifeq hY eX8_inForm_35 (by omega) (fun c => absurd c (by omega)) (fun _ => ?_)
      refine z_const hY eX8_inForm_38 ?_
      exact z_ireturn hY eX8_inForm_39 rfl (by rw [hφ]; exact ⟨2, _, _, rfl, rfl, by unfold S_inForm; (repeat' split) <;> first | exact ⟨rfl, rfl, rfl⟩ | exact ⟨rfl, by omega, rfl⟩ | exact ⟨rfl, rfl⟩ | (exfalso; omega)⟩) ⟨Nat.zero_le _, Nat.zero_le _⟩
    · refine z_const hY eX8_inForm_26 ?_
      refine z_goto hY eX8_inForm_27 ?_
      refine z_const hY eX8_inForm_31 ?_
      refine z_callVr (As := [z_i 1, z_i 2]) (rest := []) (r := z_i 0) hY eX8_inForm_32 (m_fails_t hG hA hB h00 (g := 1) (c := 2) (by omega) (by omega)) (mH_at hA (k := 40) (by decide)) (by decide) (Nat.le_of_ble_eq_true rfl) ⟨Nat.zero_le _, Nat.zero_le _⟩ ?_
      refine z_ifeq hY eX8_inForm_35 (by omega) (fun _ => ?_) (fun c => absurd c (by omega))
      refine z_const hY eX8_inForm_40 ?_
      refine z_istore hY eX8_inForm_41 (ls' := [(3, z_i (-1)), (0, .ref (A 40)), (1, z_i k), (2, z_i n)]) rfl ?_
      refine z_const hY eX8_inForm_42 ?_
      refine z_istore hY eX8_inForm_43 (ls' := [(4, z_i 1), (3, z_i (-1)), (0, .ref (A 40)), (1, z_i k), (2, z_i n)]) rfl ?_
      refine z_sub [2, 3, 4, 0, 1] (ls' := [(0, .ref (A 40)), (1, z_i k), (2, z_i n), (4, z_i 1), (3, z_i (-1))]) rfl ?_
      have lp45 : ∀ (fu : Nat) (p : Int) (t : Int) (R : Int → Int), (my τ + 1 - p).toNat < fu → (1 ≤ p ∧ p ≤ my τ + 1) → (-1 ≤ t ∧ t < 30) → (t = z_fl (fun t o => if t = -1 ∨ yFo τ t k n < yFo τ (ea τ (o + 1)) k n then ea τ (o + 1) else t) (-1) (p - 1)) → (∀ i, -1000000 ≤ R i ∧ R i ≤ 1000000) → z_W Y 45 [(0, .ref (A 40)), (1, z_i k), (2, z_i n), (4, z_i p), (3, z_i t)] [] (mH A (z_ur τ 31 (R)) h) 0 0 := by
        intro fu
        induction fu with
        | zero => intro p t R hf; exact absurd hf (Nat.not_lt_zero _)
        | succ fu ih45 =>
          intro p t R hf h0 ht hn hR
          refine z_iload hY eX8_inForm_45 3 rfl ?_
          refine z_aload hY eX8_inForm_47 0 rfl ?_
          refine z_callVr (As := []) (rest := [z_i p]) (r := z_i (my τ)) hY eX8_inForm_48 (my_congr (mEqv_ur (σ := τ) (f := R)) ▸ m_many (σ := z_ur τ 31 R) hG hA (mB_ur hB hR) hV) (mH_at hA (k := 40) (by decide)) (by decide) (Nat.le_of_ble_eq_true rfl) ⟨Nat.zero_le _, Nat.zero_le _⟩ ?_
          have hmy := my_b hV
          refine z_icmpgt hY eX8_inForm_51 (by omega) (fun c51 => ?_) (fun c51 => ?_)
          · refine z_iload hY eX8_inForm_94 4 rfl ?_
            exact z_ireturn hY eX8_inForm_95 rfl (by rw [hφ]; exact ⟨0, _, _, rfl, rfl, by unfold S_inForm; rw [if_pos (by omega), if_pos (by omega)]; exact ⟨rfl, by rw [hn, show p - 1 = my τ by omega]; rfl, R, rfl, hR⟩⟩) ⟨Nat.zero_le _, Nat.zero_le _⟩
          · refine z_aload hY eX8_inForm_54 0 rfl ?_
            refine z_iload hY eX8_inForm_55 3 rfl ?_
            refine z_callVr (As := [z_i p]) (rest := []) (r := z_i (ea τ p)) hY eX8_inForm_57 (ea_congr (mEqv_ur (σ := τ) (f := R)) p ▸ m_entrantAt (σ := z_ur τ 31 R) hG hA (mB_ur hB hR) hV (by omega)) (mH_at hA (k := 40) (by decide)) (by decide) (Nat.le_of_ble_eq_true rfl) ⟨Nat.zero_le _, Nat.zero_le _⟩ ?_
            have heb := ea_b hV (p := p)
            have hE1 := hE p (by omega) (by omega)
            refine z_istore hY eX8_inForm_60 (ls' := [(5, z_i (ea τ p)), (0, .ref (A 40)), (1, z_i k), (2, z_i n), (4, z_i p), (3, z_i t)]) rfl ?_
            refine z_iload hY eX8_inForm_62 5 rfl ?_
            refine z_const hY eX8_inForm_63 ?_
            refine z_icmpeq hY eX8_inForm_64 (by omega) (fun c64 => ?_) (fun c64 => ?_)
            · refine z_iload hY eX8_inForm_85 0 rfl ?_
              refine z_istore hY eX8_inForm_87 (ls' := [(3, z_i (ea τ p)), (5, z_i (ea τ p)), (0, .ref (A 40)), (1, z_i k), (2, z_i n), (4, z_i p)]) rfl ?_
              refine z_iinc hY eX8_inForm_88 5 rfl (ls' := [(4, z_i (p + 1)), (3, z_i (ea τ p)), (5, z_i (ea τ p)), (0, .ref (A 40)), (1, z_i k), (2, z_i n)]) rfl ?_
              refine z_goto hY eX8_inForm_91 ?_
              refine z_sub [3, 4, 5, 0, 1] (ls' := [(0, .ref (A 40)), (1, z_i k), (2, z_i n), (4, z_i (p + 1)), (3, z_i (ea τ p))]) rfl ?_
              exact ih45 (p + 1) (ea τ p) R (by omega) (by omega) (by omega) (by rw [show p + 1 - 1 = p - 1 + 1 by omega, z_flS (by omega), ← hn, show p - 1 + 1 = p by omega]; split <;> omega) (by assumption)
            · refine z_aload hY eX8_inForm_67 1 rfl ?_
              refine z_iload hY eX8_inForm_68 0 rfl ?_
              refine z_iload hY eX8_inForm_70 2 rfl ?_
              refine z_iload hY eX8_inForm_71 3 rfl ?_
              refine z_callV (As := [z_i (ea τ p), z_i k, z_i n]) (rest := []) hY eX8_inForm_72 (m_formOf2 hG hA hB hV hR (by omega) (by omega)) (mH_at hA (k := 40) (by decide)) (by decide) (Nat.le_of_ble_eq_true rfl) ⟨Nat.zero_le _, Nat.zero_le _⟩ (fun _ _ q => q.elim) (fun v4 h4 q4 => ?_)
              obtain ⟨R3, rfl, rfl, hR3⟩ := q4
              have hfo4 := yFo_b hB (e := (ea τ p)) (k := k) (n := n) (by omega)
              refine z_aload hY eX8_inForm_75 1 rfl ?_
              refine z_iload hY eX8_inForm_76 5 rfl ?_
              refine z_iload hY eX8_inForm_77 2 rfl ?_
              refine z_iload hY eX8_inForm_78 3 rfl ?_
              refine z_callV (As := [z_i t, z_i k, z_i n]) (rest := [z_i (yFo τ (ea τ p) k n)]) hY eX8_inForm_79 (m_formOf2 hG hA hB hV hR3 (by omega) (by omega)) (mH_at hA (k := 40) (by decide)) (by decide) (Nat.le_of_ble_eq_true rfl) ⟨Nat.zero_le _, Nat.zero_le _⟩ (fun _ _ q => q.elim) (fun v6 h6 q6 => ?_)
              obtain ⟨R5, rfl, rfl, hR5⟩ := q6
              have hfo6 := yFo_b hB (e := t) (k := k) (n := n) (by omega)
              refine z_icmple hY eX8_inForm_82 (by omega) (fun c82 => ?_) (fun c82 => ?_)
              · refine z_iinc hY eX8_inForm_88 4 rfl (ls' := [(4, z_i (p + 1)), (5, z_i (ea τ p)), (0, .ref (A 40)), (1, z_i k), (2, z_i n), (3, z_i t)]) rfl ?_
                refine z_goto hY eX8_inForm_91 ?_
                refine z_sub [2, 3, 4, 0, 5] (ls' := [(0, .ref (A 40)), (1, z_i k), (2, z_i n), (4, z_i (p + 1)), (3, z_i t)]) rfl ?_
                exact ih45 (p + 1) t R5 (by omega) (by omega) (by omega) (by rw [show p + 1 - 1 = p - 1 + 1 by omega, z_flS (by omega), ← hn, show p - 1 + 1 = p by omega]; split <;> omega) (by assumption)
              · refine z_iload hY eX8_inForm_85 0 rfl ?_
                refine z_istore hY eX8_inForm_87 (ls' := [(3, z_i (ea τ p)), (5, z_i (ea τ p)), (0, .ref (A 40)), (1, z_i k), (2, z_i n), (4, z_i p)]) rfl ?_
                refine z_iinc hY eX8_inForm_88 5 rfl (ls' := [(4, z_i (p + 1)), (3, z_i (ea τ p)), (5, z_i (ea τ p)), (0, .ref (A 40)), (1, z_i k), (2, z_i n)]) rfl ?_
                refine z_goto hY eX8_inForm_91 ?_
                refine z_sub [3, 4, 5, 0, 1] (ls' := [(0, .ref (A 40)), (1, z_i k), (2, z_i n), (4, z_i (p + 1)), (3, z_i (ea τ p))]) rfl ?_
                exact ih45 (p + 1) (ea τ p) R5 (by omega) (by omega) (by omega) (by rw [show p + 1 - 1 = p - 1 + 1 by omega, z_flS (by omega), ← hn, show p - 1 + 1 = p by omega]; split <;> omega) (by assumption)
      refine z_heq (congrArg (fun q => mH A q h) (show τ = z_ur τ 31 (τ 31) from (z_ur_id (fun i => rfl)))) ?_
      exact lp45 _ 1 (-1) (τ 31) (Nat.lt_succ_self _) (by omega) (by omega) (z_fl0 (by omega)).symm (hB 31)
  · refine z_callV (As := [z_i (z_bl (1 ≤ n ∧ n ≤ 10 ∧ 1 ≤ k ∧ k ≤ n)), z_i 1]) (rest := []) hY eX8_inForm_12 (m_fails_f hG hA hB h00 (g := (z_bl (1 ≤ n ∧ n ≤ 10 ∧ 1 ≤ k ∧ k ≤ n))) (c := 1) (z_bl_f g1) (by omega)) (mH_at hA (k := 40) (by decide)) (by decide) (Nat.le_of_ble_eq_true rfl) ⟨Nat.zero_le _, Nat.zero_le _⟩ (fun _ _ q => q.elim) (fun v7 h7 q7 => ?_)
    obtain ⟨rfl, rfl⟩ := q7
    refine z_ifne hY eX8_inForm_15 (by omega) (fun _ => ?_) (fun c => absurd c (by omega))
    refine z_const hY eX8_inForm_38 ?_
    exact z_ireturn hY eX8_inForm_39 rfl (by rw [hφ]; exact ⟨1, _, _, rfl, rfl, by unfold S_inForm; (repeat' split) <;> first | exact ⟨rfl, rfl, rfl⟩ | exact ⟨rfl, by omega, rfl⟩ | exact ⟨rfl, rfl⟩ | (exfalso; omega)⟩) ⟨Nat.zero_le _, Nat.zero_le _⟩
def S_endRound (σ : z_S)  (c r : Int) (ρ : z_S) : Prop := if σ 30 0 < 200 then c = 0 ∧ r = σ 30 0 ∧ ρ = yEr σ else c = 1 ∧ ρ = z_u σ 0 0 1
theorem p_endRound {G : z_G} {A : Nat → Nat} {σ τ : z_S} {h : z_H} (hτ : z_u σ 0 0 0 = τ) (hG : z_OK G) (hA : mI A) (hB : mB τ) (hV : mV τ) (hD : mD τ) (hbe : ∀ i, -100000 ≤ τ 17 i ∧ τ 17 i ≤ 100000) : z_T G mX8_endRound [.ref (A 40)] (mH A σ h) 4 0 0 (fun v h' => ∃ (c r : Int) (ρ : z_S), v = some (z_i r) ∧ h' = mH A ρ h ∧ S_endRound τ  c r ρ) (z_no) := by
  have h00 : τ 0 0 = 0 := by rw [← hτ]; rfl
  obtain ⟨hf, hsc, hcm, hcr, hth, hgr, hlm, hld, hlo, hro, htm, hre, hpa, htp, hgp⟩ := id hV
  have hpb : ∀ e, 0 ≤ e → e ≤ 100 → 1 ≤ pl τ e ∧ pl τ e ≤ 200 := fun e h1 h2 => pl_b hV ⟨h1, h2⟩
  have hf24 : ∀ i, 0 ≤ ylk τ i ∧ ylk τ i < 30 := fun i => by unfold ylk; split; exact hld i; exact hlo i
  have hf21 : ∀ i, 0 ≤ yFa τ i ∧ yFa τ i < 30 := yFs_b hV _
  have hb24 : ∀ i, -1000000 ≤ ylk τ i ∧ ylk τ i ≤ 1000000 := fun i => by have := hf24 i; omega
  have hb21 : ∀ i, -1000000 ≤ yFa τ i ∧ yFa τ i ≤ 1000000 := fun i => by have := hf21 i; omega
  have hgv : ∀ e, -1000000 ≤ ygv τ e ∧ ygv τ e ≤ 1000000 := fun e => by have := hsc (4 * e); have := hbe e; unfold ygv; split <;> omega
  have hb28 : ∀ n i, -1000000 ≤ yG τ n i ∧ yG τ n i ≤ 1000000 := fun n i => by unfold yG; split; exact hgv _; exact hB _ _
  have hb29 : ∀ n i, -1000000 ≤ yP τ n i ∧ yP τ n i ≤ 1000000 := fun n i => by unfold yP; split; unfold ypv; split; (have := hpb (i / 20) (by omega) (by omega); omega); omega; exact hB _ _
  have hb17 : ∀ n i, -1000000 ≤ yBg τ n i ∧ yBg τ n i ≤ 1000000 := fun n i => by have := hsc (4 * i); unfold yBg; split; omega; exact hB _ _
  refine z_T_of hG pX8_endRound (Nat.le_of_ble_eq_true rfl) (ls0 := [(0, .ref (A 40))]) rfl fun Y hY hg hmc hms hφ hψ => ?_
  subst hg
  refine z_aload hY eX8_endRound_0 0 rfl ?_
  refine z_const hY eX8_endRound_1 ?_
  refine m_pf hY hA eX8_endRound_2 (by decide) ?_
  rw [hτ]
  refine z_aload hY eX8_endRound_5 0 rfl ?_
  refine z_aload hY eX8_endRound_6 0 rfl ?_
  have hb1 := hB 30 0
  refine m_gf hY hA eX8_endRound_7 (v := z_i (τ 30 0)) rfl ?_
  refine z_const hY eX8_endRound_10 ?_
  refine z_icmpge hY eX8_endRound_13 (by omega) (fun c13 => ?_) (fun c13 => ?_)
  · refine z_const hY eX8_endRound_20 ?_
    refine z_const hY eX8_endRound_21 ?_
    refine z_callV (As := [z_i 0, z_i 1]) (rest := []) hY eX8_endRound_22 (m_fails_f hG hA hB h00 (g := 0) (c := 1) (by omega) (by omega)) (mH_at hA (k := 40) (by decide)) (by decide) (Nat.le_of_ble_eq_true rfl) ⟨Nat.zero_le _, Nat.zero_le _⟩ (fun _ _ q => q.elim) (fun v2 h2 q2 => ?_)
    obtain ⟨rfl, rfl⟩ := q2
    refine z_ifeq hY eX8_endRound_25 (by omega) (fun c => absurd c (by omega)) (fun _ => ?_)
    refine z_const hY eX8_endRound_28 ?_
    exact z_ireturn hY eX8_endRound_29 rfl (by rw [hφ]; exact ⟨1, _, _, rfl, rfl, by unfold S_endRound; (repeat' split) <;> first | exact ⟨rfl, rfl, rfl⟩ | exact ⟨rfl, by omega, rfl⟩ | exact ⟨rfl, rfl⟩ | (exfalso; omega)⟩) ⟨Nat.zero_le _, Nat.zero_le _⟩
  · refine z_const hY eX8_endRound_16 ?_
    refine z_goto hY eX8_endRound_17 ?_
    refine z_const hY eX8_endRound_21 ?_
    refine z_callVr (As := [z_i 1, z_i 1]) (rest := []) (r := z_i 0) hY eX8_endRound_22 (m_fails_t hG hA hB h00 (g := 1) (c := 1) (by omega) (by omega)) (mH_at hA (k := 40) (by decide)) (by decide) (Nat.le_of_ble_eq_true rfl) ⟨Nat.zero_le _, Nat.zero_le _⟩ ?_
    refine z_ifeq hY eX8_endRound_25 (by omega) (fun _ => ?_) (fun c => absurd c (by omega))
    refine z_aload hY eX8_endRound_30 0 rfl ?_
    refine z_callV (As := []) (rest := []) hY eX8_endRound_31 (m_falls hG hA hB hV hD) (mH_at hA (k := 40) (by decide)) (by decide) (Nat.le_of_ble_eq_true rfl) ⟨Nat.zero_le _, Nat.zero_le _⟩ (fun _ _ q => q.elim) (fun v3 h3 q3 => ?_)
    obtain ⟨rfl, rfl⟩ := q3
    refine z_const hY eX8_endRound_34 ?_
    refine z_istore hY eX8_endRound_35 (ls' := [(1, z_i 0), (0, .ref (A 40))]) rfl ?_
    refine z_sub [1, 0] (ls' := [(0, .ref (A 40)), (1, z_i 0)]) rfl ?_
    have lp36 : ∀ (fu : Nat) (e : Int), (30 - e).toNat < fu → (0 ≤ e ∧ e ≤ 30) → z_W Y 36 [(0, .ref (A 40)), (1, z_i e)] [] (mH A (z_ur (z_ur (z_ur (z_ur τ 24 (ylk τ)) 21 (yFa τ)) 28 (yG τ e)) 29 (yP τ e)) h) 0 0 := by
      intro fu
      induction fu with
      | zero => intro e hf; exact absurd hf (Nat.not_lt_zero _)
      | succ fu ih36 =>
        intro e hf h0
        refine z_iload hY eX8_endRound_36 1 rfl ?_
        refine z_const hY eX8_endRound_37 ?_
        refine z_icmpge hY eX8_endRound_39 (by omega) (fun c39 => ?_) (fun c39 => ?_)
        · refine z_heq (congrArg (fun q => mH A q h) (show z_ur (z_ur (z_ur (z_ur τ 24 (ylk τ)) 21 (yFa τ)) 28 (yG τ e)) 29 (yP τ e) = z_ur (z_ur (z_ur (z_ur τ 24 (ylk τ)) 21 (yFa τ)) 28 (yG τ 30)) 29 (yP τ 30) from by rw [show e = 30 by omega])) ?_
          refine z_const hY eX8_endRound_129 ?_
          refine z_istore hY eX8_endRound_130 (ls' := [(1, z_i 0), (0, .ref (A 40))]) rfl ?_
          refine z_sub [1, 0] (ls' := [(0, .ref (A 40)), (1, z_i 0)]) rfl ?_
          have lp131 : ∀ (fu : Nat) (e : Int), (τ 19 0 - e).toNat < fu → (0 ≤ e ∧ e ≤ τ 19 0) → z_W Y 131 [(0, .ref (A 40)), (1, z_i e)] [] (mH A (z_ur (z_ur (z_ur (z_ur (z_ur τ 24 (ylk τ)) 21 (yFa τ)) 28 (yG τ 30)) 29 (yP τ 30)) 17 (yBg τ e)) h) 0 0 := by
            intro fu
            induction fu with
            | zero => intro e hf; exact absurd hf (Nat.not_lt_zero _)
            | succ fu ih131 =>
              intro e hf h0
              refine z_iload hY eX8_endRound_131 1 rfl ?_
              refine z_aload hY eX8_endRound_132 0 rfl ?_
              have hb4 := hB 19 0
              refine m_gf hY hA eX8_endRound_133 (v := z_i (τ 19 0)) (by simp [mF, z_u, z_ur]) ?_
              refine z_icmpge hY eX8_endRound_136 (by omega) (fun c136 => ?_) (fun c136 => ?_)
              · obtain rfl : e = τ 19 0 := by omega
                refine z_aload hY eX8_endRound_156 0 rfl ?_
                refine z_dup hY eX8_endRound_157 rfl ?_
                refine m_gf hY hA eX8_endRound_158 (v := z_i (τ 30 0)) (by simp [mF, z_u, z_ur]) ?_
                refine z_const hY eX8_endRound_161 ?_
                refine z_iadd hY eX8_endRound_162 ?_
                refine m_pf hY hA eX8_endRound_163 (by decide) ?_
                refine z_aload hY eX8_endRound_166 0 rfl ?_
                refine m_gf hY hA eX8_endRound_167 (v := z_i ((τ 30 0) + 1)) (by simp [mF, z_u, z_ur]) ?_
                refine z_const hY eX8_endRound_170 ?_
                refine z_isub hY eX8_endRound_171 ?_
                refine z_top (b := τ 30 0) (by omega) ?_
                exact z_ireturn hY eX8_endRound_172 rfl (by rw [hφ]; exact ⟨0, _, _, rfl, rfl, by unfold S_endRound; rw [if_pos (by omega)]; exact ⟨rfl, by omega, rfl⟩⟩) ⟨Nat.zero_le _, Nat.zero_le _⟩
              · refine z_aload hY eX8_endRound_139 0 rfl ?_
                refine m_gf hY hA eX8_endRound_140 (v := .ref (A 17)) rfl ?_
                refine z_iload hY eX8_endRound_143 1 rfl ?_
                refine z_aload hY eX8_endRound_144 0 rfl ?_
                refine z_iload hY eX8_endRound_145 1 rfl ?_
                have hB5 : mB (z_ur (z_ur (z_ur (z_ur (z_ur τ 24 (ylk τ)) 21 (yFa τ)) 28 (yG τ 30)) 29 (yP τ 30)) 17 (yBg τ e)) := mB_ur (mB_ur (mB_ur (mB_ur (mB_ur hB hb24) hb21) (hb28 _)) (hb29 _)) (hb17 _)
                have hV5 : mV (z_ur (z_ur (z_ur (z_ur (z_ur τ 24 (ylk τ)) 21 (yFa τ)) 28 (yG τ 30)) 29 (yP τ 30)) 17 (yBg τ e)) := mV_f hV (f := ylk τ) (g := yFa τ) hf24 hf21
                refine z_callVr (As := [z_i e]) (rest := [z_i e, .ref (A 17)]) (r := z_i (τ 14 (4 * e))) hY eX8_endRound_146 (m_points hG hA hB5 (by omega)) (mH_at hA (k := 40) (by decide)) (by decide) (Nat.le_of_ble_eq_true rfl) ⟨Nat.zero_le _, Nat.zero_le _⟩ ?_
                refine m_ias hY hA eX8_endRound_149 (j := 17) (N := 30) (by decide) (fun _ => rfl) (by omega) ?_
                refine z_iinc hY eX8_endRound_150 1 rfl (ls' := [(1, z_i (e + 1)), (0, .ref (A 40))]) rfl ?_
                refine z_goto hY eX8_endRound_153 ?_
                refine z_sub [1, 0] (ls' := [(0, .ref (A 40)), (1, z_i (e + 1))]) rfl ?_
                refine z_heq (congrArg (fun q => mH A q h) (show z_u (z_ur (z_ur (z_ur (z_ur (z_ur τ 24 (ylk τ)) 21 (yFa τ)) 28 (yG τ 30)) 29 (yP τ 30)) 17 (yBg τ e)) 17 e (τ 14 (4 * e)) = z_ur (z_ur (z_ur (z_ur (z_ur τ 24 (ylk τ)) 21 (yFa τ)) 28 (yG τ 30)) 29 (yP τ 30)) 17 (yBg τ (e + 1)) from (z_ur_u (if_pos (by omega)) (fun j hj => by show ite _ _ _ = ite _ _ _; split <;> split <;> first | rfl | (exfalso; omega))))) ?_
                exact ih131 (e + 1) (by omega) (by omega)
          refine z_heq (congrArg (fun q => mH A q h) (show z_ur (z_ur (z_ur (z_ur τ 24 (ylk τ)) 21 (yFa τ)) 28 (yG τ 30)) 29 (yP τ 30) = z_ur (z_ur (z_ur (z_ur (z_ur τ 24 (ylk τ)) 21 (yFa τ)) 28 (yG τ 30)) 29 (yP τ 30)) 17 (yBg τ 0) from (z_ur_id (fun i => if_neg (by omega))))) ?_
          exact lp131 _ 0 (Nat.lt_succ_self _) (by omega)
        · have hJ6 : z_W Y 64 [(0, .ref (A 40)), (1, z_i e)] [z_i (z_bl (e < τ 19 0 ∧ τ 18 e ≠ 0))] (mH A (z_ur (z_ur (z_ur (z_ur τ 24 (ylk τ)) 21 (yFa τ)) 28 (yG τ e)) 29 (yP τ e)) h) 0 0 := by
            refine z_istore hY eX8_endRound_64 (ls' := [(2, z_i (z_bl (e < τ 19 0 ∧ τ 18 e ≠ 0))), (0, .ref (A 40)), (1, z_i e)]) rfl ?_
            refine z_aload hY eX8_endRound_65 1 rfl ?_
            refine m_gf hY hA eX8_endRound_66 (v := .ref (A 28)) rfl ?_
            refine z_const hY eX8_endRound_69 ?_
            refine z_iload hY eX8_endRound_72 2 rfl ?_
            refine z_imul hY eX8_endRound_73 ?_
            refine z_aload hY eX8_endRound_74 1 rfl ?_
            refine m_gf hY hA eX8_endRound_75 (v := z_i (τ 30 0)) (by simp [mF, z_u, z_ur]) ?_
            refine z_iadd hY eX8_endRound_78 ?_
            have hJ7 : z_W Y 92 [(2, z_i (z_bl (e < τ 19 0 ∧ τ 18 e ≠ 0))), (0, .ref (A 40)), (1, z_i e)] [z_i (ygv τ e), z_i (200 * e + (τ 30 0)), .ref (A 28)] (mH A (z_ur (z_ur (z_ur (z_ur τ 24 (ylk τ)) 21 (yFa τ)) 28 (yG τ e)) 29 (yP τ e)) h) 0 0 := by
              refine m_ias hY hA eX8_endRound_92 (j := 28) (N := 6000) (by decide) (fun _ => rfl) (by omega) ?_
              refine z_aload hY eX8_endRound_93 1 rfl ?_
              refine m_gf hY hA eX8_endRound_94 (v := .ref (A 29)) rfl ?_
              refine z_const hY eX8_endRound_97 ?_
              refine z_iload hY eX8_endRound_99 2 rfl ?_
              refine z_imul hY eX8_endRound_100 ?_
              refine z_aload hY eX8_endRound_101 1 rfl ?_
              refine m_gf hY hA eX8_endRound_102 (v := z_i (τ 30 0)) (by simp [mF, z_u, z_ur]) ?_
              refine z_const hY eX8_endRound_105 ?_
              refine z_irem hY eX8_endRound_107 (by omega) ?_
              refine z_iadd hY eX8_endRound_108 ?_
              have hJ8 : z_W Y 122 [(2, z_i (z_bl (e < τ 19 0 ∧ τ 18 e ≠ 0))), (0, .ref (A 40)), (1, z_i e)] [z_i (ypv τ e), z_i (20 * e + ((τ 30 0) % 20)), .ref (A 29)] (mH A (z_u (z_ur (z_ur (z_ur (z_ur τ 24 (ylk τ)) 21 (yFa τ)) 28 (yG τ e)) 29 (yP τ e)) 28 (200 * e + (τ 30 0)) (ygv τ e)) h) 0 0 := by
                refine m_ias hY hA eX8_endRound_122 (j := 29) (N := 600) (by decide) (fun _ => rfl) (by omega) ?_
                refine z_iinc hY eX8_endRound_123 2 rfl (ls' := [(1, z_i (e + 1)), (2, z_i (z_bl (e < τ 19 0 ∧ τ 18 e ≠ 0))), (0, .ref (A 40))]) rfl ?_
                refine z_goto hY eX8_endRound_126 ?_
                refine z_sub [2, 0] (ls' := [(0, .ref (A 40)), (1, z_i (e + 1))]) rfl ?_
                refine z_heq (congrArg (fun q => mH A q h) (show z_u (z_u (z_ur (z_ur (z_ur (z_ur τ 24 (ylk τ)) 21 (yFa τ)) 28 (yG τ e)) 29 (yP τ e)) 28 (200 * e + (τ 30 0)) (ygv τ e)) 29 (20 * e + ((τ 30 0) % 20)) (ypv τ e) = z_ur (z_ur (z_ur (z_ur τ 24 (ylk τ)) 21 (yFa τ)) 28 (yG τ (e + 1))) 29 (yP τ (e + 1)) from (yE_s h0 (by omega) (by omega)))) ?_
                exact ih36 (e + 1) (by omega) (by omega)
              refine z_iload hY eX8_endRound_109 0 rfl ?_
              refine z_ifeqb hY eX8_endRound_110 (fun c110 => ?_) (fun c110 => ?_)
              · refine z_const hY eX8_endRound_121 ?_
                refine z_top (b := ypv τ e) (by unfold ypv; first | exact (if_pos (by omega)).symm | exact (if_neg (by omega)).symm) ?_
                exact hJ8
              · refine z_aload hY eX8_endRound_113 1 rfl ?_
                refine z_iload hY eX8_endRound_114 2 rfl ?_
                have hB9 : mB (z_u (z_ur (z_ur (z_ur (z_ur τ 24 (ylk τ)) 21 (yFa τ)) 28 (yG τ e)) 29 (yP τ e)) 28 (200 * e + (τ 30 0)) (ygv τ e)) := mB_u (mB_ur (mB_ur (mB_ur (mB_ur hB hb24) hb21) (hb28 _)) (hb29 _)) (hgv _)
                have hV9 : mV (z_u (z_ur (z_ur (z_ur (z_ur τ 24 (ylk τ)) 21 (yFa τ)) 28 (yG τ e)) 29 (yP τ e)) 28 (200 * e + (τ 30 0)) (ygv τ e)) := mV_f hV (f := ylk τ) (g := yFa τ) hf24 hf21
                refine z_callVr (As := [z_i e]) (rest := [z_i (20 * e + ((τ 30 0) % 20)), .ref (A 29)]) (r := z_i (pl τ e)) hY eX8_endRound_115 (pl_congr (ρ := z_u (z_ur (z_ur (z_ur (z_ur τ 24 (ylk τ)) 21 (yFa τ)) 28 (yG τ e)) 29 (yP τ e)) 28 (200 * e + (τ 30 0)) (ygv τ e)) (σ := τ) ⟨rfl, rfl, rfl, rfl, rfl, rfl⟩ e ▸ m_placeOf hG hA hB9 hV9 (by omega)) (mH_at hA (k := 40) (by decide)) (by decide) (Nat.le_of_ble_eq_true rfl) ⟨Nat.zero_le _, Nat.zero_le _⟩ ?_
                refine z_goto hY eX8_endRound_118 ?_
                refine z_top (b := ypv τ e) (by unfold ypv; first | exact (if_pos (by omega)).symm | exact (if_neg (by omega)).symm) ?_
                exact hJ8
            refine z_iload hY eX8_endRound_79 0 rfl ?_
            refine z_ifeqb hY eX8_endRound_80 (fun c80 => ?_) (fun c80 => ?_)
            · refine z_const hY eX8_endRound_91 ?_
              refine z_top (b := ygv τ e) (by unfold ygv; first | exact (if_pos (by omega)).symm | exact (if_neg (by omega)).symm) ?_
              exact hJ7
            · refine z_aload hY eX8_endRound_83 1 rfl ?_
              refine z_iload hY eX8_endRound_84 2 rfl ?_
              have hB10 : mB (z_ur (z_ur (z_ur (z_ur τ 24 (ylk τ)) 21 (yFa τ)) 28 (yG τ e)) 29 (yP τ e)) := mB_ur (mB_ur (mB_ur (mB_ur hB hb24) hb21) (hb28 _)) (hb29 _)
              have hV10 : mV (z_ur (z_ur (z_ur (z_ur τ 24 (ylk τ)) 21 (yFa τ)) 28 (yG τ e)) 29 (yP τ e)) := mV_f hV (f := ylk τ) (g := yFa τ) hf24 hf21
              refine z_callVr (As := [z_i e]) (rest := [z_i (200 * e + (τ 30 0)), .ref (A 28)]) (r := z_i ((τ 14 (4 * e)) - (τ 17 e))) hY eX8_endRound_85 (m_gainOf hG hA hB10 (by omega)) (mH_at hA (k := 40) (by decide)) (by decide) (Nat.le_of_ble_eq_true rfl) ⟨Nat.zero_le _, Nat.zero_le _⟩ ?_
              refine z_goto hY eX8_endRound_88 ?_
              refine z_top (b := ygv τ e) (by unfold ygv; first | exact (if_pos (by omega)).symm | exact (if_neg (by omega)).symm) ?_
              exact hJ7
          refine z_iload hY eX8_endRound_42 1 rfl ?_
          refine z_aload hY eX8_endRound_43 0 rfl ?_
          have hb11 := hB 19 0
          refine m_gf hY hA eX8_endRound_44 (v := z_i (τ 19 0)) (by simp [mF, z_u, z_ur]) ?_
          refine z_icmpge hY eX8_endRound_47 (by omega) (fun c47 => ?_) (fun c47 => ?_)
          · refine z_const hY eX8_endRound_63 ?_
            refine z_top (b := z_bl (e < τ 19 0 ∧ τ 18 e ≠ 0)) (by first | exact (z_bl_t (by omega)).symm | exact (z_bl_f (by omega)).symm) ?_
            exact hJ6
          · refine z_aload hY eX8_endRound_50 0 rfl ?_
            refine m_gf hY hA eX8_endRound_51 (v := .ref (A 18)) rfl ?_
            refine z_iload hY eX8_endRound_54 1 rfl ?_
            have hb12 := hB 18 e
            refine m_bal hY hA eX8_endRound_55 (j := 18) (N := 30) (x := τ 18 e) (by decide) rfl (by omega) (by simp [z_u, z_ur]) ?_
            refine z_ifeq hY eX8_endRound_56 (by omega) (fun c56 => ?_) (fun c56 => ?_)
            · refine z_const hY eX8_endRound_63 ?_
              refine z_top (b := z_bl (e < τ 19 0 ∧ τ 18 e ≠ 0)) (by first | exact (z_bl_t (by omega)).symm | exact (z_bl_f (by omega)).symm) ?_
              exact hJ6
            · refine z_const hY eX8_endRound_59 ?_
              refine z_goto hY eX8_endRound_60 ?_
              refine z_top (b := z_bl (e < τ 19 0 ∧ τ 18 e ≠ 0)) (by first | exact (z_bl_t (by omega)).symm | exact (z_bl_f (by omega)).symm) ?_
              exact hJ6
    refine z_heq (congrArg (fun q => mH A q h) (show z_ur (z_ur τ 24 (ylk τ)) 21 (yFa τ) = z_ur (z_ur (z_ur (z_ur τ 24 (ylk τ)) 21 (yFa τ)) 28 (yG τ 0)) 29 (yP τ 0) from (yE_0))) ?_
    exact lp36 _ 0 (Nat.lt_succ_self _) (by omega)
end M5
