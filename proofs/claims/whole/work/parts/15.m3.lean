/-! THE MODEL's groups and standings that are apart (laid by wip/whole/gen/gm3.py). -/
section M3
/-- every place up to the number of entrants has one -/
def mE (σ : z_S) : Prop := ∀ p, 1 ≤ p → p ≤ my σ → ea σ p ≠ -1
def ogL (σ : z_S) (g : Int) : Nat → Int → Int → Int
  | 0, _, _ => -1
  | f + 1, p, u => if σ 15 (ea σ p) ≠ g then ogL σ g f (p + 1) u else if u = 0 then ea σ p else ogL σ g f (p + 1) (u - 1)
def yOg (σ : z_S) (g i : Int) : Int := ogL σ g (my σ + 1 - 1).toNat 1 i
theorem og_s {σ : z_S} {g m p u : Int} (h : p < m) (h1 : σ 15 (ea σ p) ≠ g) : ogL σ g (m - p).toNat p u = ogL σ g (m - (p + 1)).toNat (p + 1) u := by
  rw [show (m - p).toNat = (m - (p + 1)).toNat + 1 by omega]
  exact if_pos h1
theorem og_r {σ : z_S} {g m p u : Int} (h : p < m) (h1 : σ 15 (ea σ p) = g) (h2 : u = 0) : ogL σ g (m - p).toNat p u = ea σ p := by
  rw [show (m - p).toNat = (m - (p + 1)).toNat + 1 by omega]
  show (if σ 15 (ea σ p) ≠ g then _ else if u = 0 then ea σ p else _) = _
  rw [if_neg (fun q => q h1), if_pos h2]
theorem og_d {σ : z_S} {g m p u : Int} (h : p < m) (h1 : σ 15 (ea σ p) = g) (h2 : u ≠ 0) : ogL σ g (m - p).toNat p u = ogL σ g (m - (p + 1)).toNat (p + 1) (u - 1) := by
  rw [show (m - p).toNat = (m - (p + 1)).toNat + 1 by omega]
  show (if σ 15 (ea σ p) ≠ g then _ else if u = 0 then ea σ p else _) = _
  rw [if_neg (fun q => q h1), if_neg h2]
theorem og_e {σ : z_S} {g m p u : Int} (h : m ≤ p) : ogL σ g (m - p).toNat p u = -1 := by
  rw [show (m - p).toNat = 0 by omega]
  rfl
theorem ogL_b {σ : z_S} (hE : mE σ) (hV : mV σ) {g : Int} : ∀ (f : Nat) (p u : Int), 1 ≤ p → p + f ≤ my σ + 1 → ogL σ g f p u = -1 ∨ (0 ≤ ogL σ g f p u ∧ ogL σ g f p u < σ 19 0 ∧ ogL σ g f p u < 30) := by
  intro f
  induction f with
  | zero => intro p u _ _; exact Or.inl rfl
  | succ f ih =>
    intro p u h1 h2
    show ite _ _ _ = _ ∨ (_ ≤ ite _ _ _ ∧ ite _ _ _ < _ ∧ ite _ _ _ < _)
    split
    · exact ih _ _ (by omega) (by omega)
    · split
      · have := hE p h1 (by omega)
        rcases ea_b hV (p := p) with h | h
        · exact absurd h this
        · exact Or.inr ⟨h.1, h.2.1, h.2.2.1⟩
      · exact ih _ _ (by omega) (by omega)
theorem yOg_b {σ : z_S} (hE : mE σ) (hV : mV σ) (g i : Int) : yOg σ g i = -1 ∨ (0 ≤ yOg σ g i ∧ yOg σ g i < σ 19 0 ∧ yOg σ g i < 30) := ogL_b hE hV _ _ _ (by omega) (by have := my_b hV; omega)
theorem ogL_m {σ : z_S} (hE : mE σ) {g : Int} : ∀ (f : Nat) (p u : Int), 1 ≤ p → p + f ≤ my σ + 1 → 0 ≤ u → ogL σ g f p (u + 1) ≠ -1 → ogL σ g f p u ≠ -1 := by
  intro f
  induction f with
  | zero => intro p u _ _ _ h; exact fun _ => h rfl
  | succ f ih =>
    intro p u h1 h2 h3
    show ite _ _ _ ≠ _ → ite _ _ _ ≠ _
    by_cases c1 : σ 15 (ea σ p) ≠ g
    · rw [if_pos c1, if_pos c1]
      exact ih _ _ (by omega) (by omega) h3
    · rw [if_neg c1, if_neg c1, if_neg (show ¬ u + 1 = 0 by omega)]
      intro h
      by_cases c2 : u = 0
      · rw [if_pos c2]; exact hE p h1 (by omega)
      · rw [if_neg c2]
        rw [show u + 1 - 1 = (u - 1) + 1 by omega] at h
        exact ih _ _ (by omega) (by omega) (by omega) h
theorem yOg_m {σ : z_S} (hE : mE σ) (hV : mV σ) (g : Int) {i : Int} (hi : 0 ≤ i) (h : yOg σ g (i + 1) ≠ -1) : yOg σ g i ≠ -1 := ogL_m hE _ _ _ (by omega) (by have := my_b hV; omega) hi h
def yTm (σ : z_S) (g : Int) : Int := if yOg σ g 2 = -1 then -1 else pl σ (yOg σ g 0) + pl σ (yOg σ g 1) + pl σ (yOg σ g 2)
theorem yTm_o {σ : z_S} (hE : mE σ) (hV : mV σ) {g : Int} (h : yTm σ g ≠ -1) : (0 ≤ yOg σ g 0 ∧ yOg σ g 0 < 30) ∧ (0 ≤ yOg σ g 1 ∧ yOg σ g 1 < 30) ∧ (0 ≤ yOg σ g 2 ∧ yOg σ g 2 < 30) := by
  have h2 : yOg σ g 2 ≠ -1 := fun e => h (if_pos e)
  have h1 : yOg σ g 1 ≠ -1 := yOg_m hE hV g (by omega) h2
  have h0 : yOg σ g 0 ≠ -1 := yOg_m hE hV g (by omega) h1
  have b0 := yOg_b hE hV g 0
  have b1 := yOg_b hE hV g 1
  have b2 := yOg_b hE hV g 2
  omega
theorem yTm_b {σ : z_S} (hE : mE σ) (hV : mV σ) (g : Int) : -1 ≤ yTm σ g ∧ yTm σ g ≤ 600 := by
  by_cases h : yOg σ g 2 = -1
  · rw [show yTm σ g = -1 from if_pos h]; omega
  · have e : yTm σ g = pl σ (yOg σ g 0) + pl σ (yOg σ g 1) + pl σ (yOg σ g 2) := if_neg h
    have h1 : yOg σ g 1 ≠ -1 := yOg_m hE hV g (by omega) h
    have h0 : yOg σ g 0 ≠ -1 := yOg_m hE hV g (by omega) h1
    have b0 := yOg_b hE hV g 0
    have b1 := yOg_b hE hV g 1
    have b2 := yOg_b hE hV g 2
    have c0 := pl_b hV (e := yOg σ g 0) (by omega)
    have c1 := pl_b hV (e := yOg σ g 1) (by omega)
    have c2 := pl_b hV (e := yOg σ g 2) (by omega)
    omega
abbrev yGa (σ : z_S) (g o : Int) : Prop := yTm σ g < yTm σ o ∨ (yTm σ g = yTm σ o ∧ pl σ (yOg σ g 0) < pl σ (yOg σ o 0))
abbrev yAq (σ : z_S) (r o e f : Int) : Prop := yPi σ r e ≠ -1 ∧ yPi σ r f ≠ -1 ∧ yPi σ o e ≠ -1 ∧ yPi σ o f ≠ -1 ∧ ¬ (yPi σ r e < yPi σ r f ↔ yPi σ o e < yPi σ o f)
def yAp (σ : z_S) (r o : Int) : Int := z_sm (fun e => z_sm (fun f => if yAq σ r o e f then (1 : Int) else 0) e) (σ 19 0)

theorem m_ofGroup {G : z_G} {A : Nat → Nat} {σ : z_S} {h : z_H} (hG : z_OK G) (hA : mI A) (hB : mB σ) (hV : mV σ) (hE : mE σ) {g i : Int} (hg0 : 0 ≤ g ∧ g ≤ 4) (hi : 0 ≤ i ∧ i ≤ 100) : z_Tr G mX8_ofGroup [.ref (A 40), z_i g, z_i i] (mH A σ h) 5 (z_i (yOg σ g i)) := by
  obtain ⟨hf, hsc, hcm, hcr, hth, hgr, hlm, hld, hlo, hro, htm, hre, hpa, htp, hgp⟩ := id hV
  refine z_T_of hG pX8_ofGroup (Nat.le_of_ble_eq_true rfl) (ls0 := [(0, .ref (A 40)), (1, z_i g), (2, z_i i)]) rfl fun Y hY hg hmc hms hφ hψ => ?_
  subst hg
  refine z_iload hY eX8_ofGroup_0 2 rfl ?_
  refine z_istore hY eX8_ofGroup_1 (ls' := [(3, z_i i), (0, .ref (A 40)), (1, z_i g), (2, z_i i)]) rfl ?_
  have hmy := my_b hV
  refine z_const hY eX8_ofGroup_2 ?_
  refine z_istore hY eX8_ofGroup_3 (ls' := [(4, z_i 1), (3, z_i i), (0, .ref (A 40)), (1, z_i g), (2, z_i i)]) rfl ?_
  refine z_sub [2, 3, 4, 0, 1] (ls' := [(0, .ref (A 40)), (1, z_i g), (2, z_i i), (4, z_i 1), (3, z_i i)]) rfl ?_
  have lp5 : ∀ (fu : Nat) (p : Int) (u : Int), (my σ + 1 - p).toNat < fu → 1 ≤ p ∧ p ≤ my σ + 1 → ogL σ g (my σ + 1 - p).toNat p u = yOg σ g i → -100 ≤ u + p ∧ u ≤ 100 → z_W Y 5 [(0, .ref (A 40)), (1, z_i g), (2, z_i i), (4, z_i p), (3, z_i u)] [] (mH A σ h) 0 0 := by
    intro fu
    induction fu with
    | zero => intro p u hf; exact absurd hf (Nat.not_lt_zero _)
    | succ fu ih5 =>
      intro p u hf h0 hn hu
      have hmy := my_b hV
      refine z_iload hY eX8_ofGroup_5 3 rfl ?_
      refine z_aload hY eX8_ofGroup_7 0 rfl ?_
      refine z_callVr (As := []) (rest := [z_i p]) (r := z_i (my σ)) hY eX8_ofGroup_8 (m_many hG hA hB hV ) (mH_at hA (k := 40) (by decide)) (by decide) (Nat.le_of_ble_eq_true rfl) ⟨Nat.zero_le _, Nat.zero_le _⟩ ?_
      have hc1 := my_b hV
      refine z_icmpgt hY eX8_ofGroup_11 (by omega) (fun c11 => ?_) (fun c11 => ?_)
      · refine z_const hY eX8_ofGroup_52 ?_
        exact z_ireturn hY eX8_ofGroup_53 rfl (by rw [hφ]; exact ⟨congrArg (fun q => some (z_i q)) ((og_e (by omega)).symm.trans hn), rfl⟩) ⟨Nat.zero_le _, Nat.zero_le _⟩
      · refine z_aload hY eX8_ofGroup_14 0 rfl ?_
        refine z_iload hY eX8_ofGroup_15 3 rfl ?_
        refine z_callVr (As := [z_i p]) (rest := []) (r := z_i (ea σ p)) hY eX8_ofGroup_17 (m_entrantAt hG hA hB hV (by omega)) (mH_at hA (k := 40) (by decide)) (by decide) (Nat.le_of_ble_eq_true rfl) ⟨Nat.zero_le _, Nat.zero_le _⟩ ?_
        have hc2 := ea_b hV (p := p)
        refine z_istore hY eX8_ofGroup_20 (ls' := [(5, z_i (ea σ p)), (0, .ref (A 40)), (1, z_i g), (2, z_i i), (4, z_i p), (3, z_i u)]) rfl ?_
        have hE1 := hE p (by omega) (by omega)
        refine z_aload hY eX8_ofGroup_22 1 rfl ?_
        refine m_gf hY hA eX8_ofGroup_23 (v := .ref (A 15)) rfl ?_
        refine z_iload hY eX8_ofGroup_26 0 rfl ?_
        have hb3 := hB 15 (ea σ p)
        refine m_ial hY hA eX8_ofGroup_28 (j := 15) (N := 30) (x := σ 15 (ea σ p)) (by decide) rfl (by omega) rfl ?_
        refine z_iload hY eX8_ofGroup_29 2 rfl ?_
        refine z_icmpeq hY eX8_ofGroup_30 (by omega) (fun c30 => ?_) (fun c30 => ?_)
        · refine z_iload hY eX8_ofGroup_36 5 rfl ?_
          refine z_ifne hY eX8_ofGroup_37 (by omega) (fun c37 => ?_) (fun c37 => ?_)
          · refine z_iinc hY eX8_ofGroup_43 5 rfl (ls' := [(3, z_i (u + (-1))), (5, z_i (ea σ p)), (0, .ref (A 40)), (1, z_i g), (2, z_i i), (4, z_i p)]) rfl ?_
            refine z_lq (ls' := [(3, z_i (u - 1)), (5, z_i (ea σ p)), (0, .ref (A 40)), (1, z_i g), (2, z_i i), (4, z_i p)]) (by rw [show (u + (-1) : Int) = u - 1 by omega]) ?_
            refine z_iinc hY eX8_ofGroup_46 5 rfl (ls' := [(4, z_i (p + 1)), (3, z_i (u - 1)), (5, z_i (ea σ p)), (0, .ref (A 40)), (1, z_i g), (2, z_i i)]) rfl ?_
            refine z_goto hY eX8_ofGroup_49 ?_
            refine z_sub [3, 4, 5, 0, 1] (ls' := [(0, .ref (A 40)), (1, z_i g), (2, z_i i), (4, z_i (p + 1)), (3, z_i (u - 1))]) rfl ?_
            exact ih5 (p + 1) (u - 1) (by omega) (by omega) (by first | exact (og_s (by omega) (by omega)).symm.trans hn | exact (og_d (by omega) (by omega) (by omega)).symm.trans hn) (by omega)
          · refine z_iload hY eX8_ofGroup_40 0 rfl ?_
            exact z_ireturn hY eX8_ofGroup_42 rfl (by rw [hφ]; exact ⟨congrArg (fun q => some (z_i q)) ((og_r (by omega) (by omega) (by omega)).symm.trans hn), rfl⟩) ⟨Nat.zero_le _, Nat.zero_le _⟩
        · refine z_goto hY eX8_ofGroup_33 ?_
          refine z_iinc hY eX8_ofGroup_46 4 rfl (ls' := [(4, z_i (p + 1)), (5, z_i (ea σ p)), (0, .ref (A 40)), (1, z_i g), (2, z_i i), (3, z_i u)]) rfl ?_
          refine z_goto hY eX8_ofGroup_49 ?_
          refine z_sub [2, 3, 4, 0, 5] (ls' := [(0, .ref (A 40)), (1, z_i g), (2, z_i i), (4, z_i (p + 1)), (3, z_i u)]) rfl ?_
          exact ih5 (p + 1) u (by omega) (by omega) (by first | exact (og_s (by omega) (by omega)).symm.trans hn | exact (og_d (by omega) (by omega) (by omega)).symm.trans hn) (by omega)
  exact lp5 _ 1 i (Nat.lt_succ_self _) (by omega) rfl (by omega)
theorem m_team {G : z_G} {A : Nat → Nat} {σ : z_S} {h : z_H} (hG : z_OK G) (hA : mI A) (hB : mB σ) (hV : mV σ) (hE : mE σ) {g : Int} (hg0 : 0 ≤ g ∧ g ≤ 4) : z_Tr G mX8_team [.ref (A 40), z_i g] (mH A σ h) 6 (z_i (yTm σ g)) := by
  obtain ⟨hf, hsc, hcm, hcr, hth, hgr, hlm, hld, hlo, hro, htm, hre, hpa, htp, hgp⟩ := id hV
  refine z_T_of hG pX8_team (Nat.le_of_ble_eq_true rfl) (ls0 := [(0, .ref (A 40)), (1, z_i g)]) rfl fun Y hY hg hmc hms hφ hψ => ?_
  subst hg
  refine z_aload hY eX8_team_0 0 rfl ?_
  refine z_iload hY eX8_team_1 1 rfl ?_
  refine z_const hY eX8_team_2 ?_
  refine z_callVr (As := [z_i g, z_i 2]) (rest := []) (r := z_i (yOg σ g 2)) hY eX8_team_3 (m_ofGroup hG hA hB hV hE (by omega) (by omega)) (mH_at hA (k := 40) (by decide)) (by decide) (Nat.le_of_ble_eq_true rfl) ⟨Nat.zero_le _, Nat.zero_le _⟩ ?_
  have hc1 := yOg_b hE hV g 2
  refine z_const hY eX8_team_6 ?_
  refine z_icmpne hY eX8_team_7 (by omega) (fun c7 => ?_) (fun c7 => ?_)
  · have hq1 := yOg_m hE hV g (i := 1) (by omega) c7
    have hq0 := yOg_m hE hV g (i := 0) (by omega) hq1
    refine z_aload hY eX8_team_12 0 rfl ?_
    refine z_aload hY eX8_team_13 0 rfl ?_
    refine z_iload hY eX8_team_14 1 rfl ?_
    refine z_const hY eX8_team_15 ?_
    refine z_callVr (As := [z_i g, z_i 0]) (rest := [.ref (A 40)]) (r := z_i (yOg σ g 0)) hY eX8_team_16 (m_ofGroup hG hA hB hV hE (by omega) (by omega)) (mH_at hA (k := 40) (by decide)) (by decide) (Nat.le_of_ble_eq_true rfl) ⟨Nat.zero_le _, Nat.zero_le _⟩ ?_
    have hc2 := yOg_b hE hV g 0
    refine z_callVr (As := [z_i (yOg σ g 0)]) (rest := []) (r := z_i (pl σ (yOg σ g 0))) hY eX8_team_19 (m_placeOf hG hA hB hV (by omega)) (mH_at hA (k := 40) (by decide)) (by decide) (Nat.le_of_ble_eq_true rfl) ⟨Nat.zero_le _, Nat.zero_le _⟩ ?_
    have hc3 := pl_b hV (e := (yOg σ g 0)) (by omega)
    refine z_aload hY eX8_team_22 0 rfl ?_
    refine z_aload hY eX8_team_23 0 rfl ?_
    refine z_iload hY eX8_team_24 1 rfl ?_
    refine z_const hY eX8_team_25 ?_
    refine z_callVr (As := [z_i g, z_i 1]) (rest := [.ref (A 40), z_i (pl σ (yOg σ g 0))]) (r := z_i (yOg σ g 1)) hY eX8_team_26 (m_ofGroup hG hA hB hV hE (by omega) (by omega)) (mH_at hA (k := 40) (by decide)) (by decide) (Nat.le_of_ble_eq_true rfl) ⟨Nat.zero_le _, Nat.zero_le _⟩ ?_
    have hc4 := yOg_b hE hV g 1
    refine z_callVr (As := [z_i (yOg σ g 1)]) (rest := [z_i (pl σ (yOg σ g 0))]) (r := z_i (pl σ (yOg σ g 1))) hY eX8_team_29 (m_placeOf hG hA hB hV (by omega)) (mH_at hA (k := 40) (by decide)) (by decide) (Nat.le_of_ble_eq_true rfl) ⟨Nat.zero_le _, Nat.zero_le _⟩ ?_
    have hc5 := pl_b hV (e := (yOg σ g 1)) (by omega)
    refine z_iadd hY eX8_team_32 ?_
    refine z_aload hY eX8_team_33 0 rfl ?_
    refine z_aload hY eX8_team_34 0 rfl ?_
    refine z_iload hY eX8_team_35 1 rfl ?_
    refine z_const hY eX8_team_36 ?_
    refine z_callVr (As := [z_i g, z_i 2]) (rest := [.ref (A 40), z_i ((pl σ (yOg σ g 0)) + (pl σ (yOg σ g 1)))]) (r := z_i (yOg σ g 2)) hY eX8_team_37 (m_ofGroup hG hA hB hV hE (by omega) (by omega)) (mH_at hA (k := 40) (by decide)) (by decide) (Nat.le_of_ble_eq_true rfl) ⟨Nat.zero_le _, Nat.zero_le _⟩ ?_
    have hc6 := yOg_b hE hV g 2
    refine z_callVr (As := [z_i (yOg σ g 2)]) (rest := [z_i ((pl σ (yOg σ g 0)) + (pl σ (yOg σ g 1)))]) (r := z_i (pl σ (yOg σ g 2))) hY eX8_team_40 (m_placeOf hG hA hB hV (by omega)) (mH_at hA (k := 40) (by decide)) (by decide) (Nat.le_of_ble_eq_true rfl) ⟨Nat.zero_le _, Nat.zero_le _⟩ ?_
    have hc7 := pl_b hV (e := (yOg σ g 2)) (by omega)
    refine z_iadd hY eX8_team_43 ?_
    exact z_ireturn hY eX8_team_44 rfl (by rw [hφ]; exact ⟨congrArg (fun q => some (z_i q)) (by unfold yTm; split <;> omega), rfl⟩) ⟨Nat.zero_le _, Nat.zero_le _⟩
  · refine z_const hY eX8_team_10 ?_
    exact z_ireturn hY eX8_team_11 rfl (by rw [hφ]; exact ⟨congrArg (fun q => some (z_i q)) (by unfold yTm; split <;> omega), rfl⟩) ⟨Nat.zero_le _, Nat.zero_le _⟩
theorem m_isGroupAhead {G : z_G} {A : Nat → Nat} {σ : z_S} {h : z_H} (hG : z_OK G) (hA : mI A) (hB : mB σ) (hV : mV σ) (hE : mE σ) {g o : Int} (hg0 : 0 ≤ g ∧ g ≤ 4 ∧ 0 ≤ o ∧ o ≤ 4) (hg1 : yTm σ g ≠ -1) (ho1 : yTm σ o ≠ -1) : z_Tr G mX8_isGroupAhead [.ref (A 40), z_i g, z_i o] (mH A σ h) 7 (z_i (z_bl (yGa σ g o))) := by
  obtain ⟨hf, hsc, hcm, hcr, hth, hgr, hlm, hld, hlo, hro, htm, hre, hpa, htp, hgp⟩ := id hV
  have hq0 := yTm_o hE hV hg1
  have hq1 := yTm_o hE hV ho1
  refine z_T_of hG pX8_isGroupAhead (Nat.le_of_ble_eq_true rfl) (ls0 := [(0, .ref (A 40)), (1, z_i g), (2, z_i o)]) rfl fun Y hY hg hmc hms hφ hψ => ?_
  subst hg
  refine z_aload hY eX8_isGroupAhead_0 0 rfl ?_
  refine z_iload hY eX8_isGroupAhead_1 1 rfl ?_
  refine z_callVr (As := [z_i g]) (rest := []) (r := z_i (yTm σ g)) hY eX8_isGroupAhead_2 (m_team hG hA hB hV hE (by omega)) (mH_at hA (k := 40) (by decide)) (by decide) (Nat.le_of_ble_eq_true rfl) ⟨Nat.zero_le _, Nat.zero_le _⟩ ?_
  have hc1 := yTm_b hE hV g
  refine z_aload hY eX8_isGroupAhead_5 0 rfl ?_
  refine z_iload hY eX8_isGroupAhead_6 2 rfl ?_
  refine z_callVr (As := [z_i o]) (rest := [z_i (yTm σ g)]) (r := z_i (yTm σ o)) hY eX8_isGroupAhead_7 (m_team hG hA hB hV hE (by omega)) (mH_at hA (k := 40) (by decide)) (by decide) (Nat.le_of_ble_eq_true rfl) ⟨Nat.zero_le _, Nat.zero_le _⟩ ?_
  have hc2 := yTm_b hE hV o
  refine z_icmplt hY eX8_isGroupAhead_10 (by omega) (fun c10 => ?_) (fun c10 => ?_)
  · refine z_const hY eX8_isGroupAhead_49 ?_
    refine z_goto hY eX8_isGroupAhead_50 ?_
    exact z_zreturn hY eX8_isGroupAhead_54 rfl (by omega) (by rw [hφ]; exact ⟨congrArg (fun q => some (z_i q)) (by first | rfl | omega | (simp only [z_bl]; split <;> omega)), rfl⟩) ⟨Nat.zero_le _, Nat.zero_le _⟩
  · refine z_aload hY eX8_isGroupAhead_13 0 rfl ?_
    refine z_iload hY eX8_isGroupAhead_14 1 rfl ?_
    refine z_callVr (As := [z_i g]) (rest := []) (r := z_i (yTm σ g)) hY eX8_isGroupAhead_15 (m_team hG hA hB hV hE (by omega)) (mH_at hA (k := 40) (by decide)) (by decide) (Nat.le_of_ble_eq_true rfl) ⟨Nat.zero_le _, Nat.zero_le _⟩ ?_
    have hc3 := yTm_b hE hV g
    refine z_aload hY eX8_isGroupAhead_18 0 rfl ?_
    refine z_iload hY eX8_isGroupAhead_19 2 rfl ?_
    refine z_callVr (As := [z_i o]) (rest := [z_i (yTm σ g)]) (r := z_i (yTm σ o)) hY eX8_isGroupAhead_20 (m_team hG hA hB hV hE (by omega)) (mH_at hA (k := 40) (by decide)) (by decide) (Nat.le_of_ble_eq_true rfl) ⟨Nat.zero_le _, Nat.zero_le _⟩ ?_
    have hc4 := yTm_b hE hV o
    refine z_icmpne hY eX8_isGroupAhead_23 (by omega) (fun c23 => ?_) (fun c23 => ?_)
    · refine z_const hY eX8_isGroupAhead_53 ?_
      exact z_zreturn hY eX8_isGroupAhead_54 rfl (by omega) (by rw [hφ]; exact ⟨congrArg (fun q => some (z_i q)) (by first | rfl | omega | (simp only [z_bl]; split <;> omega)), rfl⟩) ⟨Nat.zero_le _, Nat.zero_le _⟩
    · refine z_aload hY eX8_isGroupAhead_26 0 rfl ?_
      refine z_aload hY eX8_isGroupAhead_27 0 rfl ?_
      refine z_iload hY eX8_isGroupAhead_28 1 rfl ?_
      refine z_const hY eX8_isGroupAhead_29 ?_
      refine z_callVr (As := [z_i g, z_i 0]) (rest := [.ref (A 40)]) (r := z_i (yOg σ g 0)) hY eX8_isGroupAhead_30 (m_ofGroup hG hA hB hV hE (by omega) (by omega)) (mH_at hA (k := 40) (by decide)) (by decide) (Nat.le_of_ble_eq_true rfl) ⟨Nat.zero_le _, Nat.zero_le _⟩ ?_
      have hc5 := yOg_b hE hV g 0
      refine z_callVr (As := [z_i (yOg σ g 0)]) (rest := []) (r := z_i (pl σ (yOg σ g 0))) hY eX8_isGroupAhead_33 (m_placeOf hG hA hB hV (by omega)) (mH_at hA (k := 40) (by decide)) (by decide) (Nat.le_of_ble_eq_true rfl) ⟨Nat.zero_le _, Nat.zero_le _⟩ ?_
      have hc6 := pl_b hV (e := (yOg σ g 0)) (by omega)
      refine z_aload hY eX8_isGroupAhead_36 0 rfl ?_
      refine z_aload hY eX8_isGroupAhead_37 0 rfl ?_
      refine z_iload hY eX8_isGroupAhead_38 2 rfl ?_
      refine z_const hY eX8_isGroupAhead_39 ?_
      refine z_callVr (As := [z_i o, z_i 0]) (rest := [.ref (A 40), z_i (pl σ (yOg σ g 0))]) (r := z_i (yOg σ o 0)) hY eX8_isGroupAhead_40 (m_ofGroup hG hA hB hV hE (by omega) (by omega)) (mH_at hA (k := 40) (by decide)) (by decide) (Nat.le_of_ble_eq_true rfl) ⟨Nat.zero_le _, Nat.zero_le _⟩ ?_
      have hc7 := yOg_b hE hV o 0
      refine z_callVr (As := [z_i (yOg σ o 0)]) (rest := [z_i (pl σ (yOg σ g 0))]) (r := z_i (pl σ (yOg σ o 0))) hY eX8_isGroupAhead_43 (m_placeOf hG hA hB hV (by omega)) (mH_at hA (k := 40) (by decide)) (by decide) (Nat.le_of_ble_eq_true rfl) ⟨Nat.zero_le _, Nat.zero_le _⟩ ?_
      have hc8 := pl_b hV (e := (yOg σ o 0)) (by omega)
      refine z_icmpge hY eX8_isGroupAhead_46 (by omega) (fun c46 => ?_) (fun c46 => ?_)
      · refine z_const hY eX8_isGroupAhead_53 ?_
        exact z_zreturn hY eX8_isGroupAhead_54 rfl (by omega) (by rw [hφ]; exact ⟨congrArg (fun q => some (z_i q)) (by first | rfl | omega | (simp only [z_bl]; split <;> omega)), rfl⟩) ⟨Nat.zero_le _, Nat.zero_le _⟩
      · refine z_const hY eX8_isGroupAhead_49 ?_
        refine z_goto hY eX8_isGroupAhead_50 ?_
        exact z_zreturn hY eX8_isGroupAhead_54 rfl (by omega) (by rw [hφ]; exact ⟨congrArg (fun q => some (z_i q)) (by first | rfl | omega | (simp only [z_bl]; split <;> omega)), rfl⟩) ⟨Nat.zero_le _, Nat.zero_le _⟩
def S_best (σ : z_S) (g : Int) (c r : Int) : Prop := if 0 ≤ g ∧ g ≤ 4 then c = 0 ∧ r = yOg σ g 0 else c = 1
theorem p_best {G : z_G} {A : Nat → Nat} {σ τ : z_S} {h : z_H} (hτ : z_u σ 0 0 0 = τ) (hG : z_OK G) (hA : mI A) (hB : mB τ) (hV : mV τ) {g : Int} (hr : -2147483648 ≤ g ∧ g ≤ 2147483647) (hE : mE τ) : z_T G mX8_best [.ref (A 40), z_i g] (mH A σ h) 6 0 0 (fun v h' => ∃ c r : Int, v = some (z_i r) ∧ h' = mH A (z_u τ 0 0 c) h ∧ S_best τ g c r) (z_no) := by
  have h00 : τ 0 0 = 0 := by rw [← hτ]; rfl
  obtain ⟨hf, hsc, hcm, hcr, hth, hgr, hlm, hld, hlo, hro, htm, hre, hpa, htp, hgp⟩ := id hV
  refine z_T_of hG pX8_best (Nat.le_of_ble_eq_true rfl) (ls0 := [(0, .ref (A 40)), (1, z_i g)]) rfl fun Y hY hg hmc hms hφ hψ => ?_
  subst hg
  refine z_aload hY eX8_best_0 0 rfl ?_
  refine z_const hY eX8_best_1 ?_
  refine m_pf hY hA eX8_best_2 (by decide) ?_
  rw [hτ]
  refine z_aload hY eX8_best_5 0 rfl ?_
  refine z_iload hY eX8_best_6 1 rfl ?_
  by_cases g1 : 0 ≤ g ∧ g ≤ 4
  · refine z_callVr (As := [z_i g]) (rest := []) (r := z_i 0) hY eX8_best_7 (m_noG_t hG hA hB hV h00 (by omega) g1) (mH_at hA (k := 40) (by decide)) (by decide) (Nat.le_of_ble_eq_true rfl) ⟨Nat.zero_le _, Nat.zero_le _⟩ ?_
    refine z_ifeq hY eX8_best_10 (by omega) (fun _ => ?_) (fun c => absurd c (by omega))
    refine z_aload hY eX8_best_17 0 rfl ?_
    refine z_iload hY eX8_best_18 1 rfl ?_
    refine z_const hY eX8_best_19 ?_
    refine z_callVr (As := [z_i g, z_i 0]) (rest := []) (r := z_i (yOg τ g 0)) hY eX8_best_20 (m_ofGroup hG hA hB hV hE (by omega) (by omega)) (mH_at hA (k := 40) (by decide)) (by decide) (Nat.le_of_ble_eq_true rfl) ⟨Nat.zero_le _, Nat.zero_le _⟩ ?_
    have hc2 := yOg_b hE hV g 0
    exact z_ireturn hY eX8_best_23 rfl (by rw [hφ]; exact ⟨0, _, rfl, by rw [z_u_id h00], by unfold S_best; (repeat' split) <;> omega⟩) ⟨Nat.zero_le _, Nat.zero_le _⟩
  · refine z_callV (As := [z_i g]) (rest := []) hY eX8_best_7 (m_noG_f hG hA hB hV h00 (by omega) g1) (mH_at hA (k := 40) (by decide)) (by decide) (Nat.le_of_ble_eq_true rfl) ⟨Nat.zero_le _, Nat.zero_le _⟩ (fun _ _ q => q.elim) (fun v3 h3 q3 => ?_)
    obtain ⟨rfl, rfl⟩ := q3
    refine z_ifeq hY eX8_best_10 (by omega) (fun c => absurd c (by omega)) (fun _ => ?_)
    refine z_const hY eX8_best_13 ?_
    refine z_goto hY eX8_best_14 ?_
    exact z_ireturn hY eX8_best_23 rfl (by rw [hφ]; exact ⟨1, _, rfl, rfl, by unfold S_best; (repeat' split) <;> omega⟩) ⟨Nat.zero_le _, Nat.zero_le _⟩
def S_teamScore (σ : z_S) (g : Int) (c r : Int) : Prop := if 0 ≤ g ∧ g ≤ 4 then c = 0 ∧ r = yTm σ g else c = 1
theorem p_teamScore {G : z_G} {A : Nat → Nat} {σ τ : z_S} {h : z_H} (hτ : z_u σ 0 0 0 = τ) (hG : z_OK G) (hA : mI A) (hB : mB τ) (hV : mV τ) {g : Int} (hr : -2147483648 ≤ g ∧ g ≤ 2147483647) (hE : mE τ) : z_T G mX8_teamScore [.ref (A 40), z_i g] (mH A σ h) 7 0 0 (fun v h' => ∃ c r : Int, v = some (z_i r) ∧ h' = mH A (z_u τ 0 0 c) h ∧ S_teamScore τ g c r) (z_no) := by
  have h00 : τ 0 0 = 0 := by rw [← hτ]; rfl
  obtain ⟨hf, hsc, hcm, hcr, hth, hgr, hlm, hld, hlo, hro, htm, hre, hpa, htp, hgp⟩ := id hV
  refine z_T_of hG pX8_teamScore (Nat.le_of_ble_eq_true rfl) (ls0 := [(0, .ref (A 40)), (1, z_i g)]) rfl fun Y hY hg hmc hms hφ hψ => ?_
  subst hg
  refine z_aload hY eX8_teamScore_0 0 rfl ?_
  refine z_const hY eX8_teamScore_1 ?_
  refine m_pf hY hA eX8_teamScore_2 (by decide) ?_
  rw [hτ]
  refine z_aload hY eX8_teamScore_5 0 rfl ?_
  refine z_iload hY eX8_teamScore_6 1 rfl ?_
  by_cases g1 : 0 ≤ g ∧ g ≤ 4
  · refine z_callVr (As := [z_i g]) (rest := []) (r := z_i 0) hY eX8_teamScore_7 (m_noG_t hG hA hB hV h00 (by omega) g1) (mH_at hA (k := 40) (by decide)) (by decide) (Nat.le_of_ble_eq_true rfl) ⟨Nat.zero_le _, Nat.zero_le _⟩ ?_
    refine z_ifeq hY eX8_teamScore_10 (by omega) (fun _ => ?_) (fun c => absurd c (by omega))
    refine z_aload hY eX8_teamScore_17 0 rfl ?_
    refine z_iload hY eX8_teamScore_18 1 rfl ?_
    refine z_callVr (As := [z_i g]) (rest := []) (r := z_i (yTm τ g)) hY eX8_teamScore_19 (m_team hG hA hB hV hE (by omega)) (mH_at hA (k := 40) (by decide)) (by decide) (Nat.le_of_ble_eq_true rfl) ⟨Nat.zero_le _, Nat.zero_le _⟩ ?_
    have hc2 := yTm_b hE hV g
    exact z_ireturn hY eX8_teamScore_22 rfl (by rw [hφ]; exact ⟨0, _, rfl, by rw [z_u_id h00], by unfold S_teamScore; (repeat' split) <;> omega⟩) ⟨Nat.zero_le _, Nat.zero_le _⟩
  · refine z_callV (As := [z_i g]) (rest := []) hY eX8_teamScore_7 (m_noG_f hG hA hB hV h00 (by omega) g1) (mH_at hA (k := 40) (by decide)) (by decide) (Nat.le_of_ble_eq_true rfl) ⟨Nat.zero_le _, Nat.zero_le _⟩ (fun _ _ q => q.elim) (fun v3 h3 q3 => ?_)
    obtain ⟨rfl, rfl⟩ := q3
    refine z_ifeq hY eX8_teamScore_10 (by omega) (fun c => absurd c (by omega)) (fun _ => ?_)
    refine z_const hY eX8_teamScore_13 ?_
    refine z_goto hY eX8_teamScore_14 ?_
    exact z_ireturn hY eX8_teamScore_22 rfl (by rw [hφ]; exact ⟨1, _, rfl, rfl, by unfold S_teamScore; (repeat' split) <;> omega⟩) ⟨Nat.zero_le _, Nat.zero_le _⟩
def yGh (σ : z_S) (g : Int) : Int := 1 + z_sm (fun o => if o ≠ g ∧ yTm σ o ≠ -1 ∧ yGa σ o g then (1 : Int) else 0) 5
def S_groupAt (σ : z_S) (p : Int) (c r : Int) : Prop := if z_ff (fun g => yTm σ g ≠ -1 ∧ yGh σ g = p) 5 = -1 then c = 1 else c = 0 ∧ r = z_ff (fun g => yTm σ g ≠ -1 ∧ yGh σ g = p) 5
theorem p_groupAt {G : z_G} {A : Nat → Nat} {σ τ : z_S} {h : z_H} (hτ : z_u σ 0 0 0 = τ) (hG : z_OK G) (hA : mI A) (hB : mB τ) (hV : mV τ) {p : Int} (hr : -2147483648 ≤ p ∧ p ≤ 2147483647) (hE : mE τ) : z_T G mX8_groupAt [.ref (A 40), z_i p] (mH A σ h) 8 0 0 (fun v h' => ∃ c r : Int, v = some (z_i r) ∧ h' = mH A (z_u τ 0 0 c) h ∧ S_groupAt τ p c r) (z_no) := by
  have h00 : τ 0 0 = 0 := by rw [← hτ]; rfl
  obtain ⟨hf, hsc, hcm, hcr, hth, hgr, hlm, hld, hlo, hro, htm, hre, hpa, htp, hgp⟩ := id hV
  refine z_T_of hG pX8_groupAt (Nat.le_of_ble_eq_true rfl) (ls0 := [(0, .ref (A 40)), (1, z_i p)]) rfl fun Y hY hg hmc hms hφ hψ => ?_
  subst hg
  refine z_aload hY eX8_groupAt_0 0 rfl ?_
  refine z_const hY eX8_groupAt_1 ?_
  refine m_pf hY hA eX8_groupAt_2 (by decide) ?_
  rw [hτ]
  refine z_const hY eX8_groupAt_5 ?_
  refine z_istore hY eX8_groupAt_6 (ls' := [(2, z_i 0), (0, .ref (A 40)), (1, z_i p)]) rfl ?_
  refine z_sub [1, 2, 0] (ls' := [(0, .ref (A 40)), (1, z_i p), (2, z_i 0)]) rfl ?_
  have lp7 : ∀ (fu : Nat) (g : Int), (5 - g).toNat < fu → 0 ≤ g ∧ g ≤ 5 → z_fi (fun g => yTm τ g ≠ -1 ∧ yGh τ g = p) (5 - g).toNat g = z_ff (fun g => yTm τ g ≠ -1 ∧ yGh τ g = p) (5) → z_W Y 7 [(0, .ref (A 40)), (1, z_i p), (2, z_i g)] [] (mH A τ h) 0 0 := by
    intro fu
    induction fu with
    | zero => intro g hf; exact absurd hf (Nat.not_lt_zero _)
    | succ fu ih7 =>
      intro g hf h0 hn
      refine z_iload hY eX8_groupAt_7 2 rfl ?_
      refine z_const hY eX8_groupAt_8 ?_
      refine z_icmpge hY eX8_groupAt_9 (by omega) (fun c9 => ?_) (fun c9 => ?_)
      · have e2 := (z_fi_e (P := fun g => yTm τ g ≠ -1 ∧ yGh τ g = p) (n := 5) (i := g) (by omega)).symm.trans hn
        refine z_aload hY eX8_groupAt_88 0 rfl ?_
        refine z_const hY eX8_groupAt_89 ?_
        refine z_const hY eX8_groupAt_90 ?_
        refine z_callV (As := [z_i 0, z_i 1]) (rest := []) hY eX8_groupAt_91 (m_fails_f hG hA hB h00 (g := 0) (c := 1) (by omega) (by omega)) (mH_at hA (k := 40) (by decide)) (by decide) (Nat.le_of_ble_eq_true rfl) ⟨Nat.zero_le _, Nat.zero_le _⟩ (fun _ _ q => q.elim) (fun v1 h1 q1 => ?_)
        obtain ⟨rfl, rfl⟩ := q1
        refine z_ifeq hY eX8_groupAt_94 (by omega) (fun c => absurd c (by omega)) (fun _ => ?_)
        refine z_const hY eX8_groupAt_97 ?_
        refine z_goto hY eX8_groupAt_98 ?_
        exact z_ireturn hY eX8_groupAt_102 rfl (by rw [hφ]; exact ⟨1, _, rfl, rfl, by unfold S_groupAt; rw [← e2, if_pos rfl]⟩) ⟨Nat.zero_le _, Nat.zero_le _⟩
      · refine z_aload hY eX8_groupAt_12 0 rfl ?_
        refine z_iload hY eX8_groupAt_13 2 rfl ?_
        refine z_callVr (As := [z_i g]) (rest := []) (r := z_i (yTm τ g)) hY eX8_groupAt_14 (m_team hG hA hB hV hE (by omega)) (mH_at hA (k := 40) (by decide)) (by decide) (Nat.le_of_ble_eq_true rfl) ⟨Nat.zero_le _, Nat.zero_le _⟩ ?_
        have hc2 := yTm_b hE hV g
        refine z_const hY eX8_groupAt_17 ?_
        refine z_icmpne hY eX8_groupAt_18 (by omega) (fun c18 => ?_) (fun c18 => ?_)
        · refine z_const hY eX8_groupAt_24 ?_
          refine z_istore hY eX8_groupAt_25 (ls' := [(3, z_i 1), (0, .ref (A 40)), (1, z_i p), (2, z_i g)]) rfl ?_
          refine z_const hY eX8_groupAt_26 ?_
          refine z_istore hY eX8_groupAt_27 (ls' := [(4, z_i 0), (3, z_i 1), (0, .ref (A 40)), (1, z_i p), (2, z_i g)]) rfl ?_
          refine z_sub [2, 3, 4, 0, 1] (ls' := [(0, .ref (A 40)), (1, z_i p), (2, z_i g), (4, z_i 0), (3, z_i 1)]) rfl ?_
          have lp29 : ∀ (fu : Nat) (o : Int) (n : Int), (5 - o).toNat < fu → 0 ≤ o ∧ o ≤ 5 → n = 1 + z_sm (fun o => if o ≠ g ∧ yTm τ o ≠ -1 ∧ yGa τ o g then (1 : Int) else 0) o → 1 ≤ n ∧ n ≤ 1 + o → z_W Y 29 [(0, .ref (A 40)), (1, z_i p), (2, z_i g), (4, z_i o), (3, z_i n)] [] (mH A τ h) 0 0 := by
            intro fu
            induction fu with
            | zero => intro o n hf; exact absurd hf (Nat.not_lt_zero _)
            | succ fu ih29 =>
              intro o n hf h3 hu hnb
              refine z_iload hY eX8_groupAt_29 3 rfl ?_
              refine z_const hY eX8_groupAt_31 ?_
              refine z_icmpge hY eX8_groupAt_32 (by omega) (fun c32 => ?_) (fun c32 => ?_)
              · have e1 : n = yGh τ g := by rw [hu, show o = 5 by omega]; rfl
                refine z_iload hY eX8_groupAt_75 4 rfl ?_
                refine z_iload hY eX8_groupAt_76 1 rfl ?_
                refine z_icmpne hY eX8_groupAt_77 (by omega) (fun c77 => ?_) (fun c77 => ?_)
                · refine z_iinc hY eX8_groupAt_82 2 rfl (ls' := [(2, z_i (g + 1)), (0, .ref (A 40)), (1, z_i p), (4, z_i o), (3, z_i n)]) rfl ?_
                  refine z_goto hY eX8_groupAt_85 ?_
                  refine z_sub [1, 2, 0] (ls' := [(0, .ref (A 40)), (1, z_i p), (2, z_i (g + 1))]) rfl ?_
                  exact ih7 (g + 1) (by omega) (by omega) ((z_fi_f (by omega) (by omega)).symm.trans hn)
                · refine z_iload hY eX8_groupAt_80 2 rfl ?_
                  exact z_ireturn hY eX8_groupAt_81 rfl (by rw [hφ]; exact ⟨0, _, rfl, by rw [z_u_id h00], by unfold S_groupAt; have e2 := (z_fi_t (P := fun g => yTm τ g ≠ -1 ∧ yGh τ g = p) (n := 5) (i := g) (by omega) (by omega)).symm.trans hn; rw [← e2, if_neg (by omega)]; exact ⟨rfl, rfl⟩⟩) ⟨Nat.zero_le _, Nat.zero_le _⟩
              · refine z_iload hY eX8_groupAt_35 4 rfl ?_
                refine z_iload hY eX8_groupAt_36 3 rfl ?_
                refine z_iload hY eX8_groupAt_38 2 rfl ?_
                refine z_icmpeq hY eX8_groupAt_39 (by omega) (fun c39 => ?_) (fun c39 => ?_)
                · refine z_const hY eX8_groupAt_66 ?_
                  refine z_iadd hY eX8_groupAt_67 ?_
                  refine z_top (b := n) (by omega) ?_
                  refine z_istore hY eX8_groupAt_68 (ls' := [(3, z_i n), (0, .ref (A 40)), (1, z_i p), (2, z_i g), (4, z_i o)]) rfl ?_
                  refine z_iinc hY eX8_groupAt_69 4 rfl (ls' := [(4, z_i (o + 1)), (3, z_i n), (0, .ref (A 40)), (1, z_i p), (2, z_i g)]) rfl ?_
                  refine z_goto hY eX8_groupAt_72 ?_
                  refine z_sub [2, 3, 4, 0, 1] (ls' := [(0, .ref (A 40)), (1, z_i p), (2, z_i g), (4, z_i (o + 1)), (3, z_i n)]) rfl ?_
                  exact ih29 (o + 1) n (by omega) (by omega) (by rw [z_smS (by omega), ← Int.add_assoc, ← hu]; split <;> omega) (by omega)
                · refine z_aload hY eX8_groupAt_42 0 rfl ?_
                  refine z_iload hY eX8_groupAt_43 3 rfl ?_
                  refine z_callVr (As := [z_i o]) (rest := [z_i n]) (r := z_i (yTm τ o)) hY eX8_groupAt_45 (m_team hG hA hB hV hE (by omega)) (mH_at hA (k := 40) (by decide)) (by decide) (Nat.le_of_ble_eq_true rfl) ⟨Nat.zero_le _, Nat.zero_le _⟩ ?_
                  have hc3 := yTm_b hE hV o
                  refine z_const hY eX8_groupAt_48 ?_
                  refine z_icmpeq hY eX8_groupAt_49 (by omega) (fun c49 => ?_) (fun c49 => ?_)
                  · refine z_const hY eX8_groupAt_66 ?_
                    refine z_iadd hY eX8_groupAt_67 ?_
                    refine z_top (b := n) (by omega) ?_
                    refine z_istore hY eX8_groupAt_68 (ls' := [(3, z_i n), (0, .ref (A 40)), (1, z_i p), (2, z_i g), (4, z_i o)]) rfl ?_
                    refine z_iinc hY eX8_groupAt_69 4 rfl (ls' := [(4, z_i (o + 1)), (3, z_i n), (0, .ref (A 40)), (1, z_i p), (2, z_i g)]) rfl ?_
                    refine z_goto hY eX8_groupAt_72 ?_
                    refine z_sub [2, 3, 4, 0, 1] (ls' := [(0, .ref (A 40)), (1, z_i p), (2, z_i g), (4, z_i (o + 1)), (3, z_i n)]) rfl ?_
                    exact ih29 (o + 1) n (by omega) (by omega) (by rw [z_smS (by omega), ← Int.add_assoc, ← hu]; split <;> omega) (by omega)
                  · refine z_aload hY eX8_groupAt_52 0 rfl ?_
                    refine z_iload hY eX8_groupAt_53 3 rfl ?_
                    refine z_iload hY eX8_groupAt_55 2 rfl ?_
                    refine z_callVr (As := [z_i o, z_i g]) (rest := [z_i n]) (r := z_i (z_bl (yGa τ o g))) hY eX8_groupAt_56 (m_isGroupAhead hG hA hB hV hE (by omega) (by omega) (by omega)) (mH_at hA (k := 40) (by decide)) (by decide) (Nat.le_of_ble_eq_true rfl) ⟨Nat.zero_le _, Nat.zero_le _⟩ ?_
                    refine z_ifeqb hY eX8_groupAt_59 (fun c59 => ?_) (fun c59 => ?_)
                    · refine z_const hY eX8_groupAt_66 ?_
                      refine z_iadd hY eX8_groupAt_67 ?_
                      refine z_top (b := n) (by omega) ?_
                      refine z_istore hY eX8_groupAt_68 (ls' := [(3, z_i n), (0, .ref (A 40)), (1, z_i p), (2, z_i g), (4, z_i o)]) rfl ?_
                      refine z_iinc hY eX8_groupAt_69 4 rfl (ls' := [(4, z_i (o + 1)), (3, z_i n), (0, .ref (A 40)), (1, z_i p), (2, z_i g)]) rfl ?_
                      refine z_goto hY eX8_groupAt_72 ?_
                      refine z_sub [2, 3, 4, 0, 1] (ls' := [(0, .ref (A 40)), (1, z_i p), (2, z_i g), (4, z_i (o + 1)), (3, z_i n)]) rfl ?_
                      exact ih29 (o + 1) n (by omega) (by omega) (by rw [z_smS (by omega), ← Int.add_assoc, ← hu]; split <;> omega) (by omega)
                    · refine z_const hY eX8_groupAt_62 ?_
                      refine z_goto hY eX8_groupAt_63 ?_
                      refine z_iadd hY eX8_groupAt_67 ?_
                      refine z_istore hY eX8_groupAt_68 (ls' := [(3, z_i (n + 1)), (0, .ref (A 40)), (1, z_i p), (2, z_i g), (4, z_i o)]) rfl ?_
                      refine z_iinc hY eX8_groupAt_69 4 rfl (ls' := [(4, z_i (o + 1)), (3, z_i (n + 1)), (0, .ref (A 40)), (1, z_i p), (2, z_i g)]) rfl ?_
                      refine z_goto hY eX8_groupAt_72 ?_
                      refine z_sub [2, 3, 4, 0, 1] (ls' := [(0, .ref (A 40)), (1, z_i p), (2, z_i g), (4, z_i (o + 1)), (3, z_i (n + 1))]) rfl ?_
                      exact ih29 (o + 1) (n + 1) (by omega) (by omega) (by rw [z_smS (by omega), ← Int.add_assoc, ← hu]; split <;> omega) (by omega)
          exact lp29 _ 0 1 (Nat.lt_succ_self _) (by omega) (by rw [z_sm0 (by omega)]; omega) (by omega)
        · refine z_goto hY eX8_groupAt_21 ?_
          refine z_iinc hY eX8_groupAt_82 2 rfl (ls' := [(2, z_i (g + 1)), (0, .ref (A 40)), (1, z_i p)]) rfl ?_
          refine z_goto hY eX8_groupAt_85 ?_
          refine z_sub [1, 2, 0] (ls' := [(0, .ref (A 40)), (1, z_i p), (2, z_i (g + 1))]) rfl ?_
          exact ih7 (g + 1) (by omega) (by omega) ((z_fi_f (by omega) (by omega)).symm.trans hn)
  exact lp7 _ 0 (Nat.lt_succ_self _) (by omega) rfl
theorem m_apart {G : z_G} {A : Nat → Nat} {σ : z_S} {h : z_H} (hG : z_OK G) (hA : mI A) (hB : mB σ) (hV : mV σ) {r q : Int} (hr : -1 ≤ r ∧ r ≤ 2147483647 ∧ -1 ≤ q ∧ q ≤ 2147483647) : z_Tr G mX8_apart [.ref (A 40), z_i r, z_i q] (mH A σ h) 6 (z_i (yAp σ r q)) := by
  obtain ⟨hf, hsc, hcm, hcr, hth, hgr, hlm, hld, hlo, hro, htm, hre, hpa, htp, hgp⟩ := id hV
  refine z_T_of hG pX8_apart (Nat.le_of_ble_eq_true rfl) (ls0 := [(0, .ref (A 40)), (1, z_i r), (2, z_i q)]) rfl fun Y hY hg hmc hms hφ hψ => ?_
  subst hg
  refine z_const hY eX8_apart_0 ?_
  refine z_istore hY eX8_apart_1 (ls' := [(3, z_i 0), (0, .ref (A 40)), (1, z_i r), (2, z_i q)]) rfl ?_
  refine z_const hY eX8_apart_2 ?_
  refine z_istore hY eX8_apart_3 (ls' := [(4, z_i 0), (3, z_i 0), (0, .ref (A 40)), (1, z_i r), (2, z_i q)]) rfl ?_
  refine z_sub [2, 3, 4, 0, 1] (ls' := [(0, .ref (A 40)), (1, z_i r), (2, z_i q), (4, z_i 0), (3, z_i 0)]) rfl ?_
  have lp5 : ∀ (fu : Nat) (e : Int) (n : Int), (σ 19 0 - e).toNat < fu → 0 ≤ e ∧ e ≤ σ 19 0 → n = z_sm (fun e => z_sm (fun f => if yAq σ r q e f then (1 : Int) else 0) e) e → 0 ≤ n ∧ n ≤ 30 * e → z_W Y 5 [(0, .ref (A 40)), (1, z_i r), (2, z_i q), (4, z_i e), (3, z_i n)] [] (mH A σ h) 0 0 := by
    intro fu
    induction fu with
    | zero => intro e n hf; exact absurd hf (Nat.not_lt_zero _)
    | succ fu ih5 =>
      intro e n hf h0 hn hnb
      try clear hmk
      refine z_iload hY eX8_apart_5 3 rfl ?_
      refine z_aload hY eX8_apart_7 0 rfl ?_
      have hb1 := hB 19 0
      refine m_gf hY hA eX8_apart_8 (v := z_i (σ 19 0)) rfl ?_
      refine z_icmpge hY eX8_apart_11 (by omega) (fun c11 => ?_) (fun c11 => ?_)
      · refine z_iload hY eX8_apart_143 4 rfl ?_
        exact z_ireturn hY eX8_apart_144 rfl (by rw [hφ]; exact ⟨congrArg (fun q => some (z_i q)) (by rw [hn, show e = σ 19 0 by omega]; rfl), rfl⟩) ⟨Nat.zero_le _, Nat.zero_le _⟩
      · refine z_const hY eX8_apart_14 ?_
        refine z_istore hY eX8_apart_15 (ls' := [(5, z_i 0), (0, .ref (A 40)), (1, z_i r), (2, z_i q), (4, z_i e), (3, z_i n)]) rfl ?_
        refine z_sub [1, 2, 3, 4, 0, 5] (ls' := [(0, .ref (A 40)), (1, z_i r), (2, z_i q), (4, z_i e), (5, z_i 0), (3, z_i n)]) rfl ?_
        have lp17 : ∀ (fu : Nat) (f : Int) (w : Int), (e - f).toNat < fu → 0 ≤ f ∧ f ≤ e → w = n + z_sm (fun f => if yAq σ r q e f then (1 : Int) else 0) f → n ≤ w ∧ w ≤ n + f → z_W Y 17 [(0, .ref (A 40)), (1, z_i r), (2, z_i q), (4, z_i e), (5, z_i f), (3, z_i w)] [] (mH A σ h) 0 0 := by
          intro fu
          induction fu with
          | zero => intro f w hf; exact absurd hf (Nat.not_lt_zero _)
          | succ fu ih17 =>
            intro f w hf h3 hu hwb
            refine z_iload hY eX8_apart_17 4 rfl ?_
            refine z_iload hY eX8_apart_19 3 rfl ?_
            refine z_icmpge hY eX8_apart_21 (by omega) (fun c21 => ?_) (fun c21 => ?_)
            · refine z_iinc hY eX8_apart_137 3 rfl (ls' := [(4, z_i (e + 1)), (0, .ref (A 40)), (1, z_i r), (2, z_i q), (5, z_i f), (3, z_i w)]) rfl ?_
              refine z_goto hY eX8_apart_140 ?_
              refine z_sub [1, 2, 3, 0, 5] (ls' := [(0, .ref (A 40)), (1, z_i r), (2, z_i q), (4, z_i (e + 1)), (3, z_i w)]) rfl ?_
              exact ih5 (e + 1) w (by omega) (by omega) (by rw [z_smS (by omega), ← hn, hu, show f = e by omega]) (by omega)
            · refine z_aload hY eX8_apart_24 0 rfl ?_
              refine z_iload hY eX8_apart_25 1 rfl ?_
              refine z_iload hY eX8_apart_26 3 rfl ?_
              refine z_callVr (As := [z_i r, z_i e]) (rest := []) (r := z_i (yPi σ r e)) hY eX8_apart_28 (m_placeIn hG hA hB hV (by omega) (by omega)) (mH_at hA (k := 40) (by decide)) (by decide) (Nat.le_of_ble_eq_true rfl) ⟨Nat.zero_le _, Nat.zero_le _⟩ ?_
              have hc2 := yPi_b hB hV (r := r) (e := e) (by omega)
              refine z_istore hY eX8_apart_31 (ls' := [(6, z_i (yPi σ r e)), (0, .ref (A 40)), (1, z_i r), (2, z_i q), (4, z_i e), (5, z_i f), (3, z_i w)]) rfl ?_
              refine z_aload hY eX8_apart_33 1 rfl ?_
              refine z_iload hY eX8_apart_34 2 rfl ?_
              refine z_iload hY eX8_apart_35 5 rfl ?_
              refine z_callVr (As := [z_i r, z_i f]) (rest := []) (r := z_i (yPi σ r f)) hY eX8_apart_37 (m_placeIn hG hA hB hV (by omega) (by omega)) (mH_at hA (k := 40) (by decide)) (by decide) (Nat.le_of_ble_eq_true rfl) ⟨Nat.zero_le _, Nat.zero_le _⟩ ?_
              have hc3 := yPi_b hB hV (r := r) (e := f) (by omega)
              refine z_istore hY eX8_apart_40 (ls' := [(7, z_i (yPi σ r f)), (6, z_i (yPi σ r e)), (0, .ref (A 40)), (1, z_i r), (2, z_i q), (4, z_i e), (5, z_i f), (3, z_i w)]) rfl ?_
              refine z_aload hY eX8_apart_42 2 rfl ?_
              refine z_iload hY eX8_apart_43 4 rfl ?_
              refine z_iload hY eX8_apart_44 5 rfl ?_
              refine z_callVr (As := [z_i q, z_i e]) (rest := []) (r := z_i (yPi σ q e)) hY eX8_apart_46 (m_placeIn hG hA hB hV (by omega) (by omega)) (mH_at hA (k := 40) (by decide)) (by decide) (Nat.le_of_ble_eq_true rfl) ⟨Nat.zero_le _, Nat.zero_le _⟩ ?_
              have hc4 := yPi_b hB hV (r := q) (e := e) (by omega)
              refine z_istore hY eX8_apart_49 (ls' := [(8, z_i (yPi σ q e)), (7, z_i (yPi σ r f)), (6, z_i (yPi σ r e)), (0, .ref (A 40)), (1, z_i r), (2, z_i q), (4, z_i e), (5, z_i f), (3, z_i w)]) rfl ?_
              refine z_aload hY eX8_apart_51 3 rfl ?_
              refine z_iload hY eX8_apart_52 5 rfl ?_
              refine z_iload hY eX8_apart_53 7 rfl ?_
              refine z_callVr (As := [z_i q, z_i f]) (rest := []) (r := z_i (yPi σ q f)) hY eX8_apart_55 (m_placeIn hG hA hB hV (by omega) (by omega)) (mH_at hA (k := 40) (by decide)) (by decide) (Nat.le_of_ble_eq_true rfl) ⟨Nat.zero_le _, Nat.zero_le _⟩ ?_
              have hc5 := yPi_b hB hV (r := q) (e := f) (by omega)
              refine z_istore hY eX8_apart_58 (ls' := [(9, z_i (yPi σ q f)), (8, z_i (yPi σ q e)), (7, z_i (yPi σ r f)), (6, z_i (yPi σ r e)), (0, .ref (A 40)), (1, z_i r), (2, z_i q), (4, z_i e), (5, z_i f), (3, z_i w)]) rfl ?_
              refine z_iload hY eX8_apart_60 3 rfl ?_
              refine z_const hY eX8_apart_62 ?_
              refine z_icmpeq hY eX8_apart_63 (by omega) (fun c63 => ?_) (fun c63 => ?_)
              · refine z_const hY eX8_apart_88 ?_
                refine z_istore hY eX8_apart_89 (ls' := [(10, z_i 0), (9, z_i (yPi σ q f)), (8, z_i (yPi σ q e)), (7, z_i (yPi σ r f)), (6, z_i (yPi σ r e)), (0, .ref (A 40)), (1, z_i r), (2, z_i q), (4, z_i e), (5, z_i f), (3, z_i w)]) rfl ?_
                refine z_iload hY eX8_apart_91 10 rfl ?_
                refine z_iload hY eX8_apart_92 0 rfl ?_
                refine z_ifeq hY eX8_apart_94 (by omega) (fun _ => ?_) (fun c => absurd c (by omega))
                refine z_const hY eX8_apart_128 ?_
                refine z_iadd hY eX8_apart_129 ?_
                refine z_top (b := w) (by omega) ?_
                refine z_istore hY eX8_apart_130 (ls' := [(3, z_i w), (10, z_i 0), (9, z_i (yPi σ q f)), (8, z_i (yPi σ q e)), (7, z_i (yPi σ r f)), (6, z_i (yPi σ r e)), (0, .ref (A 40)), (1, z_i r), (2, z_i q), (4, z_i e), (5, z_i f)]) rfl ?_
                refine z_iinc hY eX8_apart_131 10 rfl (ls' := [(5, z_i (f + 1)), (3, z_i w), (10, z_i 0), (9, z_i (yPi σ q f)), (8, z_i (yPi σ q e)), (7, z_i (yPi σ r f)), (6, z_i (yPi σ r e)), (0, .ref (A 40)), (1, z_i r), (2, z_i q), (4, z_i e)]) rfl ?_
                refine z_goto hY eX8_apart_134 ?_
                refine z_sub [7, 8, 9, 10, 0, 1] (ls' := [(0, .ref (A 40)), (1, z_i r), (2, z_i q), (4, z_i e), (5, z_i (f + 1)), (3, z_i w)]) rfl ?_
                exact ih17 (f + 1) w (by omega) (by omega) (by rw [z_smS (by omega), ← Int.add_assoc, ← hu]; split <;> omega) (by omega)
              · refine z_iload hY eX8_apart_66 2 rfl ?_
                refine z_const hY eX8_apart_68 ?_
                refine z_icmpeq hY eX8_apart_69 (by omega) (fun c69 => ?_) (fun c69 => ?_)
                · refine z_const hY eX8_apart_88 ?_
                  refine z_istore hY eX8_apart_89 (ls' := [(10, z_i 0), (9, z_i (yPi σ q f)), (8, z_i (yPi σ q e)), (7, z_i (yPi σ r f)), (6, z_i (yPi σ r e)), (0, .ref (A 40)), (1, z_i r), (2, z_i q), (4, z_i e), (5, z_i f), (3, z_i w)]) rfl ?_
                  refine z_iload hY eX8_apart_91 10 rfl ?_
                  refine z_iload hY eX8_apart_92 0 rfl ?_
                  refine z_ifeq hY eX8_apart_94 (by omega) (fun _ => ?_) (fun c => absurd c (by omega))
                  refine z_const hY eX8_apart_128 ?_
                  refine z_iadd hY eX8_apart_129 ?_
                  refine z_top (b := w) (by omega) ?_
                  refine z_istore hY eX8_apart_130 (ls' := [(3, z_i w), (10, z_i 0), (9, z_i (yPi σ q f)), (8, z_i (yPi σ q e)), (7, z_i (yPi σ r f)), (6, z_i (yPi σ r e)), (0, .ref (A 40)), (1, z_i r), (2, z_i q), (4, z_i e), (5, z_i f)]) rfl ?_
                  refine z_iinc hY eX8_apart_131 10 rfl (ls' := [(5, z_i (f + 1)), (3, z_i w), (10, z_i 0), (9, z_i (yPi σ q f)), (8, z_i (yPi σ q e)), (7, z_i (yPi σ r f)), (6, z_i (yPi σ r e)), (0, .ref (A 40)), (1, z_i r), (2, z_i q), (4, z_i e)]) rfl ?_
                  refine z_goto hY eX8_apart_134 ?_
                  refine z_sub [7, 8, 9, 10, 0, 1] (ls' := [(0, .ref (A 40)), (1, z_i r), (2, z_i q), (4, z_i e), (5, z_i (f + 1)), (3, z_i w)]) rfl ?_
                  exact ih17 (f + 1) w (by omega) (by omega) (by rw [z_smS (by omega), ← Int.add_assoc, ← hu]; split <;> omega) (by omega)
                · refine z_iload hY eX8_apart_72 1 rfl ?_
                  refine z_const hY eX8_apart_74 ?_
                  refine z_icmpeq hY eX8_apart_75 (by omega) (fun c75 => ?_) (fun c75 => ?_)
                  · refine z_const hY eX8_apart_88 ?_
                    refine z_istore hY eX8_apart_89 (ls' := [(10, z_i 0), (9, z_i (yPi σ q f)), (8, z_i (yPi σ q e)), (7, z_i (yPi σ r f)), (6, z_i (yPi σ r e)), (0, .ref (A 40)), (1, z_i r), (2, z_i q), (4, z_i e), (5, z_i f), (3, z_i w)]) rfl ?_
                    refine z_iload hY eX8_apart_91 10 rfl ?_
                    refine z_iload hY eX8_apart_92 0 rfl ?_
                    refine z_ifeq hY eX8_apart_94 (by omega) (fun _ => ?_) (fun c => absurd c (by omega))
                    refine z_const hY eX8_apart_128 ?_
                    refine z_iadd hY eX8_apart_129 ?_
                    refine z_top (b := w) (by omega) ?_
                    refine z_istore hY eX8_apart_130 (ls' := [(3, z_i w), (10, z_i 0), (9, z_i (yPi σ q f)), (8, z_i (yPi σ q e)), (7, z_i (yPi σ r f)), (6, z_i (yPi σ r e)), (0, .ref (A 40)), (1, z_i r), (2, z_i q), (4, z_i e), (5, z_i f)]) rfl ?_
                    refine z_iinc hY eX8_apart_131 10 rfl (ls' := [(5, z_i (f + 1)), (3, z_i w), (10, z_i 0), (9, z_i (yPi σ q f)), (8, z_i (yPi σ q e)), (7, z_i (yPi σ r f)), (6, z_i (yPi σ r e)), (0, .ref (A 40)), (1, z_i r), (2, z_i q), (4, z_i e)]) rfl ?_
                    refine z_goto hY eX8_apart_134 ?_
                    refine z_sub [7, 8, 9, 10, 0, 1] (ls' := [(0, .ref (A 40)), (1, z_i r), (2, z_i q), (4, z_i e), (5, z_i (f + 1)), (3, z_i w)]) rfl ?_
                    exact ih17 (f + 1) w (by omega) (by omega) (by rw [z_smS (by omega), ← Int.add_assoc, ← hu]; split <;> omega) (by omega)
                  · refine z_iload hY eX8_apart_78 0 rfl ?_
                    refine z_const hY eX8_apart_80 ?_
                    refine z_icmpeq hY eX8_apart_81 (by omega) (fun c81 => ?_) (fun c81 => ?_)
                    · refine z_const hY eX8_apart_88 ?_
                      refine z_istore hY eX8_apart_89 (ls' := [(10, z_i 0), (9, z_i (yPi σ q f)), (8, z_i (yPi σ q e)), (7, z_i (yPi σ r f)), (6, z_i (yPi σ r e)), (0, .ref (A 40)), (1, z_i r), (2, z_i q), (4, z_i e), (5, z_i f), (3, z_i w)]) rfl ?_
                      refine z_iload hY eX8_apart_91 10 rfl ?_
                      refine z_iload hY eX8_apart_92 0 rfl ?_
                      refine z_ifeq hY eX8_apart_94 (by omega) (fun _ => ?_) (fun c => absurd c (by omega))
                      refine z_const hY eX8_apart_128 ?_
                      refine z_iadd hY eX8_apart_129 ?_
                      refine z_top (b := w) (by omega) ?_
                      refine z_istore hY eX8_apart_130 (ls' := [(3, z_i w), (10, z_i 0), (9, z_i (yPi σ q f)), (8, z_i (yPi σ q e)), (7, z_i (yPi σ r f)), (6, z_i (yPi σ r e)), (0, .ref (A 40)), (1, z_i r), (2, z_i q), (4, z_i e), (5, z_i f)]) rfl ?_
                      refine z_iinc hY eX8_apart_131 10 rfl (ls' := [(5, z_i (f + 1)), (3, z_i w), (10, z_i 0), (9, z_i (yPi σ q f)), (8, z_i (yPi σ q e)), (7, z_i (yPi σ r f)), (6, z_i (yPi σ r e)), (0, .ref (A 40)), (1, z_i r), (2, z_i q), (4, z_i e)]) rfl ?_
                      refine z_goto hY eX8_apart_134 ?_
                      refine z_sub [7, 8, 9, 10, 0, 1] (ls' := [(0, .ref (A 40)), (1, z_i r), (2, z_i q), (4, z_i e), (5, z_i (f + 1)), (3, z_i w)]) rfl ?_
                      exact ih17 (f + 1) w (by omega) (by omega) (by rw [z_smS (by omega), ← Int.add_assoc, ← hu]; split <;> omega) (by omega)
                    · refine z_const hY eX8_apart_84 ?_
                      refine z_goto hY eX8_apart_85 ?_
                      refine z_istore hY eX8_apart_89 (ls' := [(10, z_i 1), (9, z_i (yPi σ q f)), (8, z_i (yPi σ q e)), (7, z_i (yPi σ r f)), (6, z_i (yPi σ r e)), (0, .ref (A 40)), (1, z_i r), (2, z_i q), (4, z_i e), (5, z_i f), (3, z_i w)]) rfl ?_
                      refine z_iload hY eX8_apart_91 10 rfl ?_
                      refine z_iload hY eX8_apart_92 0 rfl ?_
                      refine z_ifeq hY eX8_apart_94 (by omega) (fun c => absurd c (by omega)) (fun _ => ?_)
                      refine z_iload hY eX8_apart_97 4 rfl ?_
                      refine z_iload hY eX8_apart_99 3 rfl ?_
                      refine z_icmpge hY eX8_apart_101 (by omega) (fun c101 => ?_) (fun c101 => ?_)
                      · refine z_const hY eX8_apart_108 ?_
                        refine z_iload hY eX8_apart_109 2 rfl ?_
                        refine z_iload hY eX8_apart_111 1 rfl ?_
                        refine z_icmpge hY eX8_apart_113 (by omega) (fun c113 => ?_) (fun c113 => ?_)
                        · refine z_const hY eX8_apart_120 ?_
                          refine z_icmpeq hY eX8_apart_121 (by omega) (fun _ => ?_) (fun c => absurd c (by omega))
                          refine z_const hY eX8_apart_128 ?_
                          refine z_iadd hY eX8_apart_129 ?_
                          refine z_top (b := w) (by omega) ?_
                          refine z_istore hY eX8_apart_130 (ls' := [(3, z_i w), (10, z_i 1), (9, z_i (yPi σ q f)), (8, z_i (yPi σ q e)), (7, z_i (yPi σ r f)), (6, z_i (yPi σ r e)), (0, .ref (A 40)), (1, z_i r), (2, z_i q), (4, z_i e), (5, z_i f)]) rfl ?_
                          refine z_iinc hY eX8_apart_131 10 rfl (ls' := [(5, z_i (f + 1)), (3, z_i w), (10, z_i 1), (9, z_i (yPi σ q f)), (8, z_i (yPi σ q e)), (7, z_i (yPi σ r f)), (6, z_i (yPi σ r e)), (0, .ref (A 40)), (1, z_i r), (2, z_i q), (4, z_i e)]) rfl ?_
                          refine z_goto hY eX8_apart_134 ?_
                          refine z_sub [7, 8, 9, 10, 0, 1] (ls' := [(0, .ref (A 40)), (1, z_i r), (2, z_i q), (4, z_i e), (5, z_i (f + 1)), (3, z_i w)]) rfl ?_
                          exact ih17 (f + 1) w (by omega) (by omega) (by rw [z_smS (by omega), ← Int.add_assoc, ← hu]; split <;> omega) (by omega)
                        · refine z_const hY eX8_apart_116 ?_
                          refine z_goto hY eX8_apart_117 ?_
                          refine z_icmpeq hY eX8_apart_121 (by omega) (fun c => absurd c (by omega)) (fun _ => ?_)
                          refine z_const hY eX8_apart_124 ?_
                          refine z_goto hY eX8_apart_125 ?_
                          refine z_iadd hY eX8_apart_129 ?_
                          refine z_istore hY eX8_apart_130 (ls' := [(3, z_i (w + 1)), (10, z_i 1), (9, z_i (yPi σ q f)), (8, z_i (yPi σ q e)), (7, z_i (yPi σ r f)), (6, z_i (yPi σ r e)), (0, .ref (A 40)), (1, z_i r), (2, z_i q), (4, z_i e), (5, z_i f)]) rfl ?_
                          refine z_iinc hY eX8_apart_131 10 rfl (ls' := [(5, z_i (f + 1)), (3, z_i (w + 1)), (10, z_i 1), (9, z_i (yPi σ q f)), (8, z_i (yPi σ q e)), (7, z_i (yPi σ r f)), (6, z_i (yPi σ r e)), (0, .ref (A 40)), (1, z_i r), (2, z_i q), (4, z_i e)]) rfl ?_
                          refine z_goto hY eX8_apart_134 ?_
                          refine z_sub [7, 8, 9, 10, 0, 1] (ls' := [(0, .ref (A 40)), (1, z_i r), (2, z_i q), (4, z_i e), (5, z_i (f + 1)), (3, z_i (w + 1))]) rfl ?_
                          exact ih17 (f + 1) (w + 1) (by omega) (by omega) (by rw [z_smS (by omega), ← Int.add_assoc, ← hu]; split <;> omega) (by omega)
                      · refine z_const hY eX8_apart_104 ?_
                        refine z_goto hY eX8_apart_105 ?_
                        refine z_iload hY eX8_apart_109 2 rfl ?_
                        refine z_iload hY eX8_apart_111 1 rfl ?_
                        refine z_icmpge hY eX8_apart_113 (by omega) (fun c113 => ?_) (fun c113 => ?_)
                        · refine z_const hY eX8_apart_120 ?_
                          refine z_icmpeq hY eX8_apart_121 (by omega) (fun c => absurd c (by omega)) (fun _ => ?_)
                          refine z_const hY eX8_apart_124 ?_
                          refine z_goto hY eX8_apart_125 ?_
                          refine z_iadd hY eX8_apart_129 ?_
                          refine z_istore hY eX8_apart_130 (ls' := [(3, z_i (w + 1)), (10, z_i 1), (9, z_i (yPi σ q f)), (8, z_i (yPi σ q e)), (7, z_i (yPi σ r f)), (6, z_i (yPi σ r e)), (0, .ref (A 40)), (1, z_i r), (2, z_i q), (4, z_i e), (5, z_i f)]) rfl ?_
                          refine z_iinc hY eX8_apart_131 10 rfl (ls' := [(5, z_i (f + 1)), (3, z_i (w + 1)), (10, z_i 1), (9, z_i (yPi σ q f)), (8, z_i (yPi σ q e)), (7, z_i (yPi σ r f)), (6, z_i (yPi σ r e)), (0, .ref (A 40)), (1, z_i r), (2, z_i q), (4, z_i e)]) rfl ?_
                          refine z_goto hY eX8_apart_134 ?_
                          refine z_sub [7, 8, 9, 10, 0, 1] (ls' := [(0, .ref (A 40)), (1, z_i r), (2, z_i q), (4, z_i e), (5, z_i (f + 1)), (3, z_i (w + 1))]) rfl ?_
                          exact ih17 (f + 1) (w + 1) (by omega) (by omega) (by rw [z_smS (by omega), ← Int.add_assoc, ← hu]; split <;> omega) (by omega)
                        · refine z_const hY eX8_apart_116 ?_
                          refine z_goto hY eX8_apart_117 ?_
                          refine z_icmpeq hY eX8_apart_121 (by omega) (fun _ => ?_) (fun c => absurd c (by omega))
                          refine z_const hY eX8_apart_128 ?_
                          refine z_iadd hY eX8_apart_129 ?_
                          refine z_top (b := w) (by omega) ?_
                          refine z_istore hY eX8_apart_130 (ls' := [(3, z_i w), (10, z_i 1), (9, z_i (yPi σ q f)), (8, z_i (yPi σ q e)), (7, z_i (yPi σ r f)), (6, z_i (yPi σ r e)), (0, .ref (A 40)), (1, z_i r), (2, z_i q), (4, z_i e), (5, z_i f)]) rfl ?_
                          refine z_iinc hY eX8_apart_131 10 rfl (ls' := [(5, z_i (f + 1)), (3, z_i w), (10, z_i 1), (9, z_i (yPi σ q f)), (8, z_i (yPi σ q e)), (7, z_i (yPi σ r f)), (6, z_i (yPi σ r e)), (0, .ref (A 40)), (1, z_i r), (2, z_i q), (4, z_i e)]) rfl ?_
                          refine z_goto hY eX8_apart_134 ?_
                          refine z_sub [7, 8, 9, 10, 0, 1] (ls' := [(0, .ref (A 40)), (1, z_i r), (2, z_i q), (4, z_i e), (5, z_i (f + 1)), (3, z_i w)]) rfl ?_
                          exact ih17 (f + 1) w (by omega) (by omega) (by rw [z_smS (by omega), ← Int.add_assoc, ← hu]; split <;> omega) (by omega)
        exact lp17 _ 0 n (Nat.lt_succ_self _) (by omega) (by rw [z_sm0 (by omega)]; omega) (by omega)
  exact lp5 _ 0 0 (Nat.lt_succ_self _) (by omega) (z_sm0 (by omega)).symm (by omega)
def S_inversions (σ : z_S) (r0 q : Int) (c r : Int) : Prop := if (r0 = -1 ∨ kp σ r0) ∧ (q = -1 ∨ kp σ q) then c = 0 ∧ r = yAp σ r0 q else c = 1
theorem p_inversions {G : z_G} {A : Nat → Nat} {σ τ : z_S} {h : z_H} (hτ : z_u σ 0 0 0 = τ) (hG : z_OK G) (hA : mI A) (hB : mB τ) (hV : mV τ) {r0 q : Int} (hr : -2147483648 ≤ r0 ∧ r0 ≤ 2147483647 ∧ -2147483648 ≤ q ∧ q ≤ 2147483647) : z_T G mX8_inversions [.ref (A 40), z_i r0, z_i q] (mH A σ h) 7 0 0 (fun v h' => ∃ c r : Int, v = some (z_i r) ∧ h' = mH A (z_u τ 0 0 c) h ∧ S_inversions τ r0 q c r) (z_no) := by
  have h00 : τ 0 0 = 0 := by rw [← hτ]; rfl
  obtain ⟨hf, hsc, hcm, hcr, hth, hgr, hlm, hld, hlo, hro, htm, hre, hpa, htp, hgp⟩ := id hV
  refine z_T_of hG pX8_inversions (Nat.le_of_ble_eq_true rfl) (ls0 := [(0, .ref (A 40)), (1, z_i r0), (2, z_i q)]) rfl fun Y hY hg hmc hms hφ hψ => ?_
  subst hg
  refine z_aload hY eX8_inversions_0 0 rfl ?_
  refine z_const hY eX8_inversions_1 ?_
  refine m_pf hY hA eX8_inversions_2 (by decide) ?_
  rw [hτ]
  refine z_aload hY eX8_inversions_5 0 rfl ?_
  refine z_iload hY eX8_inversions_6 1 rfl ?_
  by_cases g1 : r0 = -1 ∨ kp τ r0
  · refine z_callVr (As := [z_i r0]) (rest := []) (r := z_i 0) hY eX8_inversions_7 (m_noS_t hG hA hB hV h00 (by omega) g1) (mH_at hA (k := 40) (by decide)) (by decide) (Nat.le_of_ble_eq_true rfl) ⟨Nat.zero_le _, Nat.zero_le _⟩ ?_
    refine z_ifne hY eX8_inversions_10 (by omega) (fun c => absurd c (by omega)) (fun _ => ?_)
    refine z_aload hY eX8_inversions_13 0 rfl ?_
    refine z_iload hY eX8_inversions_14 2 rfl ?_
    by_cases g2 : q = -1 ∨ kp τ q
    · refine z_callVr (As := [z_i q]) (rest := []) (r := z_i 0) hY eX8_inversions_15 (m_noS_t hG hA hB hV h00 (by omega) g2) (mH_at hA (k := 40) (by decide)) (by decide) (Nat.le_of_ble_eq_true rfl) ⟨Nat.zero_le _, Nat.zero_le _⟩ ?_
      refine z_ifeq hY eX8_inversions_18 (by omega) (fun _ => ?_) (fun c => absurd c (by omega))
      refine z_aload hY eX8_inversions_25 0 rfl ?_
      refine z_iload hY eX8_inversions_26 1 rfl ?_
      refine z_iload hY eX8_inversions_27 2 rfl ?_
      refine z_callVr (As := [z_i r0, z_i q]) (rest := []) (r := z_i (yAp τ r0 q)) hY eX8_inversions_28 (m_apart hG hA hB hV (by omega)) (mH_at hA (k := 40) (by decide)) (by decide) (Nat.le_of_ble_eq_true rfl) ⟨Nat.zero_le _, Nat.zero_le _⟩ ?_
      exact z_ireturn hY eX8_inversions_31 rfl (by rw [hφ]; exact ⟨0, _, rfl, by rw [z_u_id h00], by unfold S_inversions; (repeat' split) <;> omega⟩) ⟨Nat.zero_le _, Nat.zero_le _⟩
    · refine z_callV (As := [z_i q]) (rest := []) hY eX8_inversions_15 (m_noS_f hG hA hB hV h00 (by omega) g2) (mH_at hA (k := 40) (by decide)) (by decide) (Nat.le_of_ble_eq_true rfl) ⟨Nat.zero_le _, Nat.zero_le _⟩ (fun _ _ q => q.elim) (fun v3 h3 q3 => ?_)
      obtain ⟨rfl, rfl⟩ := q3
      refine z_ifeq hY eX8_inversions_18 (by omega) (fun c => absurd c (by omega)) (fun _ => ?_)
      refine z_const hY eX8_inversions_21 ?_
      refine z_goto hY eX8_inversions_22 ?_
      exact z_ireturn hY eX8_inversions_31 rfl (by rw [hφ]; exact ⟨1, _, rfl, rfl, by unfold S_inversions; (repeat' split) <;> omega⟩) ⟨Nat.zero_le _, Nat.zero_le _⟩
  · refine z_callV (As := [z_i r0]) (rest := []) hY eX8_inversions_7 (m_noS_f hG hA hB hV h00 (by omega) g1) (mH_at hA (k := 40) (by decide)) (by decide) (Nat.le_of_ble_eq_true rfl) ⟨Nat.zero_le _, Nat.zero_le _⟩ (fun _ _ q => q.elim) (fun v4 h4 q4 => ?_)
    obtain ⟨rfl, rfl⟩ := q4
    refine z_ifne hY eX8_inversions_10 (by omega) (fun _ => ?_) (fun c => absurd c (by omega))
    refine z_const hY eX8_inversions_21 ?_
    refine z_goto hY eX8_inversions_22 ?_
    exact z_ireturn hY eX8_inversions_31 rfl (by rw [hφ]; exact ⟨1, _, rfl, rfl, by unfold S_inversions; (repeat' split) <;> omega⟩) ⟨Nat.zero_le _, Nat.zero_le _⟩
def S_swaps (σ : z_S) (r0 q : Int) (c r : Int) : Prop := if (r0 = -1 ∨ kp σ r0) ∧ (q = -1 ∨ kp σ q) then c = 0 ∧ r = yAp σ r0 q else c = 1
theorem p_swaps {G : z_G} {A : Nat → Nat} {σ τ : z_S} {h : z_H} (hτ : z_u σ 0 0 0 = τ) (hG : z_OK G) (hA : mI A) (hB : mB τ) (hV : mV τ) {r0 q : Int} (hr : -2147483648 ≤ r0 ∧ r0 ≤ 2147483647 ∧ -2147483648 ≤ q ∧ q ≤ 2147483647) : z_T G mX8_swaps [.ref (A 40), z_i r0, z_i q] (mH A σ h) 7 0 0 (fun v h' => ∃ c r : Int, v = some (z_i r) ∧ h' = mH A (z_u τ 0 0 c) h ∧ S_swaps τ r0 q c r) (z_no) := by
  have h00 : τ 0 0 = 0 := by rw [← hτ]; rfl
  obtain ⟨hf, hsc, hcm, hcr, hth, hgr, hlm, hld, hlo, hro, htm, hre, hpa, htp, hgp⟩ := id hV
  refine z_T_of hG pX8_swaps (Nat.le_of_ble_eq_true rfl) (ls0 := [(0, .ref (A 40)), (1, z_i r0), (2, z_i q)]) rfl fun Y hY hg hmc hms hφ hψ => ?_
  subst hg
  refine z_aload hY eX8_swaps_0 0 rfl ?_
  refine z_const hY eX8_swaps_1 ?_
  refine m_pf hY hA eX8_swaps_2 (by decide) ?_
  rw [hτ]
  refine z_aload hY eX8_swaps_5 0 rfl ?_
  refine z_iload hY eX8_swaps_6 1 rfl ?_
  by_cases g1 : r0 = -1 ∨ kp τ r0
  · refine z_callVr (As := [z_i r0]) (rest := []) (r := z_i 0) hY eX8_swaps_7 (m_noS_t hG hA hB hV h00 (by omega) g1) (mH_at hA (k := 40) (by decide)) (by decide) (Nat.le_of_ble_eq_true rfl) ⟨Nat.zero_le _, Nat.zero_le _⟩ ?_
    refine z_ifne hY eX8_swaps_10 (by omega) (fun c => absurd c (by omega)) (fun _ => ?_)
    refine z_aload hY eX8_swaps_13 0 rfl ?_
    refine z_iload hY eX8_swaps_14 2 rfl ?_
    by_cases g2 : q = -1 ∨ kp τ q
    · refine z_callVr (As := [z_i q]) (rest := []) (r := z_i 0) hY eX8_swaps_15 (m_noS_t hG hA hB hV h00 (by omega) g2) (mH_at hA (k := 40) (by decide)) (by decide) (Nat.le_of_ble_eq_true rfl) ⟨Nat.zero_le _, Nat.zero_le _⟩ ?_
      refine z_ifeq hY eX8_swaps_18 (by omega) (fun _ => ?_) (fun c => absurd c (by omega))
      refine z_aload hY eX8_swaps_25 0 rfl ?_
      refine z_iload hY eX8_swaps_26 1 rfl ?_
      refine z_iload hY eX8_swaps_27 2 rfl ?_
      refine z_callVr (As := [z_i r0, z_i q]) (rest := []) (r := z_i (yAp τ r0 q)) hY eX8_swaps_28 (m_apart hG hA hB hV (by omega)) (mH_at hA (k := 40) (by decide)) (by decide) (Nat.le_of_ble_eq_true rfl) ⟨Nat.zero_le _, Nat.zero_le _⟩ ?_
      exact z_ireturn hY eX8_swaps_31 rfl (by rw [hφ]; exact ⟨0, _, rfl, by rw [z_u_id h00], by unfold S_swaps; (repeat' split) <;> omega⟩) ⟨Nat.zero_le _, Nat.zero_le _⟩
    · refine z_callV (As := [z_i q]) (rest := []) hY eX8_swaps_15 (m_noS_f hG hA hB hV h00 (by omega) g2) (mH_at hA (k := 40) (by decide)) (by decide) (Nat.le_of_ble_eq_true rfl) ⟨Nat.zero_le _, Nat.zero_le _⟩ (fun _ _ q => q.elim) (fun v3 h3 q3 => ?_)
      obtain ⟨rfl, rfl⟩ := q3
      refine z_ifeq hY eX8_swaps_18 (by omega) (fun c => absurd c (by omega)) (fun _ => ?_)
      refine z_const hY eX8_swaps_21 ?_
      refine z_goto hY eX8_swaps_22 ?_
      exact z_ireturn hY eX8_swaps_31 rfl (by rw [hφ]; exact ⟨1, _, rfl, rfl, by unfold S_swaps; (repeat' split) <;> omega⟩) ⟨Nat.zero_le _, Nat.zero_le _⟩
  · refine z_callV (As := [z_i r0]) (rest := []) hY eX8_swaps_7 (m_noS_f hG hA hB hV h00 (by omega) g1) (mH_at hA (k := 40) (by decide)) (by decide) (Nat.le_of_ble_eq_true rfl) ⟨Nat.zero_le _, Nat.zero_le _⟩ (fun _ _ q => q.elim) (fun v4 h4 q4 => ?_)
    obtain ⟨rfl, rfl⟩ := q4
    refine z_ifne hY eX8_swaps_10 (by omega) (fun _ => ?_) (fun c => absurd c (by omega))
    refine z_const hY eX8_swaps_21 ?_
    refine z_goto hY eX8_swaps_22 ?_
    exact z_ireturn hY eX8_swaps_31 rfl (by rw [hφ]; exact ⟨1, _, rfl, rfl, by unfold S_swaps; (repeat' split) <;> omega⟩) ⟨Nat.zero_le _, Nat.zero_le _⟩
end M3
