/-! THE MODEL's methods: what they answer (laid by wip/whole/gen/gm1.py). -/
section M1
def mB (σ : z_S) : Prop := ∀ (k : Nat) (i : Int), -1000000 ≤ σ k i ∧ σ k i ≤ 1000000
def mV (σ : z_S) : Prop := (∀ i : Int, -3996 ≤ σ 8 i ∧ σ 8 i ≤ 3996) ∧ (∀ i : Int, -100000 ≤ σ 14 i ∧ σ 14 i ≤ 100000) ∧ (0 ≤ σ 19 0 ∧ σ 19 0 ≤ 30) ∧ (1 ≤ σ 12 0 ∧ σ 12 0 ≤ 4) ∧ (∀ i : Int, σ 18 i = 0 ∨ σ 18 i = 1) ∧ (∀ i : Int, σ 10 i = 0 ∨ σ 10 i = 1)
theorem z_bl01 (p : Prop) [Decidable p] : z_bl p = 0 ∨ z_bl p = 1 := by
  unfold z_bl
  split <;> omega
theorem z_bl_t {p : Prop} [Decidable p] (hp : p) : z_bl p = 1 := if_pos hp
theorem z_bl_f {p : Prop} [Decidable p] (hp : ¬ p) : z_bl p = 0 := if_neg hp
theorem m_pr {a b F S : Int} (ha : -F ≤ a ∧ a ≤ F) (hb : -S ≤ b ∧ b ≤ S) (hF : 0 ≤ F) (hS : 0 ≤ S) : -(F * S) ≤ a * b ∧ a * b ≤ F * S := by
  have h1 : a.natAbs ≤ F.toNat := by omega
  have h2 : b.natAbs ≤ S.toNat := by omega
  have h3 : (a * b).natAbs ≤ F.toNat * S.toNat := by rw [Int.natAbs_mul]; exact Nat.mul_le_mul h1 h2
  have h4 : ((F.toNat * S.toNat : Nat) : Int) = F * S := by rw [Int.natCast_mul, Int.toNat_of_nonneg hF, Int.toNat_of_nonneg hS]
  omega
/-- the value of a criterion -/
def vl (σ : z_S) (e c : Int) : Int := σ 8 (4 * c) * σ 14 (4 * e) + σ 8 (4 * c + 1) * σ 14 (4 * e + 1) + σ 8 (4 * c + 2) * σ 14 (4 * e + 2) + σ 8 (4 * c + 3) * σ 14 (4 * e + 3)
theorem vl_b {σ : z_S} (hV : mV σ) (e c : Int) : -1598400000 ≤ vl σ e c ∧ vl σ e c ≤ 1598400000 := by
  have h (k : Int) (j : Int) := m_pr (hV.1 (4 * c + k)) (hV.2.1 (4 * e + j)) (by omega) (by omega)
  have h0 := m_pr (hV.1 (4 * c)) (hV.2.1 (4 * e)) (by omega) (by omega)
  have h1 := h 1 1
  have h2 := h 2 2
  have h3 := h 3 3
  unfold vl
  omega
/-- 1 if better, -1 if worse, 0 if alike: from the criterion c on -/
def cm (σ : z_S) (e o : Int) : Nat → Int → Int
  | 0, _ => 0
  | f + 1, c => if vl σ e c = vl σ o c then cm σ e o f (c + 1) else if (vl σ o c < vl σ e c) = (σ 10 c = 1) then 1 else -1

theorem m_thrown {G : z_G} {A : Nat → Nat} {σ : z_S} {h : z_H} (hG : z_OK G) (hA : mI A) (hB : mB σ) : z_Tr G mX8_thrown [.ref (A 40)] (mH A σ h) 0 (z_i (σ 0 0)) := by
  refine z_T_of hG pX8_thrown (Nat.le_of_ble_eq_true rfl) (ls0 := [(0, .ref (A 40))]) rfl fun Y hY hg hmc hms hφ hψ => ?_
  subst hg
  refine z_aload hY eX8_thrown_0 0 rfl ?_
  have hb1 := hB 0 0
  refine m_gf hY hA eX8_thrown_1 (v := z_i (σ 0 0)) rfl ?_
  exact z_ireturn hY eX8_thrown_4 rfl (by rw [hφ]; exact ⟨congrArg (fun q => some (z_i q)) (by first | rfl | omega | (simp only [z_bl]; split <;> omega)), rfl⟩) ⟨Nat.zero_le _, Nat.zero_le _⟩
theorem m_in {G : z_G} {h : z_H} (hG : z_OK G) {v l u : Int} (hr : -2147483648 ≤ v ∧ v ≤ 2147483647 ∧ -2147483648 ≤ l ∧ l ≤ 2147483647 ∧ -2147483648 ≤ u ∧ u ≤ 2147483647) : z_Tr G mX8_in [z_i v, z_i l, z_i u] (h) 0 (z_i (z_bl (l ≤ v ∧ v ≤ u))) := by
  refine z_T_of hG pX8_in (Nat.le_of_ble_eq_true rfl) (ls0 := [(0, z_i v), (1, z_i l), (2, z_i u)]) rfl fun Y hY hg hmc hms hφ hψ => ?_
  subst hg
  refine z_iload hY eX8_in_0 0 rfl ?_
  refine z_iload hY eX8_in_1 1 rfl ?_
  refine z_icmplt hY eX8_in_2 (by omega) (fun c2 => ?_) (fun c2 => ?_)
  · refine z_const hY eX8_in_14 ?_
    exact z_zreturn hY eX8_in_15 rfl (by omega) (by rw [hφ]; exact ⟨congrArg (fun q => some (z_i q)) (by first | rfl | omega | (simp only [z_bl]; split <;> omega)), rfl⟩) ⟨Nat.zero_le _, Nat.zero_le _⟩
  · refine z_iload hY eX8_in_5 0 rfl ?_
    refine z_iload hY eX8_in_6 2 rfl ?_
    refine z_icmpgt hY eX8_in_7 (by omega) (fun c7 => ?_) (fun c7 => ?_)
    · refine z_const hY eX8_in_14 ?_
      exact z_zreturn hY eX8_in_15 rfl (by omega) (by rw [hφ]; exact ⟨congrArg (fun q => some (z_i q)) (by first | rfl | omega | (simp only [z_bl]; split <;> omega)), rfl⟩) ⟨Nat.zero_le _, Nat.zero_le _⟩
    · refine z_const hY eX8_in_10 ?_
      refine z_goto hY eX8_in_11 ?_
      exact z_zreturn hY eX8_in_15 rfl (by omega) (by rw [hφ]; exact ⟨congrArg (fun q => some (z_i q)) (by first | rfl | omega | (simp only [z_bl]; split <;> omega)), rfl⟩) ⟨Nat.zero_le _, Nat.zero_le _⟩
theorem m_valueOf {G : z_G} {A : Nat → Nat} {σ : z_S} {h : z_H} (hG : z_OK G) (hA : mI A) (hB : mB σ) {e c : Int} (he : 0 ≤ e ∧ e < 30) (hc : 0 ≤ c ∧ c < 4) : z_Tr G mX8_valueOf [.ref (A 40), z_i e, z_i c] (mH A σ h) 0 (z_i (vl σ e c)) := by
  refine z_T_of hG pX8_valueOf (Nat.le_of_ble_eq_true rfl) (ls0 := [(0, .ref (A 40)), (1, z_i e), (2, z_i c)]) rfl fun Y hY hg hmc hms hφ hψ => ?_
  subst hg
  refine z_const hY eX8_valueOf_0 ?_
  refine z_istore hY eX8_valueOf_1 (ls' := [(3, z_i 0), (0, .ref (A 40)), (1, z_i e), (2, z_i c)]) rfl ?_
  refine z_const hY eX8_valueOf_2 ?_
  refine z_istore hY eX8_valueOf_3 (ls' := [(4, z_i 0), (3, z_i 0), (0, .ref (A 40)), (1, z_i e), (2, z_i c)]) rfl ?_
  refine z_iload hY eX8_valueOf_5 0 rfl ?_
  refine z_const hY eX8_valueOf_7 ?_
  refine z_icmpge hY eX8_valueOf_8 (by omega) (fun c => absurd c (by omega)) (fun _ => ?_)
  refine z_iload hY eX8_valueOf_11 1 rfl ?_
  refine z_aload hY eX8_valueOf_12 2 rfl ?_
  refine m_gf hY hA eX8_valueOf_13 (v := .ref (A 8)) rfl ?_
  refine z_const hY eX8_valueOf_16 ?_
  refine z_iload hY eX8_valueOf_17 4 rfl ?_
  refine z_imul hY eX8_valueOf_18 ?_
  refine z_iload hY eX8_valueOf_19 0 rfl ?_
  refine z_iadd hY eX8_valueOf_21 ?_
  refine z_top (b := 4 * c) (by omega) ?_
  have hb1 := hB 8 (4 * c)
  refine m_ial hY hA eX8_valueOf_22 (j := 8) (N := 16) (x := σ 8 (4 * c)) (by decide) rfl (by omega) rfl ?_
  refine z_aload hY eX8_valueOf_23 2 rfl ?_
  refine m_gf hY hA eX8_valueOf_24 (v := .ref (A 14)) rfl ?_
  refine z_const hY eX8_valueOf_27 ?_
  refine z_iload hY eX8_valueOf_28 3 rfl ?_
  refine z_imul hY eX8_valueOf_29 ?_
  refine z_iload hY eX8_valueOf_30 0 rfl ?_
  refine z_iadd hY eX8_valueOf_32 ?_
  refine z_top (b := 4 * e) (by omega) ?_
  have hb2 := hB 14 (4 * e)
  refine m_ial hY hA eX8_valueOf_33 (j := 14) (N := 120) (x := σ 14 (4 * e)) (by decide) rfl (by omega) rfl ?_
  refine z_imul hY eX8_valueOf_34 ?_
  refine z_iadd hY eX8_valueOf_35 ?_
  refine z_top (b := (σ 8 (4 * c)) * (σ 14 (4 * e))) (by omega) ?_
  refine z_istore hY eX8_valueOf_36 (ls' := [(3, z_i ((σ 8 (4 * c)) * (σ 14 (4 * e)))), (4, z_i 0), (0, .ref (A 40)), (1, z_i e), (2, z_i c)]) rfl ?_
  refine z_iinc hY eX8_valueOf_37 1 rfl (ls' := [(4, z_i (0 + 1)), (3, z_i ((σ 8 (4 * c)) * (σ 14 (4 * e)))), (0, .ref (A 40)), (1, z_i e), (2, z_i c)]) rfl ?_
  refine z_lq (ls' := [(4, z_i 1), (3, z_i ((σ 8 (4 * c)) * (σ 14 (4 * e)))), (0, .ref (A 40)), (1, z_i e), (2, z_i c)]) rfl ?_
  refine z_goto hY eX8_valueOf_40 ?_
  refine z_iload hY eX8_valueOf_5 0 rfl ?_
  refine z_const hY eX8_valueOf_7 ?_
  refine z_icmpge hY eX8_valueOf_8 (by omega) (fun c => absurd c (by omega)) (fun _ => ?_)
  refine z_iload hY eX8_valueOf_11 1 rfl ?_
  refine z_aload hY eX8_valueOf_12 2 rfl ?_
  refine m_gf hY hA eX8_valueOf_13 (v := .ref (A 8)) rfl ?_
  refine z_const hY eX8_valueOf_16 ?_
  refine z_iload hY eX8_valueOf_17 4 rfl ?_
  refine z_imul hY eX8_valueOf_18 ?_
  refine z_iload hY eX8_valueOf_19 0 rfl ?_
  refine z_iadd hY eX8_valueOf_21 ?_
  have hb3 := hB 8 (4 * c + 1)
  refine m_ial hY hA eX8_valueOf_22 (j := 8) (N := 16) (x := σ 8 (4 * c + 1)) (by decide) rfl (by omega) rfl ?_
  refine z_aload hY eX8_valueOf_23 2 rfl ?_
  refine m_gf hY hA eX8_valueOf_24 (v := .ref (A 14)) rfl ?_
  refine z_const hY eX8_valueOf_27 ?_
  refine z_iload hY eX8_valueOf_28 3 rfl ?_
  refine z_imul hY eX8_valueOf_29 ?_
  refine z_iload hY eX8_valueOf_30 0 rfl ?_
  refine z_iadd hY eX8_valueOf_32 ?_
  have hb4 := hB 14 (4 * e + 1)
  refine m_ial hY hA eX8_valueOf_33 (j := 14) (N := 120) (x := σ 14 (4 * e + 1)) (by decide) rfl (by omega) rfl ?_
  refine z_imul hY eX8_valueOf_34 ?_
  refine z_iadd hY eX8_valueOf_35 ?_
  refine z_istore hY eX8_valueOf_36 (ls' := [(3, z_i (((σ 8 (4 * c)) * (σ 14 (4 * e))) + ((σ 8 (4 * c + 1)) * (σ 14 (4 * e + 1))))), (4, z_i 1), (0, .ref (A 40)), (1, z_i e), (2, z_i c)]) rfl ?_
  refine z_iinc hY eX8_valueOf_37 1 rfl (ls' := [(4, z_i (1 + 1)), (3, z_i (((σ 8 (4 * c)) * (σ 14 (4 * e))) + ((σ 8 (4 * c + 1)) * (σ 14 (4 * e + 1))))), (0, .ref (A 40)), (1, z_i e), (2, z_i c)]) rfl ?_
  refine z_lq (ls' := [(4, z_i 2), (3, z_i (((σ 8 (4 * c)) * (σ 14 (4 * e))) + ((σ 8 (4 * c + 1)) * (σ 14 (4 * e + 1))))), (0, .ref (A 40)), (1, z_i e), (2, z_i c)]) rfl ?_
  refine z_goto hY eX8_valueOf_40 ?_
  refine z_iload hY eX8_valueOf_5 0 rfl ?_
  refine z_const hY eX8_valueOf_7 ?_
  refine z_icmpge hY eX8_valueOf_8 (by omega) (fun c => absurd c (by omega)) (fun _ => ?_)
  refine z_iload hY eX8_valueOf_11 1 rfl ?_
  refine z_aload hY eX8_valueOf_12 2 rfl ?_
  refine m_gf hY hA eX8_valueOf_13 (v := .ref (A 8)) rfl ?_
  refine z_const hY eX8_valueOf_16 ?_
  refine z_iload hY eX8_valueOf_17 4 rfl ?_
  refine z_imul hY eX8_valueOf_18 ?_
  refine z_iload hY eX8_valueOf_19 0 rfl ?_
  refine z_iadd hY eX8_valueOf_21 ?_
  have hb5 := hB 8 (4 * c + 2)
  refine m_ial hY hA eX8_valueOf_22 (j := 8) (N := 16) (x := σ 8 (4 * c + 2)) (by decide) rfl (by omega) rfl ?_
  refine z_aload hY eX8_valueOf_23 2 rfl ?_
  refine m_gf hY hA eX8_valueOf_24 (v := .ref (A 14)) rfl ?_
  refine z_const hY eX8_valueOf_27 ?_
  refine z_iload hY eX8_valueOf_28 3 rfl ?_
  refine z_imul hY eX8_valueOf_29 ?_
  refine z_iload hY eX8_valueOf_30 0 rfl ?_
  refine z_iadd hY eX8_valueOf_32 ?_
  have hb6 := hB 14 (4 * e + 2)
  refine m_ial hY hA eX8_valueOf_33 (j := 14) (N := 120) (x := σ 14 (4 * e + 2)) (by decide) rfl (by omega) rfl ?_
  refine z_imul hY eX8_valueOf_34 ?_
  refine z_iadd hY eX8_valueOf_35 ?_
  refine z_istore hY eX8_valueOf_36 (ls' := [(3, z_i (((σ 8 (4 * c)) * (σ 14 (4 * e))) + ((σ 8 (4 * c + 1)) * (σ 14 (4 * e + 1))) + ((σ 8 (4 * c + 2)) * (σ 14 (4 * e + 2))))), (4, z_i 2), (0, .ref (A 40)), (1, z_i e), (2, z_i c)]) rfl ?_
  refine z_iinc hY eX8_valueOf_37 1 rfl (ls' := [(4, z_i (2 + 1)), (3, z_i (((σ 8 (4 * c)) * (σ 14 (4 * e))) + ((σ 8 (4 * c + 1)) * (σ 14 (4 * e + 1))) + ((σ 8 (4 * c + 2)) * (σ 14 (4 * e + 2))))), (0, .ref (A 40)), (1, z_i e), (2, z_i c)]) rfl ?_
  refine z_lq (ls' := [(4, z_i 3), (3, z_i (((σ 8 (4 * c)) * (σ 14 (4 * e))) + ((σ 8 (4 * c + 1)) * (σ 14 (4 * e + 1))) + ((σ 8 (4 * c + 2)) * (σ 14 (4 * e + 2))))), (0, .ref (A 40)), (1, z_i e), (2, z_i c)]) rfl ?_
  refine z_goto hY eX8_valueOf_40 ?_
  refine z_iload hY eX8_valueOf_5 0 rfl ?_
  refine z_const hY eX8_valueOf_7 ?_
  refine z_icmpge hY eX8_valueOf_8 (by omega) (fun c => absurd c (by omega)) (fun _ => ?_)
  refine z_iload hY eX8_valueOf_11 1 rfl ?_
  refine z_aload hY eX8_valueOf_12 2 rfl ?_
  refine m_gf hY hA eX8_valueOf_13 (v := .ref (A 8)) rfl ?_
  refine z_const hY eX8_valueOf_16 ?_
  refine z_iload hY eX8_valueOf_17 4 rfl ?_
  refine z_imul hY eX8_valueOf_18 ?_
  refine z_iload hY eX8_valueOf_19 0 rfl ?_
  refine z_iadd hY eX8_valueOf_21 ?_
  have hb7 := hB 8 (4 * c + 3)
  refine m_ial hY hA eX8_valueOf_22 (j := 8) (N := 16) (x := σ 8 (4 * c + 3)) (by decide) rfl (by omega) rfl ?_
  refine z_aload hY eX8_valueOf_23 2 rfl ?_
  refine m_gf hY hA eX8_valueOf_24 (v := .ref (A 14)) rfl ?_
  refine z_const hY eX8_valueOf_27 ?_
  refine z_iload hY eX8_valueOf_28 3 rfl ?_
  refine z_imul hY eX8_valueOf_29 ?_
  refine z_iload hY eX8_valueOf_30 0 rfl ?_
  refine z_iadd hY eX8_valueOf_32 ?_
  have hb8 := hB 14 (4 * e + 3)
  refine m_ial hY hA eX8_valueOf_33 (j := 14) (N := 120) (x := σ 14 (4 * e + 3)) (by decide) rfl (by omega) rfl ?_
  refine z_imul hY eX8_valueOf_34 ?_
  refine z_iadd hY eX8_valueOf_35 ?_
  refine z_istore hY eX8_valueOf_36 (ls' := [(3, z_i (((σ 8 (4 * c)) * (σ 14 (4 * e))) + ((σ 8 (4 * c + 1)) * (σ 14 (4 * e + 1))) + ((σ 8 (4 * c + 2)) * (σ 14 (4 * e + 2))) + ((σ 8 (4 * c + 3)) * (σ 14 (4 * e + 3))))), (4, z_i 3), (0, .ref (A 40)), (1, z_i e), (2, z_i c)]) rfl ?_
  refine z_iinc hY eX8_valueOf_37 1 rfl (ls' := [(4, z_i (3 + 1)), (3, z_i (((σ 8 (4 * c)) * (σ 14 (4 * e))) + ((σ 8 (4 * c + 1)) * (σ 14 (4 * e + 1))) + ((σ 8 (4 * c + 2)) * (σ 14 (4 * e + 2))) + ((σ 8 (4 * c + 3)) * (σ 14 (4 * e + 3))))), (0, .ref (A 40)), (1, z_i e), (2, z_i c)]) rfl ?_
  refine z_lq (ls' := [(4, z_i 4), (3, z_i (((σ 8 (4 * c)) * (σ 14 (4 * e))) + ((σ 8 (4 * c + 1)) * (σ 14 (4 * e + 1))) + ((σ 8 (4 * c + 2)) * (σ 14 (4 * e + 2))) + ((σ 8 (4 * c + 3)) * (σ 14 (4 * e + 3))))), (0, .ref (A 40)), (1, z_i e), (2, z_i c)]) rfl ?_
  refine z_goto hY eX8_valueOf_40 ?_
  refine z_iload hY eX8_valueOf_5 0 rfl ?_
  refine z_const hY eX8_valueOf_7 ?_
  refine z_icmpge hY eX8_valueOf_8 (by omega) (fun _ => ?_) (fun c => absurd c (by omega))
  refine z_iload hY eX8_valueOf_43 1 rfl ?_
  exact z_ireturn hY eX8_valueOf_44 rfl (by rw [hφ]; exact ⟨congrArg (fun q => some (z_i q)) (by unfold vl; omega), rfl⟩) ⟨Nat.zero_le _, Nat.zero_le _⟩
end M1
