/-! THE LAW ends a round (laid by wip/p53/gen/gl79.py). -/
section LV6
section
variable {t : Nat} {m : Int} {o : Prop} {B B' : Nat → Int → Nat} {κ κ' : c_K} {A : Nat → Nat} {ρ σ σ' σ0 : z_S}
/-- as gS, but for the ladder's row, which may have moved on -/
def gW (t : Nat) (m : Int) (o : Prop) (B : Nat → Int → Nat) (κ : c_K) (A : Nat → Nat) (ρ σ : z_S) : Prop := ∃ σ0, gS t m o B κ A ρ σ0 ∧ (∀ k, k ≠ 9 → σ k = σ0 k) ∧ wB σ
theorem gW_X (h : gW t m o B κ A ρ σ) : gXX B κ A := by obtain ⟨_, q, -, -⟩ := h; exact gS_X q
theorem gW_b (h : gW t m o B κ A ρ σ) : wB σ := by obtain ⟨_, -, -, q⟩ := h; exact q
theorem gW_j (h : gW t m o B κ A ρ σ) : jJ t κ ρ := by obtain ⟨_, q, -, -⟩ := h; exact gS_j q
theorem gW_M (h : gW t m o B κ A ρ σ) : mV ρ := (gW_j h).V
theorem gW_19 (h : gW t m o B κ A ρ σ) : ρ 19 0 = σ 14 0 := by obtain ⟨_, q, e, -⟩ := h; rw [e 14 (by decide)]; exact gS_19 q
theorem gW_pr (h : gW t m o B κ A ρ σ) {e : Int} : pr ρ e ↔ (0 ≤ e ∧ e < σ 14 0 ∧ σ 7 e ≠ 0) := by obtain ⟨_, q, e, -⟩ := h; rw [e 14 (by decide), e 7 (by decide)]; exact gS_pr q
theorem gW_O (h : gW t m o B κ A ρ σ) (ho : o) : wO ρ σ := by
  obtain ⟨_, q, e, -⟩ := h
  have := gS_O q ho
  unfold wO at this ⊢
  rw [e 15 (by decide), e 4 (by decide), e 8 (by decide)]
  exact this
theorem gW_E (h : gW t m o B κ A ρ σ) (hE : wE σ' σ) (hB : wB σ') : gW t m o B κ A ρ σ' := by
  obtain ⟨σ0, q, e, -⟩ := h
  have e1 : wE (fun k => if k = 9 then σ0 9 else σ' k) σ0 := fun k h0 h6 h20 => by
    show (if k = 9 then σ0 9 else σ' k) = σ0 k
    by_cases c : k = 9
    · rw [if_pos c, c]
    · rw [if_neg c, hE k h0 h6 h20, e k c]
  refine ⟨_, gS_E q e1 (fun k i => ?_), fun k c => ?_, hB⟩
  · show wLo k ≤ (if k = 9 then σ0 9 else σ' k) i ∧ (if k = 9 then σ0 9 else σ' k) i ≤ wHi k
    by_cases c : k = 9
    · rw [if_pos c, c]; exact gS_b q 9 i
    · rw [if_neg c]; exact hB k i
  · show σ' k = if k = 9 then σ0 9 else σ' k
    rw [if_neg c]
theorem wW_vl (h : gW t m o B κ A ρ σ) (ho : o) {e c : Int} (he : 0 ≤ e ∧ e < 30) (hc : 0 ≤ c ∧ c < σ 15 0) : vl ρ e c = σ 4 (4 * c) * σ 2 (4 * e) + σ 4 (4 * c + 1) * σ 2 (4 * e + 1) + σ 4 (4 * c + 2) * σ 2 (4 * e + 2) + σ 4 (4 * c + 3) * σ 2 (4 * e + 3) := by
  obtain ⟨_, q, k, -⟩ := h
  rw [k 15 (by decide)] at hc
  rw [k 4 (by decide), k 2 (by decide)]
  exact wI_vl q ho he hc
/-- the law's ladder as the model's -/
def wLP (σ : z_S) : z_S := fun k => if k = 21 then σ 9 else if k = 25 then σ 16 else σ k
theorem w_round (h : gS t m o B κ A ρ σ) (hR : σ 19 0 < 40) (hF : ∀ k, k ≠ 0 → k ≠ 6 → k ≠ 20 → k ≠ 9 → k ≠ 5 → k ≠ 12 → k ≠ 13 → k ≠ 19 → σ' k = σ k) (h5 : ∀ i, 0 ≤ i → i < 30 → σ' 5 i = σ 2 (4 * i)) (h9 : ∀ i, 0 ≤ i → i < σ 16 0 → σ' 9 i = yFa ρ i) (h12 : ∀ e r, 0 ≤ e → e < 30 → 0 ≤ r → r < 40 → σ' 12 (40 * e + r) = if r = σ 19 0 then ygv ρ e else σ 12 (40 * e + r)) (h13 : ∀ r e, 0 ≤ r → r < 40 → 0 ≤ e → e < 30 → σ' 13 (30 * r + e) = if r = σ 19 0 then ypv ρ e else σ 13 (30 * r + e)) (h19 : σ' 19 0 = σ 19 0 + 1) (hB' : wB σ') (hκ : κ' = kEr κ) (hX' : gXX B' κ' A) (hJ' : cJ B' κ') (hV' : cV κ' ∧ cS κ') : gS t m o B' κ' A (yEr ρ) σ' := by
  have hS := gS_S h
  have hj := gS_j h
  have hz : ∀ {e : Int}, ρ 19 0 ≤ e ∧ e < 30 → jRz ρ e := fun q => (gS_R h).z q
  have b19 := (gS_b h).s19 0
  have n14 := (gS_b h).s14 0
  have pm := fall_pm hj.D (ρ 25 0).toNat (by have := hj.V.2.2.2.2.2.2.1; omega)
  obtain ⟨-, -, -, -, ⟨⟨s1, s2, s3, s4, s5⟩, ⟨e1, e2, e3, e4⟩, ⟨l1, l2⟩, hgg, htt⟩, hB, hp, hO⟩ := h
  have F : ∀ k, (k ≠ 0 ∧ k ≠ 6 ∧ k ≠ 20 ∧ k ≠ 9 ∧ k ≠ 5 ∧ k ≠ 12 ∧ k ≠ 13 ∧ k ≠ 19) → σ' k = σ k := fun k ⟨a, b, c, d, e, f, g, i⟩ => hF k a b c d e f g i
  have yk : ∀ k, (k ≠ 24 ∧ k ≠ 21 ∧ k ≠ 28 ∧ k ≠ 29 ∧ k ≠ 17 ∧ k ≠ 30) → yEr ρ k = ρ k := fun k ⟨a, b, c, d, e, f⟩ => by
    unfold yEr
    rw [z_u_ne f, z_ur_ne e, z_ur_ne d, z_ur_ne c, z_ur_ne b, z_ur_ne a]
  have y30 : yEr ρ 30 0 = ρ 30 0 + 1 := by unfold yEr; exact z_u_at
  have y17 : yEr ρ 17 = yBg ρ (ρ 19 0) := by unfold yEr; rw [z_u_ne (by decide), z_ur_at]
  have y29 : yEr ρ 29 = yP ρ 30 := by unfold yEr; rw [z_u_ne (by decide), z_ur_ne (by decide), z_ur_at]
  have y28 : yEr ρ 28 = yG ρ 30 := by unfold yEr; rw [z_u_ne (by decide), z_ur_ne (by decide), z_ur_ne (by decide), z_ur_at]
  have y21 : yEr ρ 21 = yFa ρ := by unfold yEr; rw [z_u_ne (by decide), z_ur_ne (by decide), z_ur_ne (by decide), z_ur_ne (by decide), z_ur_at]
  have k16 : σ' 16 = σ 16 := F 16 (by decide)
  refine ⟨hX', hJ', hV', hκ ▸ jJ_round hj hS (by omega), ⟨⟨?_, ?_, ?_, ?_, ?_⟩, ⟨fun j j0 j1 => ?_, fun e f0 f1 => ?_, fun e f0 f1 => ?_, fun e f0 f1 => ?_⟩, ⟨fun i i0 i1 => ?_, fun i i0 i1 => ?_⟩, fun e r f0 f1 r0 r1 => ?_, fun e r f0 f1 r0 r1 r2 => ?_⟩, hB', ?_, fun ho => ?_, ?_⟩
  · rw [yk 19 (by decide), F 14 (by decide)]; exact s1
  · rw [yk 25 (by decide), k16]; exact s2
  · rw [yk 26 (by decide), F 17 (by decide)]; exact s3
  · rw [yk 27 (by decide), F 18 (by decide)]; exact s4
  · rw [y30, h19, s5]
  · rw [yk 14 (by decide), F 2 (by decide)]; exact e1 j j0 j1
  · rw [yk 15 (by decide), F 3 (by decide)]; rw [F 14 (by decide)] at f1; exact e2 e f0 f1
  · rw [yk 18 (by decide), F 7 (by decide)]; exact e3 e f0 f1
  · rw [y17, h5 e f0 f1]
    show (if 0 ≤ e ∧ e < ρ 19 0 then ρ 14 (4 * e) else ρ 17 e) = _
    by_cases c : e < ρ 19 0
    · rw [if_pos ⟨f0, c⟩]; exact e1 _ (by omega) (by omega)
    · rw [if_neg (fun q => c q.2), (hz ⟨by omega, f1⟩).2.2.1, ← e1 _ (by omega) (by omega)]
      have := (hz (e := e) ⟨by omega, f1⟩).1 0 (by omega) (by omega)
      rw [show 4 * e + 0 = 4 * e by omega] at this
      exact this.symm
  · rw [k16] at i1
    rw [y21, h9 i i0 i1]
  · rw [k16] at i1
    rw [yk 22 (by decide), yk 23 (by decide), F 10 (by decide), F 11 (by decide), h9 i i0 i1]
    obtain ⟨j, j0, j1, j2⟩ := (pm.2 (yFa ρ i)).mp ⟨i, i0, by omega, rfl⟩
    have q := l2 j j0 (by omega)
    rw [← j2, l1 j j0 (by omega)]
    exact q
  · rw [y28, h12 e r f0 f1 r0 (by omega)]
    show (if (200 * e + r) % 200 = ρ 30 0 ∧ 0 ≤ 200 * e + r ∧ (200 * e + r) / 200 < 30 then ygv ρ ((200 * e + r) / 200) else ρ 28 (200 * e + r)) = _
    rw [show (200 * e + r) % 200 = r by omega, show (200 * e + r) / 200 = e by omega, s5]
    by_cases c : r = σ 19 0
    · rw [if_pos ⟨c, by omega, f1⟩, if_pos c]
    · rw [if_neg (fun q => c q.1), if_neg c]
      exact hgg e r f0 f1 r0 (by omega)
  · rw [y29, h13 r e r0 (by omega) f0 f1]
    show (if (20 * e + r % 20) % 20 = ρ 30 0 % 20 ∧ 0 ≤ 20 * e + r % 20 ∧ (20 * e + r % 20) / 20 < 30 then ypv ρ ((20 * e + r % 20) / 20) else ρ 29 (20 * e + r % 20)) = _
    rw [show (20 * e + r % 20) % 20 = r % 20 by omega, show (20 * e + r % 20) / 20 = e by omega, s5]
    by_cases c : r = σ 19 0
    · rw [if_pos ⟨by rw [c], by omega, f1⟩, if_pos c]
    · rw [if_neg (fun q => by have := q.1; omega), if_neg c]
      exact htt e r f0 f1 r0 (by omega) (by omega)
  · rw [F 2 (by decide)]; exact hp
  · have hh := hO.1 ho
    unfold wO
    rw [yk 12 (by decide), yk 8 (by decide), yk 10 (by decide), F 15 (by decide), F 4 (by decide), F 8 (by decide)]
    exact hh
  · rw [yk 2 (by decide)]; exact hO.2
end
theorem la_valueOfW {G : z_G} {D : Nat} {B : Nat → Int → Nat} {κ : c_K} {A : Nat → Nat} {ρ σ : z_S} {h : z_H} {t : Nat} {m : Int} {o : Prop} (hG : z_OK G) (hI : gW t m o B κ A ρ σ) (ho : o) {e c : Int} (he : 0 ≤ e ∧ e < 30) (hc : 0 ≤ c ∧ c < σ 15 0) : z_Tr G mL_valueOf [.ref (A 40), z_i e, z_i c] (gH D B κ A σ h) 0 (z_i (vl ρ e c)) := by
  refine z_T_of hG pL_valueOf (Nat.le_of_ble_eq_true rfl) (ls0 := [(0, .ref (A 40)), (1, z_i e), (2, z_i c)]) rfl fun Y hY hg hmc hms hφ hψ => ?_
  subst hg
  have hc4 := (gW_b hI).s15 0
  have hvl := wW_vl hI ho he hc
  refine z_const hY eL_valueOf_0 ?_
  refine z_istore hY eL_valueOf_1 (ls' := [(3, z_i 0), (0, .ref (A 40)), (1, z_i e), (2, z_i c)]) rfl ?_
  refine z_const hY eL_valueOf_2 ?_
  refine z_istore hY eL_valueOf_3 (ls' := [(4, z_i 0), (3, z_i 0), (0, .ref (A 40)), (1, z_i e), (2, z_i c)]) rfl ?_
  refine z_iload hY eL_valueOf_5 0 rfl ?_
  refine z_const hY eL_valueOf_7 ?_
  refine z_icmpge hY eL_valueOf_8 (by omega) (fun c => absurd c (by omega)) (fun _ => ?_)
  refine z_iload hY eL_valueOf_11 1 rfl ?_
  refine z_aload hY eL_valueOf_12 2 rfl ?_
  refine g_gf hY (gW_X hI) eL_valueOf_13 (v := .ref (A 4)) rfl ?_
  refine z_const hY eL_valueOf_16 ?_
  refine z_iload hY eL_valueOf_17 4 rfl ?_
  refine z_imul hY eL_valueOf_18 ?_
  refine z_iload hY eL_valueOf_19 0 rfl ?_
  refine z_iadd hY eL_valueOf_21 ?_
  refine z_top (b := 4 * c) (by omega) ?_
  have hb1 := (gW_b hI).s4 (4 * c)
  refine g_ial hY (gW_X hI) eL_valueOf_22 (j := 4) (N := 16) (x := σ 4 (4 * c)) (by decide) rfl (by omega) rfl ?_
  refine z_aload hY eL_valueOf_23 2 rfl ?_
  refine g_gf hY (gW_X hI) eL_valueOf_24 (v := .ref (A 2)) rfl ?_
  refine z_const hY eL_valueOf_27 ?_
  refine z_iload hY eL_valueOf_28 3 rfl ?_
  refine z_imul hY eL_valueOf_29 ?_
  refine z_iload hY eL_valueOf_30 0 rfl ?_
  refine z_iadd hY eL_valueOf_32 ?_
  refine z_top (b := 4 * e) (by omega) ?_
  have hb2 := (gW_b hI).s2 (4 * e)
  refine g_ial hY (gW_X hI) eL_valueOf_33 (j := 2) (N := 120) (x := σ 2 (4 * e)) (by decide) rfl (by omega) rfl ?_
  refine z_imul hY eL_valueOf_34 ?_
  refine z_iadd hY eL_valueOf_35 ?_
  refine z_top (b := (σ 4 (4 * c)) * (σ 2 (4 * e))) (by omega) ?_
  refine z_istore hY eL_valueOf_36 (ls' := [(3, z_i ((σ 4 (4 * c)) * (σ 2 (4 * e)))), (4, z_i 0), (0, .ref (A 40)), (1, z_i e), (2, z_i c)]) rfl ?_
  refine z_iinc hY eL_valueOf_37 1 rfl (ls' := [(4, z_i (0 + 1)), (3, z_i ((σ 4 (4 * c)) * (σ 2 (4 * e)))), (0, .ref (A 40)), (1, z_i e), (2, z_i c)]) rfl ?_
  refine z_lq (ls' := [(4, z_i 1), (3, z_i ((σ 4 (4 * c)) * (σ 2 (4 * e)))), (0, .ref (A 40)), (1, z_i e), (2, z_i c)]) rfl ?_
  refine z_goto hY eL_valueOf_40 ?_
  refine z_iload hY eL_valueOf_5 0 rfl ?_
  refine z_const hY eL_valueOf_7 ?_
  refine z_icmpge hY eL_valueOf_8 (by omega) (fun c => absurd c (by omega)) (fun _ => ?_)
  refine z_iload hY eL_valueOf_11 1 rfl ?_
  refine z_aload hY eL_valueOf_12 2 rfl ?_
  refine g_gf hY (gW_X hI) eL_valueOf_13 (v := .ref (A 4)) rfl ?_
  refine z_const hY eL_valueOf_16 ?_
  refine z_iload hY eL_valueOf_17 4 rfl ?_
  refine z_imul hY eL_valueOf_18 ?_
  refine z_iload hY eL_valueOf_19 0 rfl ?_
  refine z_iadd hY eL_valueOf_21 ?_
  have hb3 := (gW_b hI).s4 (4 * c + 1)
  refine g_ial hY (gW_X hI) eL_valueOf_22 (j := 4) (N := 16) (x := σ 4 (4 * c + 1)) (by decide) rfl (by omega) rfl ?_
  refine z_aload hY eL_valueOf_23 2 rfl ?_
  refine g_gf hY (gW_X hI) eL_valueOf_24 (v := .ref (A 2)) rfl ?_
  refine z_const hY eL_valueOf_27 ?_
  refine z_iload hY eL_valueOf_28 3 rfl ?_
  refine z_imul hY eL_valueOf_29 ?_
  refine z_iload hY eL_valueOf_30 0 rfl ?_
  refine z_iadd hY eL_valueOf_32 ?_
  have hb4 := (gW_b hI).s2 (4 * e + 1)
  refine g_ial hY (gW_X hI) eL_valueOf_33 (j := 2) (N := 120) (x := σ 2 (4 * e + 1)) (by decide) rfl (by omega) rfl ?_
  refine z_imul hY eL_valueOf_34 ?_
  refine z_iadd hY eL_valueOf_35 ?_
  refine z_istore hY eL_valueOf_36 (ls' := [(3, z_i (((σ 4 (4 * c)) * (σ 2 (4 * e))) + ((σ 4 (4 * c + 1)) * (σ 2 (4 * e + 1))))), (4, z_i 1), (0, .ref (A 40)), (1, z_i e), (2, z_i c)]) rfl ?_
  refine z_iinc hY eL_valueOf_37 1 rfl (ls' := [(4, z_i (1 + 1)), (3, z_i (((σ 4 (4 * c)) * (σ 2 (4 * e))) + ((σ 4 (4 * c + 1)) * (σ 2 (4 * e + 1))))), (0, .ref (A 40)), (1, z_i e), (2, z_i c)]) rfl ?_
  refine z_lq (ls' := [(4, z_i 2), (3, z_i (((σ 4 (4 * c)) * (σ 2 (4 * e))) + ((σ 4 (4 * c + 1)) * (σ 2 (4 * e + 1))))), (0, .ref (A 40)), (1, z_i e), (2, z_i c)]) rfl ?_
  refine z_goto hY eL_valueOf_40 ?_
  refine z_iload hY eL_valueOf_5 0 rfl ?_
  refine z_const hY eL_valueOf_7 ?_
  refine z_icmpge hY eL_valueOf_8 (by omega) (fun c => absurd c (by omega)) (fun _ => ?_)
  refine z_iload hY eL_valueOf_11 1 rfl ?_
  refine z_aload hY eL_valueOf_12 2 rfl ?_
  refine g_gf hY (gW_X hI) eL_valueOf_13 (v := .ref (A 4)) rfl ?_
  refine z_const hY eL_valueOf_16 ?_
  refine z_iload hY eL_valueOf_17 4 rfl ?_
  refine z_imul hY eL_valueOf_18 ?_
  refine z_iload hY eL_valueOf_19 0 rfl ?_
  refine z_iadd hY eL_valueOf_21 ?_
  have hb5 := (gW_b hI).s4 (4 * c + 2)
  refine g_ial hY (gW_X hI) eL_valueOf_22 (j := 4) (N := 16) (x := σ 4 (4 * c + 2)) (by decide) rfl (by omega) rfl ?_
  refine z_aload hY eL_valueOf_23 2 rfl ?_
  refine g_gf hY (gW_X hI) eL_valueOf_24 (v := .ref (A 2)) rfl ?_
  refine z_const hY eL_valueOf_27 ?_
  refine z_iload hY eL_valueOf_28 3 rfl ?_
  refine z_imul hY eL_valueOf_29 ?_
  refine z_iload hY eL_valueOf_30 0 rfl ?_
  refine z_iadd hY eL_valueOf_32 ?_
  have hb6 := (gW_b hI).s2 (4 * e + 2)
  refine g_ial hY (gW_X hI) eL_valueOf_33 (j := 2) (N := 120) (x := σ 2 (4 * e + 2)) (by decide) rfl (by omega) rfl ?_
  refine z_imul hY eL_valueOf_34 ?_
  refine z_iadd hY eL_valueOf_35 ?_
  refine z_istore hY eL_valueOf_36 (ls' := [(3, z_i (((σ 4 (4 * c)) * (σ 2 (4 * e))) + ((σ 4 (4 * c + 1)) * (σ 2 (4 * e + 1))) + ((σ 4 (4 * c + 2)) * (σ 2 (4 * e + 2))))), (4, z_i 2), (0, .ref (A 40)), (1, z_i e), (2, z_i c)]) rfl ?_
  refine z_iinc hY eL_valueOf_37 1 rfl (ls' := [(4, z_i (2 + 1)), (3, z_i (((σ 4 (4 * c)) * (σ 2 (4 * e))) + ((σ 4 (4 * c + 1)) * (σ 2 (4 * e + 1))) + ((σ 4 (4 * c + 2)) * (σ 2 (4 * e + 2))))), (0, .ref (A 40)), (1, z_i e), (2, z_i c)]) rfl ?_
  refine z_lq (ls' := [(4, z_i 3), (3, z_i (((σ 4 (4 * c)) * (σ 2 (4 * e))) + ((σ 4 (4 * c + 1)) * (σ 2 (4 * e + 1))) + ((σ 4 (4 * c + 2)) * (σ 2 (4 * e + 2))))), (0, .ref (A 40)), (1, z_i e), (2, z_i c)]) rfl ?_
  refine z_goto hY eL_valueOf_40 ?_
  refine z_iload hY eL_valueOf_5 0 rfl ?_
  refine z_const hY eL_valueOf_7 ?_
  refine z_icmpge hY eL_valueOf_8 (by omega) (fun c => absurd c (by omega)) (fun _ => ?_)
  refine z_iload hY eL_valueOf_11 1 rfl ?_
  refine z_aload hY eL_valueOf_12 2 rfl ?_
  refine g_gf hY (gW_X hI) eL_valueOf_13 (v := .ref (A 4)) rfl ?_
  refine z_const hY eL_valueOf_16 ?_
  refine z_iload hY eL_valueOf_17 4 rfl ?_
  refine z_imul hY eL_valueOf_18 ?_
  refine z_iload hY eL_valueOf_19 0 rfl ?_
  refine z_iadd hY eL_valueOf_21 ?_
  have hb7 := (gW_b hI).s4 (4 * c + 3)
  refine g_ial hY (gW_X hI) eL_valueOf_22 (j := 4) (N := 16) (x := σ 4 (4 * c + 3)) (by decide) rfl (by omega) rfl ?_
  refine z_aload hY eL_valueOf_23 2 rfl ?_
  refine g_gf hY (gW_X hI) eL_valueOf_24 (v := .ref (A 2)) rfl ?_
  refine z_const hY eL_valueOf_27 ?_
  refine z_iload hY eL_valueOf_28 3 rfl ?_
  refine z_imul hY eL_valueOf_29 ?_
  refine z_iload hY eL_valueOf_30 0 rfl ?_
  refine z_iadd hY eL_valueOf_32 ?_
  have hb8 := (gW_b hI).s2 (4 * e + 3)
  refine g_ial hY (gW_X hI) eL_valueOf_33 (j := 2) (N := 120) (x := σ 2 (4 * e + 3)) (by decide) rfl (by omega) rfl ?_
  refine z_imul hY eL_valueOf_34 ?_
  refine z_iadd hY eL_valueOf_35 ?_
  refine z_istore hY eL_valueOf_36 (ls' := [(3, z_i (((σ 4 (4 * c)) * (σ 2 (4 * e))) + ((σ 4 (4 * c + 1)) * (σ 2 (4 * e + 1))) + ((σ 4 (4 * c + 2)) * (σ 2 (4 * e + 2))) + ((σ 4 (4 * c + 3)) * (σ 2 (4 * e + 3))))), (4, z_i 3), (0, .ref (A 40)), (1, z_i e), (2, z_i c)]) rfl ?_
  refine z_iinc hY eL_valueOf_37 1 rfl (ls' := [(4, z_i (3 + 1)), (3, z_i (((σ 4 (4 * c)) * (σ 2 (4 * e))) + ((σ 4 (4 * c + 1)) * (σ 2 (4 * e + 1))) + ((σ 4 (4 * c + 2)) * (σ 2 (4 * e + 2))) + ((σ 4 (4 * c + 3)) * (σ 2 (4 * e + 3))))), (0, .ref (A 40)), (1, z_i e), (2, z_i c)]) rfl ?_
  refine z_lq (ls' := [(4, z_i 4), (3, z_i (((σ 4 (4 * c)) * (σ 2 (4 * e))) + ((σ 4 (4 * c + 1)) * (σ 2 (4 * e + 1))) + ((σ 4 (4 * c + 2)) * (σ 2 (4 * e + 2))) + ((σ 4 (4 * c + 3)) * (σ 2 (4 * e + 3))))), (0, .ref (A 40)), (1, z_i e), (2, z_i c)]) rfl ?_
  refine z_goto hY eL_valueOf_40 ?_
  refine z_iload hY eL_valueOf_5 0 rfl ?_
  refine z_const hY eL_valueOf_7 ?_
  refine z_icmpge hY eL_valueOf_8 (by omega) (fun _ => ?_) (fun c => absurd c (by omega))
  refine z_iload hY eL_valueOf_43 1 rfl ?_
  exact z_ireturn hY eL_valueOf_44 rfl (by rw [hφ]; exact ⟨congrArg (fun q => some (z_i q)) (by rw [hvl]; try omega), rfl⟩) ⟨Nat.zero_le _, Nat.zero_le _⟩
theorem la_comparesW {G : z_G} {D : Nat} {B : Nat → Int → Nat} {κ : c_K} {A : Nat → Nat} {ρ σ : z_S} {h : z_H} {t : Nat} {m : Int} {o : Prop} (hG : z_OK G) (hI : gW t m o B κ A ρ σ) (ho : o) {e f : Int} (he : 0 ≤ e ∧ e < 30) (hf : 0 ≤ f ∧ f < 30) : z_Tr G mL_compares [.ref (A 40), z_i e, z_i f] (gH D B κ A σ h) 1 (z_i (cp ρ e f)) := by
  refine z_T_of hG pL_compares (Nat.le_of_ble_eq_true rfl) (ls0 := [(0, .ref (A 40)), (1, z_i e), (2, z_i f)]) rfl fun Y hY hg hmc hms hφ hψ => ?_
  subst hg
  have hc4 := (gW_b hI).s15 0
  have hO := gW_O hI ho
  refine z_const hY eL_compares_0 ?_
  refine z_istore hY eL_compares_1 (ls' := [(3, z_i 0), (0, .ref (A 40)), (1, z_i e), (2, z_i f)]) rfl ?_
  refine z_sub [1, 2, 3, 0] (ls' := [(0, .ref (A 40)), (1, z_i e), (2, z_i f), (3, z_i 0)]) rfl ?_
  have lp2 : ∀ (fu : Nat) (c : Int), (σ 15 0 - c).toNat < fu → (0 ≤ c ∧ c ≤ σ 15 0) → (cm ρ e f (ρ 12 0 - c).toNat c = cp ρ e f) → z_W Y 2 [(0, .ref (A 40)), (1, z_i e), (2, z_i f), (3, z_i c)] [] (gH D B κ A σ h) 0 0 := by
    intro fu
    induction fu with
    | zero => intro c hf; exact absurd hf (Nat.not_lt_zero _)
    | succ fu ih2 =>
      intro c hf hc hn
      refine z_iload hY eL_compares_2 3 rfl ?_
      refine z_aload hY eL_compares_3 0 rfl ?_
      have hb1 := (gW_b hI).s15 0
      refine g_gf hY (gW_X hI) eL_compares_4 (v := z_i (σ 15 0)) rfl ?_
      refine z_icmpge hY eL_compares_7 (by omega) (fun c7 => ?_) (fun c7 => ?_)
      · refine z_const hY eL_compares_66 ?_
        exact z_ireturn hY eL_compares_67 rfl (by rw [hφ]; exact ⟨congrArg (fun q => some (z_i q)) (by rw [← hn, cm_e (by rw [hO.1]; omega)]), rfl⟩) ⟨Nat.zero_le _, Nat.zero_le _⟩
      · refine z_aload hY eL_compares_10 0 rfl ?_
        refine z_iload hY eL_compares_11 1 rfl ?_
        refine z_iload hY eL_compares_12 3 rfl ?_
        refine z_callVr (As := [z_i e, z_i c]) (rest := []) (r := z_i (vl ρ e c)) hY eL_compares_13 (la_valueOfW hG hI ho (e := e) (c := c) (by omega) (by omega)) ((gH_at (gW_X hI) (by decide)).trans (congrArg some lC_40)) (by decide) (Nat.le_of_ble_eq_true rfl) ⟨Nat.zero_le _, Nat.zero_le _⟩ ?_
        have hv2 := vl_b (gW_M hI) e c
        refine z_aload hY eL_compares_16 0 rfl ?_
        refine z_iload hY eL_compares_17 2 rfl ?_
        refine z_iload hY eL_compares_18 3 rfl ?_
        refine z_callVr (As := [z_i f, z_i c]) (rest := [z_i (vl ρ e c)]) (r := z_i (vl ρ f c)) hY eL_compares_19 (la_valueOfW hG hI ho (e := f) (c := c) (by omega) (by omega)) ((gH_at (gW_X hI) (by decide)).trans (congrArg some lC_40)) (by decide) (Nat.le_of_ble_eq_true rfl) ⟨Nat.zero_le _, Nat.zero_le _⟩ ?_
        have hv3 := vl_b (gW_M hI) f c
        refine z_icmpeq hY eL_compares_22 (by omega) (fun c22 => ?_) (fun c22 => ?_)
        · refine z_iinc hY eL_compares_60 3 rfl (ls' := [(3, z_i (c + 1)), (0, .ref (A 40)), (1, z_i e), (2, z_i f)]) rfl ?_
          refine z_goto hY eL_compares_63 ?_
          refine z_sub [1, 2, 3, 0] (ls' := [(0, .ref (A 40)), (1, z_i e), (2, z_i f), (3, z_i (c + 1))]) rfl ?_
          exact ih2 (c + 1) (by omega) (by omega) (by rw [← hn]; exact (cm_f (by rw [hO.1]; omega) (by omega)).symm)
        · refine z_aload hY eL_compares_25 0 rfl ?_
          refine z_iload hY eL_compares_26 1 rfl ?_
          refine z_iload hY eL_compares_27 3 rfl ?_
          refine z_callVr (As := [z_i e, z_i c]) (rest := []) (r := z_i (vl ρ e c)) hY eL_compares_28 (la_valueOfW hG hI ho (e := e) (c := c) (by omega) (by omega)) ((gH_at (gW_X hI) (by decide)).trans (congrArg some lC_40)) (by decide) (Nat.le_of_ble_eq_true rfl) ⟨Nat.zero_le _, Nat.zero_le _⟩ ?_
          have hv4 := vl_b (gW_M hI) e c
          refine z_aload hY eL_compares_31 0 rfl ?_
          refine z_iload hY eL_compares_32 2 rfl ?_
          refine z_iload hY eL_compares_33 3 rfl ?_
          refine z_callVr (As := [z_i f, z_i c]) (rest := [z_i (vl ρ e c)]) (r := z_i (vl ρ f c)) hY eL_compares_34 (la_valueOfW hG hI ho (e := f) (c := c) (by omega) (by omega)) ((gH_at (gW_X hI) (by decide)).trans (congrArg some lC_40)) (by decide) (Nat.le_of_ble_eq_true rfl) ⟨Nat.zero_le _, Nat.zero_le _⟩ ?_
          have hv5 := vl_b (gW_M hI) f c
          refine z_icmple hY eL_compares_37 (by omega) (fun c37 => ?_) (fun c37 => ?_)
          · refine z_const hY eL_compares_44 ?_
            refine z_aload hY eL_compares_45 0 rfl ?_
            refine g_gf hY (gW_X hI) eL_compares_46 (v := .ref (A 8)) rfl ?_
            refine z_iload hY eL_compares_49 3 rfl ?_
            have hb6 := (gW_b hI).s8 c
            refine g_bal hY (gW_X hI) eL_compares_50 (j := 8) (N := 4) (x := σ 8 c) (by decide) rfl (by omega) rfl ?_
            refine z_icmpne hY eL_compares_51 (by omega) (fun c51 => ?_) (fun c51 => ?_)
            · refine z_const hY eL_compares_58 ?_
              exact z_ireturn hY eL_compares_59 rfl (by rw [hφ]; exact ⟨congrArg (fun q => some (z_i q)) (by rw [← hn, cm_t (by rw [hO.1]; omega) (by omega), hO.2.2 c (by omega) (by omega)]; split <;> first | rfl | (rename_i q9; exfalso; omega)), rfl⟩) ⟨Nat.zero_le _, Nat.zero_le _⟩
            · refine z_const hY eL_compares_54 ?_
              refine z_goto hY eL_compares_55 ?_
              exact z_ireturn hY eL_compares_59 rfl (by rw [hφ]; exact ⟨congrArg (fun q => some (z_i q)) (by rw [← hn, cm_t (by rw [hO.1]; omega) (by omega), hO.2.2 c (by omega) (by omega)]; split <;> first | rfl | (rename_i q9; exfalso; omega)), rfl⟩) ⟨Nat.zero_le _, Nat.zero_le _⟩
          · refine z_const hY eL_compares_40 ?_
            refine z_goto hY eL_compares_41 ?_
            refine z_aload hY eL_compares_45 0 rfl ?_
            refine g_gf hY (gW_X hI) eL_compares_46 (v := .ref (A 8)) rfl ?_
            refine z_iload hY eL_compares_49 3 rfl ?_
            have hb7 := (gW_b hI).s8 c
            refine g_bal hY (gW_X hI) eL_compares_50 (j := 8) (N := 4) (x := σ 8 c) (by decide) rfl (by omega) rfl ?_
            refine z_icmpne hY eL_compares_51 (by omega) (fun c51 => ?_) (fun c51 => ?_)
            · refine z_const hY eL_compares_58 ?_
              exact z_ireturn hY eL_compares_59 rfl (by rw [hφ]; exact ⟨congrArg (fun q => some (z_i q)) (by rw [← hn, cm_t (by rw [hO.1]; omega) (by omega), hO.2.2 c (by omega) (by omega)]; split <;> first | rfl | (rename_i q9; exfalso; omega)), rfl⟩) ⟨Nat.zero_le _, Nat.zero_le _⟩
            · refine z_const hY eL_compares_54 ?_
              refine z_goto hY eL_compares_55 ?_
              exact z_ireturn hY eL_compares_59 rfl (by rw [hφ]; exact ⟨congrArg (fun q => some (z_i q)) (by rw [← hn, cm_t (by rw [hO.1]; omega) (by omega), hO.2.2 c (by omega) (by omega)]; split <;> first | rfl | (rename_i q9; exfalso; omega)), rfl⟩) ⟨Nat.zero_le _, Nat.zero_le _⟩
  exact lp2 _ 0 (Nat.lt_succ_self _) (by omega) rfl
theorem la_sortsW {G : z_G} {D : Nat} {B : Nat → Int → Nat} {κ : c_K} {A : Nat → Nat} {ρ σ : z_S} {h : z_H} {t : Nat} {m : Int} {o : Prop} (hG : z_OK G) (hI : gW t m o B κ A ρ σ) (ho : o) : z_T G mL_sorts [.ref (A 40)] (gH D B κ A σ h) 2 0 0 (fun v h' => ∃ σ' : z_S, v = some (z_i (my ρ)) ∧ (wE σ' σ ∧ wB σ' ∧ wRow ρ (σ' 6)) ∧ h' = gH D B κ A σ' h) (z_no) := by
  refine z_T_of hG pL_sorts (Nat.le_of_ble_eq_true rfl) (ls0 := [(0, .ref (A 40))]) rfl fun Y hY hg hmc hms hφ hψ => ?_
  subst hg
  have hn14 := (gW_b hI).s14 0
  have h19 := gW_19 hI
  refine z_const hY eL_sorts_0 ?_
  refine z_istore hY eL_sorts_1 (ls' := [(1, z_i 0), (0, .ref (A 40))]) rfl ?_
  refine z_const hY eL_sorts_2 ?_
  refine z_istore hY eL_sorts_3 (ls' := [(2, z_i 0), (1, z_i 0), (0, .ref (A 40))]) rfl ?_
  refine z_sub [2, 1, 0] (ls' := [(0, .ref (A 40)), (1, z_i 0), (2, z_i 0)]) rfl ?_
  have lp4 : ∀ (fu : Nat) (n : Int) (e : Int) (σ1 : z_S), (σ 14 0 - e).toNat < fu → (0 ≤ n ∧ n ≤ e ∧ e ≤ σ 14 0) → (wE σ1 σ) → (wB σ1) → (jS (hh ρ) (fun x => pr ρ x ∧ x < e) (σ1 6) n) → z_W Y 4 [(0, .ref (A 40)), (1, z_i n), (2, z_i e)] [] (gH D B κ A σ1 h) 0 0 := by
    intro fu
    induction fu with
    | zero => intro n e σ1 hf; exact absurd hf (Nat.not_lt_zero _)
    | succ fu ih4 =>
      intro n e σ1 hf hc hE hw hJ
      refine z_iload hY eL_sorts_4 2 rfl ?_
      refine z_aload hY eL_sorts_5 0 rfl ?_
      have hb1 := (gW_b hI).s14 0
      refine g_gf hY (gW_X hI) eL_sorts_6 (v := z_i (σ 14 0)) (congrArg (fun q => some (z_i q)) (congrFun (hE 14 (by decide) (by decide) (by decide)) _)) ?_
      refine z_icmpge hY eL_sorts_9 (by omega) (fun c9 => ?_) (fun c9 => ?_)
      · refine z_iload hY eL_sorts_82 1 rfl ?_
        exact z_ireturn hY eL_sorts_83 rfl (by rw [hφ]; obtain ⟨w1, w2⟩ := w_row (gW_j hI) (f := σ1 6) (n := n) (by rw [h19, show σ 14 0 = e by omega]; exact hJ); exact ⟨σ1, by rw [w1], ⟨hE, hw, w2⟩, rfl⟩) ⟨Nat.zero_le _, Nat.zero_le _⟩
      · refine z_aload hY eL_sorts_12 0 rfl ?_
        refine g_gf hY (gW_X hI) eL_sorts_13 (v := .ref (A 7)) rfl ?_
        refine z_iload hY eL_sorts_16 2 rfl ?_
        have hb2 := (gW_b hI).s7 e
        refine g_bal hY (gW_X hI) eL_sorts_17 (j := 7) (N := 30) (x := σ 7 e) (by decide) rfl (by omega) (congrFun (hE 7 (by decide) (by decide) (by decide)) _) ?_
        refine z_ifne hY eL_sorts_18 (by omega) (fun c18 => ?_) (fun c18 => ?_)
        · have hpe : pr ρ e := (gW_pr hI).mpr ⟨by omega, by omega, by omega⟩
          refine z_iload hY eL_sorts_24 1 rfl ?_
          refine z_istore hY eL_sorts_25 (ls' := [(3, z_i n), (0, .ref (A 40)), (1, z_i n), (2, z_i e)]) rfl ?_
          refine z_sub [1, 2, 3, 0] (ls' := [(0, .ref (A 40)), (1, z_i n), (2, z_i e), (3, z_i n)]) rfl ?_
          have lp26 : ∀ (fu : Nat) (a : Int) (σ2 : z_S), (a).toNat < fu → (0 ≤ a ∧ a ≤ n) → (wE σ2 σ) → (wB σ2) → (∀ j, j < a → σ2 6 j = σ1 6 j) → (∀ j, a < j → j ≤ n → σ2 6 j = σ1 6 (j - 1)) → (∀ j, a ≤ j → j < n → hh ρ e (σ1 6 j)) → z_W Y 26 [(0, .ref (A 40)), (1, z_i n), (2, z_i e), (3, z_i a)] [] (gH D B κ A σ2 h) 0 0 := by
            intro fu
            induction fu with
            | zero => intro a σ2 hf; exact absurd hf (Nat.not_lt_zero _)
            | succ fu ih26 =>
              intro a σ2 hf ha hE2 hw2 f1 f3 h2
              refine z_iload hY eL_sorts_26 3 rfl ?_
              refine z_ifle hY eL_sorts_27 (by omega) (fun c27 => ?_) (fun c27 => ?_)
              · refine z_aload hY eL_sorts_66 0 rfl ?_
                refine g_gf hY (gW_X hI) eL_sorts_67 (v := .ref (A 6)) rfl ?_
                refine z_iload hY eL_sorts_70 3 rfl ?_
                refine z_iload hY eL_sorts_71 2 rfl ?_
                refine g_ias hY (gW_X hI) eL_sorts_72 (j := 6) (N := 30) (by decide) (fun _ => rfl) (by omega) ?_
                refine z_iinc hY eL_sorts_73 1 rfl (ls' := [(1, z_i (n + 1)), (0, .ref (A 40)), (2, z_i e), (3, z_i a)]) rfl ?_
                refine z_iinc hY eL_sorts_76 2 rfl (ls' := [(2, z_i (e + 1)), (1, z_i (n + 1)), (0, .ref (A 40)), (3, z_i a)]) rfl ?_
                refine z_goto hY eL_sorts_79 ?_
                refine z_sub [2, 1, 0] (ls' := [(0, .ref (A 40)), (1, z_i (n + 1)), (2, z_i (e + 1))]) rfl ?_
                exact ih4 (n + 1) (e + 1) (z_u σ2 6 a e) (by omega) (by omega) (wE_u hE2 (by decide)) (wB_u hw2 (by show (-100000 : Int) ≤ _ ∧ _ ≤ (100000 : Int); omega)) (w_ins hJ (a := a) (by omega) h2 (by first | exact Or.inl (by omega) | exact Or.inr hx) hpe (fun j j0 j1 => (z_u_at' (by omega)).trans (f1 j j1)) z_u_at (fun j j0 j1 => (z_u_at' (by omega)).trans (f3 j j0 j1)))
              · refine z_aload hY eL_sorts_30 0 rfl ?_
                refine z_iload hY eL_sorts_31 2 rfl ?_
                refine z_aload hY eL_sorts_32 0 rfl ?_
                refine g_gf hY (gW_X hI) eL_sorts_33 (v := .ref (A 6)) rfl ?_
                refine z_iload hY eL_sorts_36 3 rfl ?_
                refine z_const hY eL_sorts_37 ?_
                refine z_isub hY eL_sorts_38 ?_
                have hb3 := hw2.s6 (a - 1)
                refine g_ial hY (gW_X hI) eL_sorts_39 (j := 6) (N := 30) (x := σ2 6 (a - 1)) (by decide) rfl (by omega) rfl ?_
                have hq := hJ.2.1 (a - 1) (by omega) (by omega)
                have hq2 := pr_b hq.1
                have hq3 := f1 (a - 1) (by omega)
                have hq4 := hq.2
                refine z_callVr (As := [z_i e, z_i (σ2 6 (a - 1))]) (rest := []) (r := z_i (cp ρ e (σ2 6 (a - 1)))) hY eL_sorts_40 (la_comparesW hG (gW_E hI hE2 hw2) ho (e := e) (f := (σ2 6 (a - 1))) (by omega) (by omega)) ((gH_at (gW_X hI) (by decide)).trans (congrArg some lC_40)) (by decide) (Nat.le_of_ble_eq_true rfl) ⟨Nat.zero_le _, Nat.zero_le _⟩ ?_
                have hv4 := cp_b ρ e (σ2 6 (a - 1))
                refine z_ifle hY eL_sorts_43 (by omega) (fun c43 => ?_) (fun c43 => ?_)
                · have hx : hh ρ (σ1 6 (a - 1)) e := Or.inr ⟨by omega, fun q => by have := (w_cp (gW_M hI) e _).1.mpr q; rw [← hq3] at this; omega⟩
                  refine z_aload hY eL_sorts_66 0 rfl ?_
                  refine g_gf hY (gW_X hI) eL_sorts_67 (v := .ref (A 6)) rfl ?_
                  refine z_iload hY eL_sorts_70 3 rfl ?_
                  refine z_iload hY eL_sorts_71 2 rfl ?_
                  refine g_ias hY (gW_X hI) eL_sorts_72 (j := 6) (N := 30) (by decide) (fun _ => rfl) (by omega) ?_
                  refine z_iinc hY eL_sorts_73 1 rfl (ls' := [(1, z_i (n + 1)), (0, .ref (A 40)), (2, z_i e), (3, z_i a)]) rfl ?_
                  refine z_iinc hY eL_sorts_76 2 rfl (ls' := [(2, z_i (e + 1)), (1, z_i (n + 1)), (0, .ref (A 40)), (3, z_i a)]) rfl ?_
                  refine z_goto hY eL_sorts_79 ?_
                  refine z_sub [2, 1, 0] (ls' := [(0, .ref (A 40)), (1, z_i (n + 1)), (2, z_i (e + 1))]) rfl ?_
                  exact ih4 (n + 1) (e + 1) (z_u σ2 6 a e) (by omega) (by omega) (wE_u hE2 (by decide)) (wB_u hw2 (by show (-100000 : Int) ≤ _ ∧ _ ≤ (100000 : Int); omega)) (w_ins hJ (a := a) (by omega) h2 (by first | exact Or.inl (by omega) | exact Or.inr hx) hpe (fun j j0 j1 => (z_u_at' (by omega)).trans (f1 j j1)) z_u_at (fun j j0 j1 => (z_u_at' (by omega)).trans (f3 j j0 j1)))
                · refine z_aload hY eL_sorts_46 0 rfl ?_
                  refine g_gf hY (gW_X hI) eL_sorts_47 (v := .ref (A 6)) rfl ?_
                  refine z_iload hY eL_sorts_50 3 rfl ?_
                  refine z_aload hY eL_sorts_51 0 rfl ?_
                  refine g_gf hY (gW_X hI) eL_sorts_52 (v := .ref (A 6)) rfl ?_
                  refine z_iload hY eL_sorts_55 3 rfl ?_
                  refine z_const hY eL_sorts_56 ?_
                  refine z_isub hY eL_sorts_57 ?_
                  refine g_ial hY (gW_X hI) eL_sorts_58 (j := 6) (N := 30) (x := σ2 6 (a - 1)) (by decide) rfl (by omega) rfl ?_
                  refine g_ias hY (gW_X hI) eL_sorts_59 (j := 6) (N := 30) (by decide) (fun _ => rfl) (by omega) ?_
                  refine z_iinc hY eL_sorts_60 3 rfl (ls' := [(3, z_i (a + (-1))), (0, .ref (A 40)), (1, z_i n), (2, z_i e)]) rfl ?_
                  refine z_lq (ls' := [(3, z_i (a - 1)), (0, .ref (A 40)), (1, z_i n), (2, z_i e)]) (by rw [show (a + (-1) : Int) = a - 1 by omega]) ?_
                  refine z_goto hY eL_sorts_63 ?_
                  refine z_sub [1, 2, 3, 0] (ls' := [(0, .ref (A 40)), (1, z_i n), (2, z_i e), (3, z_i (a - 1))]) rfl ?_
                  exact ih26 (a - 1) (z_u σ2 6 a (σ2 6 (a - 1))) (by omega) (by omega) (wE_u hE2 (by decide)) (wB_u hw2 (by show (-100000 : Int) ≤ _ ∧ _ ≤ (100000 : Int); omega)) (fun j hj => (z_u_at' (by omega)).trans (f1 j (by omega))) (fun j j0 j1 => by by_cases c : j = a; (rw [c, z_u_at]; exact f1 (a - 1) (by omega)); (exact (z_u_at' c).trans (f3 j (by omega) j1))) (fun j j0 j1 => by by_cases c : j = a - 1; (rw [c]; exact Or.inl ((w_cp (gW_M hI) e _).1.mp (by rw [← f1 (a - 1) (by omega)]; omega))); (exact h2 j (by omega) j1))
          exact lp26 _ n σ1 (Nat.lt_succ_self _) (by omega) hE hw (fun _ _ => rfl) (fun j _ _ => by omega) (fun j _ _ => by omega)
        · refine z_goto hY eL_sorts_21 ?_
          refine z_iinc hY eL_sorts_76 2 rfl (ls' := [(2, z_i (e + 1)), (0, .ref (A 40)), (1, z_i n)]) rfl ?_
          refine z_goto hY eL_sorts_79 ?_
          refine z_sub [1, 2, 0] (ls' := [(0, .ref (A 40)), (1, z_i n), (2, z_i (e + 1))]) rfl ?_
          exact ih4 n (e + 1) σ1 (by omega) (by omega) hE hw (w_skip hJ (fun q => ((gW_pr hI).mp q).2.2 (by omega)))
  exact lp4 _ 0 0 σ (Nat.lt_succ_self _) (by omega) wE_r (gW_b hI) w_none
theorem la_placeW {G : z_G} {D : Nat} {B : Nat → Int → Nat} {κ : c_K} {A : Nat → Nat} {σ : z_S} {h : z_H} (hG : z_OK G) (hX : gXX B κ A) (hB : wB σ) {e : Int} (he : -1 ≤ e ∧ e < 30) : z_Tr G mL_placeIn [.ref (A 40), z_i e] (gH D B κ A σ h) 0 (z_i (lp (wLP σ) e)) := by
  refine z_T_of hG pL_placeIn (Nat.le_of_ble_eq_true rfl) (ls0 := [(0, .ref (A 40)), (1, z_i e)]) rfl fun Y hY hg hmc hms hφ hψ => ?_
  subst hg
  have hm := hB.s16 0
  refine z_const hY eL_placeIn_0 ?_
  refine z_istore hY eL_placeIn_1 (ls' := [(2, z_i 0), (0, .ref (A 40)), (1, z_i e)]) rfl ?_
  refine z_sub [1, 2, 0] (ls' := [(0, .ref (A 40)), (1, z_i e), (2, z_i 0)]) rfl ?_
  have lp2 : ∀ (fu : Nat) (k : Int), (σ 16 0 - k).toNat < fu → (0 ≤ k ∧ k ≤ σ 16 0) → (z_fi (fun i => wLP σ 21 i = e) (wLP σ 25 0 - k).toNat k = z_ff (fun i => wLP σ 21 i = e) (wLP σ 25 0)) → z_W Y 2 [(0, .ref (A 40)), (1, z_i e), (2, z_i k)] [] (gH D B κ A σ h) 0 0 := by
    intro fu
    induction fu with
    | zero => intro k hf; exact absurd hf (Nat.not_lt_zero _)
    | succ fu ih2 =>
      intro k hf hk hn
      refine z_iload hY eL_placeIn_2 2 rfl ?_
      refine z_aload hY eL_placeIn_3 0 rfl ?_
      have hb1 := hB.s16 0
      refine g_gf hY hX eL_placeIn_4 (v := z_i (σ 16 0)) rfl ?_
      refine z_icmpge hY eL_placeIn_7 (by omega) (fun c7 => ?_) (fun c7 => ?_)
      · refine z_const hY eL_placeIn_30 ?_
        exact z_ireturn hY eL_placeIn_31 rfl (by rw [hφ]; exact ⟨congrArg (fun q => some (z_i q)) (by unfold lp; rw [← hn, z_fi_e (by show σ 16 0 ≤ k; omega), if_pos rfl]), rfl⟩) ⟨Nat.zero_le _, Nat.zero_le _⟩
      · refine z_aload hY eL_placeIn_10 0 rfl ?_
        refine g_gf hY hX eL_placeIn_11 (v := .ref (A 9)) rfl ?_
        refine z_iload hY eL_placeIn_14 2 rfl ?_
        have hb2 := hB.s9 k
        refine g_ial hY hX eL_placeIn_15 (j := 9) (N := 30) (x := σ 9 k) (by decide) rfl (by omega) rfl ?_
        refine z_iload hY eL_placeIn_16 1 rfl ?_
        refine z_icmpne hY eL_placeIn_17 (by omega) (fun c17 => ?_) (fun c17 => ?_)
        · refine z_iinc hY eL_placeIn_24 2 rfl (ls' := [(2, z_i (k + 1)), (0, .ref (A 40)), (1, z_i e)]) rfl ?_
          refine z_goto hY eL_placeIn_27 ?_
          refine z_sub [1, 2, 0] (ls' := [(0, .ref (A 40)), (1, z_i e), (2, z_i (k + 1))]) rfl ?_
          exact ih2 (k + 1) (by omega) (by omega) (by rw [← hn]; exact (z_fi_f (by show k < σ 16 0; omega) (by show ¬ σ 9 k = e; omega)).symm)
        · refine z_iload hY eL_placeIn_20 2 rfl ?_
          refine z_const hY eL_placeIn_21 ?_
          refine z_iadd hY eL_placeIn_22 ?_
          exact z_ireturn hY eL_placeIn_23 rfl (by rw [hφ]; exact ⟨congrArg (fun q => some (z_i q)) (by unfold lp; rw [← hn, z_fi_t (by show k < σ 16 0; omega) (by show σ 9 k = e; omega), if_neg (by omega)]), rfl⟩) ⟨Nat.zero_le _, Nat.zero_le _⟩
  exact lp2 _ 0 (Nat.lt_succ_self _) (by omega) rfl
theorem la_isEnded {G : z_G} {D : Nat} {B : Nat → Int → Nat} {κ : c_K} {A : Nat → Nat} {ρ σ : z_S} {h : z_H} {t : Nat} {m : Int} {o : Prop} (hG : z_OK G) (hD : D = z_dc G) (hM : z_MI G) (hI : gS t m o B κ A ρ σ) (ho : o) (hR : σ 19 0 < 40) : z_T G mL_isEnded [.ref (A 40)] (gH D B κ A σ h) 10 40 240 (fun v h' => ∃ (κ' : c_K) (B' : Nat → Int → Nat) (ρ' σ' : z_S) (h2 : z_H), v = some (z_i 1) ∧ gS (t) (m) o B' κ' A ρ' σ' ∧ σ' 14 0 = σ 14 0 ∧ h' = gH D B' κ' A σ' h2) (z_no) := by
  refine z_T_of hG pL_isEnded (Nat.le_of_ble_eq_true rfl) (ls0 := [(0, .ref (A 40))]) rfl fun Y hY hg hmc hms hφ hψ => ?_
  subst hg
  have hb19 := (gS_b hI).s19 0
  have hb18 := (gS_b hI).s18 0
  have hb16 := (gS_b hI).s16 0
  have h25 := gS_25 hI
  have h30 := gS_30 hI
  have h27 := gS_27 hI
  have hl9 := (gS_L hI).2.2.1
  have hdd := (w_lp hI 0).2.2
  have h14 := (gS_b hI).s14 0
  have h19 := gS_19 hI
  refine z_aload hY eL_isEnded_0 0 rfl ?_
  have hb1 := (gS_b hI).s19 0
  refine g_gf hY (gS_X hI) eL_isEnded_1 (v := z_i (σ 19 0)) rfl ?_
  refine z_aload hY eL_isEnded_4 0 rfl ?_
  have hb2 := (gS_b hI).s18 0
  refine g_gf hY (gS_X hI) eL_isEnded_5 (v := z_i (σ 18 0)) rfl ?_
  refine z_isub hY eL_isEnded_8 ?_
  refine z_const hY eL_isEnded_9 ?_
  refine z_iadd hY eL_isEnded_10 ?_
  refine z_istore hY eL_isEnded_11 (ls' := [(1, z_i ((σ 19 0) - (σ 18 0) + 1)), (0, .ref (A 40))]) rfl ?_
  refine z_const hY eL_isEnded_12 ?_
  refine z_istore hY eL_isEnded_13 (ls' := [(2, z_i 0), (1, z_i ((σ 19 0) - (σ 18 0) + 1)), (0, .ref (A 40))]) rfl ?_
  refine z_sub [2, 1, 0] (ls' := [(0, .ref (A 40)), (1, z_i ((σ 19 0) - (σ 18 0) + 1)), (2, z_i 0)]) rfl ?_
  have lp14 : ∀ (fu : Nat) (k : Int) (σ1 : z_S), (σ 16 0 - k).toNat < fu → (0 ≤ k ∧ k ≤ σ 16 0) → (wE σ1 σ) → (wB σ1) → (∀ i, 0 ≤ i → i < k → σ1 20 i = σ 9 i) → z_W Y 14 [(0, .ref (A 40)), (1, z_i ((σ 19 0) - (σ 18 0) + 1)), (2, z_i k)] [] (gH D B κ A σ1 h) 0 0 := by
    intro fu
    induction fu with
    | zero => intro k σ1 hf; exact absurd hf (Nat.not_lt_zero _)
    | succ fu ih14 =>
      intro k σ1 hf hk hE hw1 h20
      refine z_iload hY eL_isEnded_14 2 rfl ?_
      refine z_aload hY eL_isEnded_15 0 rfl ?_
      have hb3 := (gS_b hI).s16 0
      refine g_gf hY (gS_X hI) eL_isEnded_16 (v := z_i (σ 16 0)) (congrArg (fun q => some (z_i q)) (congrFun (hE 16 (by decide) (by decide) (by decide)) _)) ?_
      refine z_icmpge hY eL_isEnded_19 (by omega) (fun c19 => ?_) (fun c19 => ?_)
      · refine z_aload hY eL_isEnded_40 0 rfl ?_
        refine g_gf hY (gS_X hI) eL_isEnded_41 (v := z_i (σ 16 0)) (congrArg (fun q => some (z_i q)) (congrFun (hE 16 (by decide) (by decide) (by decide)) _)) ?_
        refine z_const hY eL_isEnded_44 ?_
        refine z_isub hY eL_isEnded_45 ?_
        refine z_istore hY eL_isEnded_46 (ls' := [(2, z_i ((σ 16 0) - 1)), (0, .ref (A 40)), (1, z_i ((σ 19 0) - (σ 18 0) + 1))]) rfl ?_
        refine z_sub [1, 2, 0] (ls' := [(0, .ref (A 40)), (1, z_i ((σ 19 0) - (σ 18 0) + 1)), (2, z_i ((σ 16 0) - 1))]) rfl ?_
        have lp47 : ∀ (fu : Nat) (k : Int) (σ2 : z_S), (k + 1).toNat < fu → (-1 ≤ k ∧ k ≤ σ 16 0 - 1) → (∀ k, k ≠ 0 → k ≠ 6 → k ≠ 20 → k ≠ 9 → σ2 k = σ k) → (wB σ2) → (∀ i, 0 ≤ i → i < σ 16 0 → σ2 20 i = σ 9 i) → (∀ i, 0 ≤ i → i < σ 16 0 → σ2 9 i = yFs ρ (ρ 25 0 - 1 - k).toNat i) → z_W Y 47 [(0, .ref (A 40)), (1, z_i ((σ 19 0) - (σ 18 0) + 1)), (2, z_i k)] [] (gH D B κ A σ2 h) 0 0 := by
          intro fu
          induction fu with
          | zero => intro k σ2 hf; exact absurd hf (Nat.not_lt_zero _)
          | succ fu ih47 =>
            intro k σ2 hf hk2 hF hw2 h202 h9
            refine z_iload hY eL_isEnded_47 2 rfl ?_
            refine z_iflt hY eL_isEnded_48 (by omega) (fun c48 => ?_) (fun c48 => ?_)
            · refine z_aload hY eL_isEnded_143 0 rfl ?_
              have hW : gW t m o B κ A ρ σ2 := ⟨fun k => if k = 9 then σ 9 else σ2 k, gS_E hI (fun k c0 c6 c20 => by by_cases c9 : k = 9; (rw [c9]; exact if_pos rfl); (exact (if_neg c9).trans (hF k c0 c6 c20 c9))) (fun k i => by show wLo k ≤ (if k = 9 then σ 9 else σ2 k) i ∧ (if k = 9 then σ 9 else σ2 k) i ≤ wHi k; by_cases c9 : k = 9; (rw [if_pos c9, c9]; exact gS_b hI 9 i); (rw [if_neg c9]; exact hw2 k i)), fun k c9 => (if_neg c9).symm, hw2⟩
              refine z_callV (As := []) (rest := []) hY eL_isEnded_144 (la_sortsW hG hW ho) ((gH_at (gS_X hI) (by decide)).trans (congrArg some lC_40)) (by decide) (Nat.le_of_ble_eq_true rfl) ⟨Nat.zero_le _, Nat.zero_le _⟩ (fun _ _ q => q.elim) (fun vv4 hh4 q4 => ?_)
              obtain ⟨σs, rfl, ⟨hEs, hws, hrow⟩, rfl⟩ := q4
              have hmy := w_my (gS_j hI)
              have hFs : ∀ k, k ≠ 0 → k ≠ 6 → k ≠ 20 → k ≠ 9 → σs k = σ k := fun k c0 c6 c20 c9 => (hEs k c0 c6 c20).trans (hF k c0 c6 c20 c9)
              have h9s : ∀ i, 0 ≤ i → i < σ 16 0 → σs 9 i = yFa ρ i := fun i i0 i1 => by rw [hEs 9 (by decide) (by decide) (by decide), h9 i i0 i1, show (ρ 25 0 - 1 - k).toNat = (ρ 25 0).toNat by omega]; rfl
              refine z_istore hY eL_isEnded_147 (ls' := [(2, z_i (my ρ)), (0, .ref (A 40)), (1, z_i ((σ 19 0) - (σ 18 0) + 1))]) rfl ?_
              refine z_const hY eL_isEnded_148 ?_
              refine z_istore hY eL_isEnded_149 (ls' := [(3, z_i 0), (2, z_i (my ρ)), (0, .ref (A 40)), (1, z_i ((σ 19 0) - (σ 18 0) + 1))]) rfl ?_
              refine z_sub [2, 3, 1, 0] (ls' := [(0, .ref (A 40)), (1, z_i ((σ 19 0) - (σ 18 0) + 1)), (2, z_i (my ρ)), (3, z_i 0)]) rfl ?_
              have lp150 : ∀ (fu : Nat) (e : Int) (σ3 : z_S), (30 - e).toNat < fu → (0 ≤ e ∧ e ≤ 30) → (∀ k, k ≠ 0 → k ≠ 6 → k ≠ 20 → k ≠ 9 → k ≠ 5 → k ≠ 12 → k ≠ 13 → σ3 k = σ k) → (wB σ3) → (σ3 6 = σs 6) → (σ3 9 = σs 9) → (∀ i, 0 ≤ i → i < 30 → σ3 5 i = if i < e then σ 2 (4 * i) else σ 5 i) → (∀ e' r, 0 ≤ e' → e' < 30 → 0 ≤ r → r < 40 → σ3 12 (40 * e' + r) = if r = σ 19 0 ∧ e' < e then ygv ρ e' else σ 12 (40 * e' + r)) → (∀ r e', 0 ≤ r → r < 40 → 0 ≤ e' → e' < 30 → σ3 13 (30 * r + e') = if r = σ 19 0 ∧ e' < e then -1 else σ 13 (30 * r + e')) → z_W Y 150 [(0, .ref (A 40)), (1, z_i ((σ 19 0) - (σ 18 0) + 1)), (2, z_i (my ρ)), (3, z_i e)] [] (gH D B κ A σ3 h) e.toNat (6 * e.toNat) := by
                intro fu
                induction fu with
                | zero => intro e σ3 hf; exact absurd hf (Nat.not_lt_zero _)
                | succ fu ih150 =>
                  intro e σ3 hf he hF3 hw3 hC6 hC9 hC5 hC12 hC13
                  refine z_iload hY eL_isEnded_150 3 rfl ?_
                  refine z_const hY eL_isEnded_151 ?_
                  refine z_icmpge hY eL_isEnded_153 (by omega) (fun c153 => ?_) (fun c153 => ?_)
                  · refine z_const hY eL_isEnded_286 ?_
                    refine z_istore hY eL_isEnded_287 (ls' := [(3, z_i 0), (0, .ref (A 40)), (1, z_i ((σ 19 0) - (σ 18 0) + 1)), (2, z_i (my ρ))]) rfl ?_
                    refine z_sub [1, 2, 3, 0] (ls' := [(0, .ref (A 40)), (1, z_i ((σ 19 0) - (σ 18 0) + 1)), (2, z_i (my ρ)), (3, z_i 0)]) rfl ?_
                    have lp288 : ∀ (fu : Nat) (q : Int) (σ4 : z_S), (my ρ - q).toNat < fu → (0 ≤ q ∧ q ≤ my ρ) → (∀ k, k ≠ 0 → k ≠ 6 → k ≠ 20 → k ≠ 9 → k ≠ 5 → k ≠ 12 → k ≠ 13 → σ4 k = σ k) → (wB σ4) → (∀ k, k ≠ 13 → σ4 k = σ3 k) → (∀ r e', 0 ≤ r → r < 40 → 0 ≤ e' → e' < 30 → σ4 13 (30 * r + e') = if r = σ 19 0 then (if pr ρ e' ∧ pl ρ e' ≤ q then pl ρ e' else -1) else σ 13 (30 * r + e')) → z_W Y 288 [(0, .ref (A 40)), (1, z_i ((σ 19 0) - (σ 18 0) + 1)), (2, z_i (my ρ)), (3, z_i q)] [] (gH D B κ A σ4 h) e.toNat (6 * e.toNat) := by
                      intro fu
                      induction fu with
                      | zero => intro q σ4 hf; exact absurd hf (Nat.not_lt_zero _)
                      | succ fu ih288 =>
                        intro q σ4 hf hq hF4 hw4 hDD hD13
                        refine z_iload hY eL_isEnded_288 3 rfl ?_
                        refine z_iload hY eL_isEnded_289 2 rfl ?_
                        refine z_icmpge hY eL_isEnded_290 (by omega) (fun c290 => ?_) (fun c290 => ?_)
                        · refine z_aload hY eL_isEnded_321 0 rfl ?_
                          refine z_dup hY eL_isEnded_322 rfl ?_
                          have hb5 := (gS_b hI).s19 0
                          refine g_gf hY (gS_X hI) eL_isEnded_323 (v := z_i (σ 19 0)) (congrArg (fun q => some (z_i q)) (congrFun (hF4 19 (by decide) (by decide) (by decide) (by decide) (by decide) (by decide) (by decide)) _)) ?_
                          refine z_const hY eL_isEnded_326 ?_
                          refine z_iadd hY eL_isEnded_327 ?_
                          refine g_pf hY (gS_X hI) eL_isEnded_328 (by decide) ?_
                          refine z_aload hY eL_isEnded_331 0 rfl ?_
                          refine g_gf hY (gS_X hI) eL_isEnded_332 (v := .ref (B 0 0)) rfl ?_
                          have hk1 : κ 1 0 0 = σ 19 0 := (gS_R hI).a.2.1.trans (gS_30 hI)
                          refine z_callV (As := []) (rest := []) hY eL_isEnded_335 (q_endRound (D := D) (h := lH A (B 0 0) (z_u σ4 19 0 ((σ 19 0) + 1)) h) hG hD hM (gS_J hI) (gS_B hI) (gS_V hI) (gS_S hI) ) (cH_at (t := 0) (i := 0) (gS_J hI) (by omega)) (by decide) (Nat.le_of_ble_eq_true rfl) (by rw [hmc, hms]; omega) (fun E9 h9 q => by obtain ⟨-, q⟩ := q; exfalso; omega) (fun vv7 hh7 q7 => ?_)
                          obtain ⟨-, rfl, κ6, B6, g6, rfl, hc6, hrel6⟩ := q7
                          obtain ⟨hgb6, hgX6, hgP6⟩ := gH_back (D := D) (gS_X hI) hc6
                          refine z_heq hgb6 ?_
                          have hypv : ∀ e, 0 ≤ e → e < 30 → (if pr ρ e ∧ pl ρ e ≤ q then pl ρ e else -1) = ypv ρ e := fun e e0 e1 => by unfold ypv; by_cases c9 : pr ρ e; (have h8 := (gS_R hI).xpl (gS_M hI) c9; have h7 := (gS_R hI).xn1 (gS_M hI); rw [if_pos ⟨c9, by omega⟩, if_pos ⟨c9.2.1, c9.2.2⟩]); (rw [if_neg (fun z => c9 z.1), if_neg (fun z => c9 ⟨e0, z.1, z.2⟩)])
                          obtain ⟨σ8, hs8⟩ : ∃ qq, qq = z_u σ4 19 0 ((σ 19 0) + 1) := ⟨_, rfl⟩
                          refine z_heq (congrArg (fun q => gH D B6 κ6 A q g6) hs8.symm) ?_
                          have hI6 : gS t m o B6 κ6 A (yEr ρ) σ8 := by rw [hs8]; exact w_round hI hR (fun k k0 k6 k20 k9 k5 k12 k13 k19 => (z_u_ne k19).trans (hF4 k k0 k6 k20 k9 k5 k12 k13)) (fun i i0 i1 => (congrFun (hDD 5 (by decide)) i).trans ((hC5 i i0 i1).trans (if_pos (by omega)))) (fun i i0 i1 => (congrFun (hDD 9 (by decide)) i).trans ((congrFun hC9 i).trans (h9s i i0 i1))) (fun e r e0 e1 r0 r1 => by show σ4 12 _ = _; rw [hDD 12 (by decide), hC12 e r e0 e1 r0 r1]; by_cases c9 : r = σ 19 0; (rw [if_pos ⟨c9, by omega⟩, if_pos c9]); (rw [if_neg (fun q => c9 q.1), if_neg c9])) (fun r e r0 r1 e0 e1 => by show σ4 13 _ = _; rw [hD13 r e r0 r1 e0 e1]; by_cases c9 : r = σ 19 0; (rw [if_pos c9, if_pos c9]; exact hypv e e0 e1); (rw [if_neg c9, if_neg c9])) z_u_at (wB_u hw4 (by show (0 : Int) ≤ _ ∧ _ ≤ (40 : Int); omega)) hrel6 hgX6 hc6.1 hc6.2.1
                          have hn19 : σ8 19 0 = σ 19 0 + 1 := by rw [hs8]; exact z_u_at
                          have hn14 : σ8 14 0 = σ 14 0 := by rw [hs8]; exact congrFun (hF4 14 (by decide) (by decide) (by decide) (by decide) (by decide) (by decide) (by decide)) 0
                          have hk2 : κ6 1 0 0 = κ 1 0 0 + 1 := by rw [hrel6]; exact k_u_at
                          refine z_aload hY eL_isEnded_338 0 rfl ?_
                          have hb9 := (gS_b hI6).s19 0
                          refine g_gf hY (gS_X hI6) eL_isEnded_339 (v := z_i (σ8 19 0)) rfl ?_
                          refine z_const hY eL_isEnded_342 ?_
                          refine z_isub hY eL_isEnded_343 ?_
                          refine z_icmpne hY eL_isEnded_344 (by omega) (fun c344 => by exfalso; omega) (fun c344 => ?_)
                          refine z_aload hY eL_isEnded_347 0 rfl ?_
                          refine g_gf hY (gS_X hI6) eL_isEnded_348 (v := .ref (B6 0 0)) rfl ?_
                          refine z_callV (As := []) (rest := []) hY eL_isEnded_351 (q_round (D := D) (h := lH A (B6 0 0) σ8 g6) hG (gS_J hI6) (gS_B hI6) (gS_V hI6) (gS_S hI6) ) (cH_at (t := 0) (i := 0) (gS_J hI6) (by omega)) (by decide) (Nat.le_of_ble_eq_true rfl) (by rw [hmc, hms]; omega) (fun _ _ q => q.elim) (fun vv11 hh11 q11 => ?_)
                          obtain ⟨rfl, rfl⟩ := q11
                          refine z_heq (show _ = gH D B6 κ6 A σ8 g6 from rfl) ?_
                          refine z_aload hY eL_isEnded_354 0 rfl ?_
                          refine g_gf hY (gS_X hI6) eL_isEnded_355 (v := z_i (σ8 19 0)) rfl ?_
                          refine z_icmpne hY eL_isEnded_358 (by omega) (fun c358 => by exfalso; omega) (fun c358 => ?_)
                          refine z_const hY eL_isEnded_361 ?_
                          refine z_goto hY eL_isEnded_362 ?_
                          exact z_zreturn hY eL_isEnded_366 rfl (by omega) (by rw [hφ]; exact ⟨κ6, B6, (yEr ρ), σ8, g6, rfl, hI6, hn14, rfl⟩) (by rw [hmc, hms]; omega)
                        · have hwe := w_ea (gS_j hI) (k := q) (by have := (gS_R hI).xn1 (gS_M hI); omega)
                          have hweb := pr_b hwe.2.1
                          refine z_aload hY eL_isEnded_293 0 rfl ?_
                          refine g_gf hY (gS_X hI) eL_isEnded_294 (v := .ref (A 13)) rfl ?_
                          refine z_const hY eL_isEnded_297 ?_
                          refine z_aload hY eL_isEnded_299 0 rfl ?_
                          have hb12 := (gS_b hI).s19 0
                          refine g_gf hY (gS_X hI) eL_isEnded_300 (v := z_i (σ 19 0)) (congrArg (fun q => some (z_i q)) (congrFun (hF4 19 (by decide) (by decide) (by decide) (by decide) (by decide) (by decide) (by decide)) _)) ?_
                          refine z_imul hY eL_isEnded_303 ?_
                          refine z_aload hY eL_isEnded_304 0 rfl ?_
                          refine g_gf hY (gS_X hI) eL_isEnded_305 (v := .ref (A 6)) rfl ?_
                          refine z_iload hY eL_isEnded_308 3 rfl ?_
                          refine g_ial hY (gS_X hI) eL_isEnded_309 (j := 6) (N := 30) (x := ea ρ (q + 1)) (by decide) rfl (by omega) ((congrFun (hDD 6 (by decide)) q).trans ((congrFun hC6 q).trans (hrow q (by omega) (by omega)).1)) ?_
                          refine z_iadd hY eL_isEnded_310 ?_
                          refine z_iload hY eL_isEnded_311 3 rfl ?_
                          refine z_const hY eL_isEnded_312 ?_
                          refine z_iadd hY eL_isEnded_313 ?_
                          refine g_ias hY (gS_X hI) eL_isEnded_314 (j := 13) (N := 1200) (by decide) (fun _ => rfl) (by omega) ?_
                          refine z_iinc hY eL_isEnded_315 3 rfl (ls' := [(3, z_i (q + 1)), (0, .ref (A 40)), (1, z_i ((σ 19 0) - (σ 18 0) + 1)), (2, z_i (my ρ))]) rfl ?_
                          refine z_goto hY eL_isEnded_318 ?_
                          refine z_sub [1, 2, 3, 0] (ls' := [(0, .ref (A 40)), (1, z_i ((σ 19 0) - (σ 18 0) + 1)), (2, z_i (my ρ)), (3, z_i (q + 1))]) rfl ?_
                          exact ih288 (q + 1) (z_u σ4 13 (30 * (σ 19 0) + (ea ρ (q + 1))) (q + 1)) (by omega) (by omega) (fun k k0 k1 k2 k3 k4 k5 k6 => (z_u_ne (by omega)).trans (hF4 k k0 k1 k2 k3 k4 k5 k6)) (wB_u hw4 (by show (-1 : Int) ≤ _ ∧ _ ≤ (30 : Int); omega)) (fun k k13 => (z_u_ne k13).trans (hDD k k13)) (fun r e' r0 r1 e0 e1 => by by_cases c9 : e' = ea ρ (q + 1) ∧ r = σ 19 0; (rw [c9.1, c9.2, z_u_at, if_pos rfl, if_pos ⟨hwe.2.1, by omega⟩]; omega); (rw [z_u_at' (by omega), hD13 r e' r0 r1 e0 e1]; by_cases c8 : r = σ 19 0; (rw [if_pos c8, if_pos c8]; by_cases c7 : pr ρ e'; (have h8 := (gS_R hI).xpl (gS_M hI) c7; have h6 : pl ρ e' ≠ q + 1 := fun z => c9 ⟨by rw [hwe.1, ← h8.2.2.2, z]; congr 1; omega, c8⟩; by_cases c5 : pl ρ e' ≤ q; (rw [if_pos ⟨c7, c5⟩, if_pos ⟨c7, by omega⟩]); (rw [if_neg (fun z => c5 z.2), if_neg (fun z => h6 (by omega))])); (rw [if_neg (fun z => c7 z.1), if_neg (fun z => c7 z.1)])); (rw [if_neg c8, if_neg c8])))
                    exact lp288 _ 0 σ3 (Nat.lt_succ_self _) (by omega) hF3 hw3 (fun _ _ => rfl) (fun r e' r0 r1 e0 e1 => by rw [hC13 r e' r0 r1 e0 e1]; by_cases c9 : r = σ 19 0; (rw [if_pos ⟨c9, by omega⟩, if_pos c9, if_neg (fun z => by have := ((gS_R hI).xpl (gS_M hI) z.1).2.1; omega)]); (rw [if_neg (fun z => c9 z.1), if_neg c9]))
                  · refine z_aload hY eL_isEnded_156 0 rfl ?_
                    refine g_gf hY (gS_X hI) eL_isEnded_157 (v := .ref (A 12)) rfl ?_
                    refine z_const hY eL_isEnded_160 ?_
                    refine z_iload hY eL_isEnded_162 3 rfl ?_
                    refine z_imul hY eL_isEnded_163 ?_
                    refine z_aload hY eL_isEnded_164 0 rfl ?_
                    have hb13 := (gS_b hI).s19 0
                    refine g_gf hY (gS_X hI) eL_isEnded_165 (v := z_i (σ 19 0)) (congrArg (fun q => some (z_i q)) (congrFun (hF3 19 (by decide) (by decide) (by decide) (by decide) (by decide) (by decide) (by decide)) _)) ?_
                    refine z_iadd hY eL_isEnded_168 ?_
                    refine z_iload hY eL_isEnded_169 3 rfl ?_
                    refine z_aload hY eL_isEnded_170 0 rfl ?_
                    have hb14 := (gS_b hI).s14 0
                    refine g_gf hY (gS_X hI) eL_isEnded_171 (v := z_i (σ 14 0)) (congrArg (fun q => some (z_i q)) (congrFun (hF3 14 (by decide) (by decide) (by decide) (by decide) (by decide) (by decide) (by decide)) _)) ?_
                    refine z_icmpge hY eL_isEnded_174 (by omega) (fun c174 => ?_) (fun c174 => ?_)
                    · refine z_const hY eL_isEnded_204 ?_
                      have hyg : 0 = ygv ρ e := by unfold ygv; rw [if_neg (fun q => by have h8 := gS_18 hI (e := e) (by omega); omega)]
                      refine g_ias hY (gS_X hI) eL_isEnded_205 (j := 12) (N := 1200) (by decide) (fun _ => rfl) (by omega) ?_
                      refine z_aload hY eL_isEnded_206 0 rfl ?_
                      refine g_gf hY (gS_X hI) eL_isEnded_207 (v := .ref (A 13)) rfl ?_
                      refine z_const hY eL_isEnded_210 ?_
                      refine z_aload hY eL_isEnded_212 0 rfl ?_
                      refine g_gf hY (gS_X hI) eL_isEnded_213 (v := z_i (σ 19 0)) (congrArg (fun q => some (z_i q)) (Eq.trans (congrFun (z_u_ne (by decide)) _) (congrFun (hF3 19 (by decide) (by decide) (by decide) (by decide) (by decide) (by decide) (by decide)) _))) ?_
                      refine z_imul hY eL_isEnded_216 ?_
                      refine z_iload hY eL_isEnded_217 3 rfl ?_
                      refine z_iadd hY eL_isEnded_218 ?_
                      refine z_const hY eL_isEnded_219 ?_
                      refine g_ias hY (gS_X hI) eL_isEnded_220 (j := 13) (N := 1200) (by decide) (fun _ => rfl) (by omega) ?_
                      refine z_iload hY eL_isEnded_221 3 rfl ?_
                      refine z_aload hY eL_isEnded_222 0 rfl ?_
                      refine g_gf hY (gS_X hI) eL_isEnded_223 (v := z_i (σ 14 0)) (congrArg (fun q => some (z_i q)) (Eq.trans (congrFun (z_u_ne (by decide)) _) (Eq.trans (congrFun (z_u_ne (by decide)) _) (congrFun (hF3 14 (by decide) (by decide) (by decide) (by decide) (by decide) (by decide) (by decide)) _)))) ?_
                      refine z_icmpge hY eL_isEnded_226 (by omega) (fun c226 => ?_) (fun c226 => by exfalso; omega)
                      refine z_aload hY eL_isEnded_266 0 rfl ?_
                      refine g_gf hY (gS_X hI) eL_isEnded_267 (v := .ref (A 5)) rfl ?_
                      refine z_iload hY eL_isEnded_270 3 rfl ?_
                      refine z_aload hY eL_isEnded_271 0 rfl ?_
                      refine g_gf hY (gS_X hI) eL_isEnded_272 (v := .ref (A 2)) rfl ?_
                      refine z_const hY eL_isEnded_275 ?_
                      refine z_iload hY eL_isEnded_276 3 rfl ?_
                      refine z_imul hY eL_isEnded_277 ?_
                      have hb15 := (gS_b hI).s2 (4 * e)
                      refine g_ial hY (gS_X hI) eL_isEnded_278 (j := 2) (N := 120) (x := σ 2 (4 * e)) (by decide) rfl (by omega) (Eq.trans (congrFun (z_u_ne (by decide)) _) (Eq.trans (congrFun (z_u_ne (by decide)) _) (congrFun (hF3 2 (by decide) (by decide) (by decide) (by decide) (by decide) (by decide) (by decide)) _))) ?_
                      refine g_ias hY (gS_X hI) eL_isEnded_279 (j := 5) (N := 30) (by decide) (fun _ => rfl) (by omega) ?_
                      refine z_iinc hY eL_isEnded_280 3 rfl (ls' := [(3, z_i (e + 1)), (0, .ref (A 40)), (1, z_i ((σ 19 0) - (σ 18 0) + 1)), (2, z_i (my ρ))]) rfl ?_
                      refine z_goto hY eL_isEnded_283 ?_
                      refine z_sub [1, 2, 3, 0] (ls' := [(0, .ref (A 40)), (1, z_i ((σ 19 0) - (σ 18 0) + 1)), (2, z_i (my ρ)), (3, z_i (e + 1))]) rfl ?_
                      refine z_widen (k' := ((e + 1).toNat)) (n' := (6 * (e + 1).toNat)) (by omega) (by omega) ?_
                      exact ih150 (e + 1) (z_u (z_u (z_u σ3 12 (40 * e + (σ 19 0)) 0) 13 (30 * (σ 19 0) + e) (-1)) 5 e (σ 2 (4 * e))) (by omega) (by omega) (fun k k0 k1 k2 k3 k4 k5 k6 => (z_u_ne (by omega)).trans ((z_u_ne (by omega)).trans ((z_u_ne (by omega)).trans (hF3 k k0 k1 k2 k3 k4 k5 k6)))) (wB_u (wB_u (wB_u hw3 (by show (-200000 : Int) ≤ _ ∧ _ ≤ (200000 : Int); omega)) (by show (-1 : Int) ≤ _ ∧ _ ≤ (30 : Int); omega)) (by show (-100000 : Int) ≤ _ ∧ _ ≤ (100000 : Int); omega)) (by rw [← hC6]; rfl) (by rw [← hC9]; rfl) (fun i i0 i1 => by by_cases c9 : i = e; (rw [c9, z_u_at, if_pos (by omega)]); (rw [z_u_at' c9]; show σ3 5 i = _; rw [hC5 i i0 i1]; by_cases c8 : i < e; (rw [if_pos c8, if_pos (by omega)]); (rw [if_neg c8, if_neg (by omega)]))) (fun e' r e0 e1 r0 r1 => by show z_u σ3 12 (40 * e + σ 19 0) 0 12 (40 * e' + r) = _; by_cases c9 : e' = e ∧ r = σ 19 0; (rw [c9.1, c9.2, z_u_at, if_pos ⟨rfl, by omega⟩]; exact hyg); (rw [z_u_at' (by omega), hC12 e' r e0 e1 r0 r1]; by_cases c8 : r = σ 19 0 ∧ e' < e; (rw [if_pos c8, if_pos ⟨c8.1, by omega⟩]); (rw [if_neg c8, if_neg (by omega)]))) (fun r e' r0 r1 e0 e1 => by show z_u σ3 13 (30 * σ 19 0 + e) (-1) 13 (30 * r + e') = _; by_cases c9 : e' = e ∧ r = σ 19 0; (rw [c9.1, c9.2, z_u_at, if_pos ⟨rfl, by omega⟩]); (rw [z_u_at' (by omega), hC13 r e' r0 r1 e0 e1]; by_cases c8 : r = σ 19 0 ∧ e' < e; (rw [if_pos c8, if_pos ⟨c8.1, by omega⟩]); (rw [if_neg c8, if_neg (by omega)])))
                    · refine z_aload hY eL_isEnded_177 0 rfl ?_
                      refine g_gf hY (gS_X hI) eL_isEnded_178 (v := .ref (A 7)) rfl ?_
                      refine z_iload hY eL_isEnded_181 3 rfl ?_
                      have hb16 := (gS_b hI).s7 e
                      refine g_bal hY (gS_X hI) eL_isEnded_182 (j := 7) (N := 30) (x := σ 7 e) (by decide) rfl (by omega) (congrFun (hF3 7 (by decide) (by decide) (by decide) (by decide) (by decide) (by decide) (by decide)) _) ?_
                      refine z_ifeq hY eL_isEnded_183 (by omega) (fun c183 => ?_) (fun c183 => ?_)
                      · refine z_const hY eL_isEnded_204 ?_
                        have hyg : 0 = ygv ρ e := by unfold ygv; rw [if_neg (fun q => by have h8 := gS_18 hI (e := e) (by omega); omega)]
                        refine g_ias hY (gS_X hI) eL_isEnded_205 (j := 12) (N := 1200) (by decide) (fun _ => rfl) (by omega) ?_
                        refine z_aload hY eL_isEnded_206 0 rfl ?_
                        refine g_gf hY (gS_X hI) eL_isEnded_207 (v := .ref (A 13)) rfl ?_
                        refine z_const hY eL_isEnded_210 ?_
                        refine z_aload hY eL_isEnded_212 0 rfl ?_
                        refine g_gf hY (gS_X hI) eL_isEnded_213 (v := z_i (σ 19 0)) (congrArg (fun q => some (z_i q)) (Eq.trans (congrFun (z_u_ne (by decide)) _) (congrFun (hF3 19 (by decide) (by decide) (by decide) (by decide) (by decide) (by decide) (by decide)) _))) ?_
                        refine z_imul hY eL_isEnded_216 ?_
                        refine z_iload hY eL_isEnded_217 3 rfl ?_
                        refine z_iadd hY eL_isEnded_218 ?_
                        refine z_const hY eL_isEnded_219 ?_
                        refine g_ias hY (gS_X hI) eL_isEnded_220 (j := 13) (N := 1200) (by decide) (fun _ => rfl) (by omega) ?_
                        refine z_iload hY eL_isEnded_221 3 rfl ?_
                        refine z_aload hY eL_isEnded_222 0 rfl ?_
                        refine g_gf hY (gS_X hI) eL_isEnded_223 (v := z_i (σ 14 0)) (congrArg (fun q => some (z_i q)) (Eq.trans (congrFun (z_u_ne (by decide)) _) (Eq.trans (congrFun (z_u_ne (by decide)) _) (congrFun (hF3 14 (by decide) (by decide) (by decide) (by decide) (by decide) (by decide) (by decide)) _)))) ?_
                        refine z_icmpge hY eL_isEnded_226 (by omega) (fun c226 => by exfalso; omega) (fun c226 => ?_)
                        refine z_aload hY eL_isEnded_229 0 rfl ?_
                        refine g_gf hY (gS_X hI) eL_isEnded_230 (v := .ref (A 7)) rfl ?_
                        refine z_iload hY eL_isEnded_233 3 rfl ?_
                        refine g_bal hY (gS_X hI) eL_isEnded_234 (j := 7) (N := 30) (x := σ 7 e) (by decide) rfl (by omega) (Eq.trans (congrFun (z_u_ne (by decide)) _) (Eq.trans (congrFun (z_u_ne (by decide)) _) (congrFun (hF3 7 (by decide) (by decide) (by decide) (by decide) (by decide) (by decide) (by decide)) _))) ?_
                        refine z_ifeq hY eL_isEnded_235 (by omega) (fun c235 => ?_) (fun c235 => by exfalso; omega)
                        refine z_aload hY eL_isEnded_266 0 rfl ?_
                        refine g_gf hY (gS_X hI) eL_isEnded_267 (v := .ref (A 5)) rfl ?_
                        refine z_iload hY eL_isEnded_270 3 rfl ?_
                        refine z_aload hY eL_isEnded_271 0 rfl ?_
                        refine g_gf hY (gS_X hI) eL_isEnded_272 (v := .ref (A 2)) rfl ?_
                        refine z_const hY eL_isEnded_275 ?_
                        refine z_iload hY eL_isEnded_276 3 rfl ?_
                        refine z_imul hY eL_isEnded_277 ?_
                        have hb17 := (gS_b hI).s2 (4 * e)
                        refine g_ial hY (gS_X hI) eL_isEnded_278 (j := 2) (N := 120) (x := σ 2 (4 * e)) (by decide) rfl (by omega) (Eq.trans (congrFun (z_u_ne (by decide)) _) (Eq.trans (congrFun (z_u_ne (by decide)) _) (congrFun (hF3 2 (by decide) (by decide) (by decide) (by decide) (by decide) (by decide) (by decide)) _))) ?_
                        refine g_ias hY (gS_X hI) eL_isEnded_279 (j := 5) (N := 30) (by decide) (fun _ => rfl) (by omega) ?_
                        refine z_iinc hY eL_isEnded_280 3 rfl (ls' := [(3, z_i (e + 1)), (0, .ref (A 40)), (1, z_i ((σ 19 0) - (σ 18 0) + 1)), (2, z_i (my ρ))]) rfl ?_
                        refine z_goto hY eL_isEnded_283 ?_
                        refine z_sub [1, 2, 3, 0] (ls' := [(0, .ref (A 40)), (1, z_i ((σ 19 0) - (σ 18 0) + 1)), (2, z_i (my ρ)), (3, z_i (e + 1))]) rfl ?_
                        refine z_widen (k' := ((e + 1).toNat)) (n' := (6 * (e + 1).toNat)) (by omega) (by omega) ?_
                        exact ih150 (e + 1) (z_u (z_u (z_u σ3 12 (40 * e + (σ 19 0)) 0) 13 (30 * (σ 19 0) + e) (-1)) 5 e (σ 2 (4 * e))) (by omega) (by omega) (fun k k0 k1 k2 k3 k4 k5 k6 => (z_u_ne (by omega)).trans ((z_u_ne (by omega)).trans ((z_u_ne (by omega)).trans (hF3 k k0 k1 k2 k3 k4 k5 k6)))) (wB_u (wB_u (wB_u hw3 (by show (-200000 : Int) ≤ _ ∧ _ ≤ (200000 : Int); omega)) (by show (-1 : Int) ≤ _ ∧ _ ≤ (30 : Int); omega)) (by show (-100000 : Int) ≤ _ ∧ _ ≤ (100000 : Int); omega)) (by rw [← hC6]; rfl) (by rw [← hC9]; rfl) (fun i i0 i1 => by by_cases c9 : i = e; (rw [c9, z_u_at, if_pos (by omega)]); (rw [z_u_at' c9]; show σ3 5 i = _; rw [hC5 i i0 i1]; by_cases c8 : i < e; (rw [if_pos c8, if_pos (by omega)]); (rw [if_neg c8, if_neg (by omega)]))) (fun e' r e0 e1 r0 r1 => by show z_u σ3 12 (40 * e + σ 19 0) 0 12 (40 * e' + r) = _; by_cases c9 : e' = e ∧ r = σ 19 0; (rw [c9.1, c9.2, z_u_at, if_pos ⟨rfl, by omega⟩]; exact hyg); (rw [z_u_at' (by omega), hC12 e' r e0 e1 r0 r1]; by_cases c8 : r = σ 19 0 ∧ e' < e; (rw [if_pos c8, if_pos ⟨c8.1, by omega⟩]); (rw [if_neg c8, if_neg (by omega)]))) (fun r e' r0 r1 e0 e1 => by show z_u σ3 13 (30 * σ 19 0 + e) (-1) 13 (30 * r + e') = _; by_cases c9 : e' = e ∧ r = σ 19 0; (rw [c9.1, c9.2, z_u_at, if_pos ⟨rfl, by omega⟩]); (rw [z_u_at' (by omega), hC13 r e' r0 r1 e0 e1]; by_cases c8 : r = σ 19 0 ∧ e' < e; (rw [if_pos c8, if_pos ⟨c8.1, by omega⟩]); (rw [if_neg c8, if_neg (by omega)])))
                      · refine z_aload hY eL_isEnded_186 0 rfl ?_
                        refine g_gf hY (gS_X hI) eL_isEnded_187 (v := .ref (A 2)) rfl ?_
                        refine z_const hY eL_isEnded_190 ?_
                        refine z_iload hY eL_isEnded_191 3 rfl ?_
                        refine z_imul hY eL_isEnded_192 ?_
                        have hb18 := (gS_b hI).s2 (4 * e)
                        refine g_ial hY (gS_X hI) eL_isEnded_193 (j := 2) (N := 120) (x := σ 2 (4 * e)) (by decide) rfl (by omega) (congrFun (hF3 2 (by decide) (by decide) (by decide) (by decide) (by decide) (by decide) (by decide)) _) ?_
                        refine z_aload hY eL_isEnded_194 0 rfl ?_
                        refine g_gf hY (gS_X hI) eL_isEnded_195 (v := .ref (A 5)) rfl ?_
                        refine z_iload hY eL_isEnded_198 3 rfl ?_
                        have hb19 := hw3.s5 e
                        refine g_ial hY (gS_X hI) eL_isEnded_199 (j := 5) (N := 30) (x := σ3 5 e) (by decide) rfl (by omega) rfl ?_
                        refine z_isub hY eL_isEnded_200 ?_
                        refine z_goto hY eL_isEnded_201 ?_
                        have hyg : ((σ 2 (4 * e)) - (σ3 5 e)) = ygv ρ e := by unfold ygv; rw [if_pos ⟨by omega, fun q => by have := gS_18 hI (e := e) (by omega); omega⟩, gS_14 hI (by omega), (gS_L hI).2.1.2.2.2 e (by omega) (by omega), hC5 e (by omega) (by omega), if_neg (by omega)]
                        refine g_ias hY (gS_X hI) eL_isEnded_205 (j := 12) (N := 1200) (by decide) (fun _ => rfl) (by omega) ?_
                        refine z_aload hY eL_isEnded_206 0 rfl ?_
                        refine g_gf hY (gS_X hI) eL_isEnded_207 (v := .ref (A 13)) rfl ?_
                        refine z_const hY eL_isEnded_210 ?_
                        refine z_aload hY eL_isEnded_212 0 rfl ?_
                        refine g_gf hY (gS_X hI) eL_isEnded_213 (v := z_i (σ 19 0)) (congrArg (fun q => some (z_i q)) (Eq.trans (congrFun (z_u_ne (by decide)) _) (congrFun (hF3 19 (by decide) (by decide) (by decide) (by decide) (by decide) (by decide) (by decide)) _))) ?_
                        refine z_imul hY eL_isEnded_216 ?_
                        refine z_iload hY eL_isEnded_217 3 rfl ?_
                        refine z_iadd hY eL_isEnded_218 ?_
                        refine z_const hY eL_isEnded_219 ?_
                        refine g_ias hY (gS_X hI) eL_isEnded_220 (j := 13) (N := 1200) (by decide) (fun _ => rfl) (by omega) ?_
                        refine z_iload hY eL_isEnded_221 3 rfl ?_
                        refine z_aload hY eL_isEnded_222 0 rfl ?_
                        refine g_gf hY (gS_X hI) eL_isEnded_223 (v := z_i (σ 14 0)) (congrArg (fun q => some (z_i q)) (Eq.trans (congrFun (z_u_ne (by decide)) _) (Eq.trans (congrFun (z_u_ne (by decide)) _) (congrFun (hF3 14 (by decide) (by decide) (by decide) (by decide) (by decide) (by decide) (by decide)) _)))) ?_
                        refine z_icmpge hY eL_isEnded_226 (by omega) (fun c226 => by exfalso; omega) (fun c226 => ?_)
                        refine z_aload hY eL_isEnded_229 0 rfl ?_
                        refine g_gf hY (gS_X hI) eL_isEnded_230 (v := .ref (A 7)) rfl ?_
                        refine z_iload hY eL_isEnded_233 3 rfl ?_
                        refine g_bal hY (gS_X hI) eL_isEnded_234 (j := 7) (N := 30) (x := σ 7 e) (by decide) rfl (by omega) (Eq.trans (congrFun (z_u_ne (by decide)) _) (Eq.trans (congrFun (z_u_ne (by decide)) _) (congrFun (hF3 7 (by decide) (by decide) (by decide) (by decide) (by decide) (by decide) (by decide)) _))) ?_
                        refine z_ifeq hY eL_isEnded_235 (by omega) (fun c235 => by exfalso; omega) (fun c235 => ?_)
                        refine z_aload hY eL_isEnded_238 0 rfl ?_
                        refine g_gf hY (gS_X hI) eL_isEnded_239 (v := .ref (B 0 0)) rfl ?_
                        refine z_iload hY eL_isEnded_242 3 rfl ?_
                        have hpe : pr ρ e := (gS_pr hI).mpr ⟨by omega, by omega, by omega⟩
                        have hcp := gS_cpr hI hpe
                        have hgn := ((gS_R hI).e ⟨hpe.1, hpe.2.1⟩).2.2.2.2.2.1 hpe.2.2 |>.1
                        have h17e := (gS_L hI).2.1.2.2.2 e (by omega) (by omega)
                        have h14e := gS_14 hI (j := 4 * e) (by omega)
                        have h5e := hC5 e (by omega) (by omega)
                        rw [if_neg (by omega)] at h5e
                        refine z_callV (As := [z_i e]) (rest := []) hY eL_isEnded_243 (q_gain (D := D) (h := lH A (B 0 0) (z_u (z_u σ3 12 (40 * e + (σ 19 0)) ((σ 2 (4 * e)) - (σ3 5 e))) 13 (30 * (σ 19 0) + e) (-1)) h) hG (gS_J hI) (gS_B hI) (gS_V hI) (gS_S hI) (by omega)) (cH_at (t := 0) (i := 0) (gS_J hI) (by omega)) (by decide) (Nat.le_of_ble_eq_true rfl) (by rw [hmc, hms]; omega) (fun E9 h9 q => by obtain ⟨-, q⟩ := q; exfalso; omega) (fun vv21 hh21 q21 => ?_)
                        obtain ⟨-, rfl, rfl⟩ := q21
                        refine z_heq (show _ = gH D B κ A (z_u (z_u σ3 12 (40 * e + (σ 19 0)) ((σ 2 (4 * e)) - (σ3 5 e))) 13 (30 * (σ 19 0) + e) (-1)) h from rfl) ?_
                        refine z_aload hY eL_isEnded_246 0 rfl ?_
                        refine g_gf hY (gS_X hI) eL_isEnded_247 (v := .ref (A 2)) rfl ?_
                        refine z_const hY eL_isEnded_250 ?_
                        refine z_iload hY eL_isEnded_251 3 rfl ?_
                        refine z_imul hY eL_isEnded_252 ?_
                        refine g_ial hY (gS_X hI) eL_isEnded_253 (j := 2) (N := 120) (x := σ 2 (4 * e)) (by decide) rfl (by omega) (Eq.trans (congrFun (z_u_ne (by decide)) _) (Eq.trans (congrFun (z_u_ne (by decide)) _) (congrFun (hF3 2 (by decide) (by decide) (by decide) (by decide) (by decide) (by decide) (by decide)) _))) ?_
                        refine z_aload hY eL_isEnded_254 0 rfl ?_
                        refine g_gf hY (gS_X hI) eL_isEnded_255 (v := .ref (A 5)) rfl ?_
                        refine z_iload hY eL_isEnded_258 3 rfl ?_
                        refine g_ial hY (gS_X hI) eL_isEnded_259 (j := 5) (N := 30) (x := σ3 5 e) (by decide) rfl (by omega) (Eq.trans (congrFun (z_u_ne (by decide)) _) (congrFun (z_u_ne (by decide)) _)) ?_
                        refine z_isub hY eL_isEnded_260 ?_
                        refine z_icmpeq hY eL_isEnded_261 (by omega) (fun c261 => ?_) (fun c261 => by exfalso; omega)
                        refine z_aload hY eL_isEnded_266 0 rfl ?_
                        refine g_gf hY (gS_X hI) eL_isEnded_267 (v := .ref (A 5)) rfl ?_
                        refine z_iload hY eL_isEnded_270 3 rfl ?_
                        refine z_aload hY eL_isEnded_271 0 rfl ?_
                        refine g_gf hY (gS_X hI) eL_isEnded_272 (v := .ref (A 2)) rfl ?_
                        refine z_const hY eL_isEnded_275 ?_
                        refine z_iload hY eL_isEnded_276 3 rfl ?_
                        refine z_imul hY eL_isEnded_277 ?_
                        refine g_ial hY (gS_X hI) eL_isEnded_278 (j := 2) (N := 120) (x := σ 2 (4 * e)) (by decide) rfl (by omega) (Eq.trans (congrFun (z_u_ne (by decide)) _) (Eq.trans (congrFun (z_u_ne (by decide)) _) (congrFun (hF3 2 (by decide) (by decide) (by decide) (by decide) (by decide) (by decide) (by decide)) _))) ?_
                        refine g_ias hY (gS_X hI) eL_isEnded_279 (j := 5) (N := 30) (by decide) (fun _ => rfl) (by omega) ?_
                        refine z_iinc hY eL_isEnded_280 3 rfl (ls' := [(3, z_i (e + 1)), (0, .ref (A 40)), (1, z_i ((σ 19 0) - (σ 18 0) + 1)), (2, z_i (my ρ))]) rfl ?_
                        refine z_goto hY eL_isEnded_283 ?_
                        refine z_sub [1, 2, 3, 0] (ls' := [(0, .ref (A 40)), (1, z_i ((σ 19 0) - (σ 18 0) + 1)), (2, z_i (my ρ)), (3, z_i (e + 1))]) rfl ?_
                        refine z_widen (k' := ((e + 1).toNat)) (n' := (6 * (e + 1).toNat)) (by omega) (by omega) ?_
                        exact ih150 (e + 1) (z_u (z_u (z_u σ3 12 (40 * e + (σ 19 0)) ((σ 2 (4 * e)) - (σ3 5 e))) 13 (30 * (σ 19 0) + e) (-1)) 5 e (σ 2 (4 * e))) (by omega) (by omega) (fun k k0 k1 k2 k3 k4 k5 k6 => (z_u_ne (by omega)).trans ((z_u_ne (by omega)).trans ((z_u_ne (by omega)).trans (hF3 k k0 k1 k2 k3 k4 k5 k6)))) (wB_u (wB_u (wB_u hw3 (by show (-200000 : Int) ≤ _ ∧ _ ≤ (200000 : Int); omega)) (by show (-1 : Int) ≤ _ ∧ _ ≤ (30 : Int); omega)) (by show (-100000 : Int) ≤ _ ∧ _ ≤ (100000 : Int); omega)) (by rw [← hC6]; rfl) (by rw [← hC9]; rfl) (fun i i0 i1 => by by_cases c9 : i = e; (rw [c9, z_u_at, if_pos (by omega)]); (rw [z_u_at' c9]; show σ3 5 i = _; rw [hC5 i i0 i1]; by_cases c8 : i < e; (rw [if_pos c8, if_pos (by omega)]); (rw [if_neg c8, if_neg (by omega)]))) (fun e' r e0 e1 r0 r1 => by show z_u σ3 12 (40 * e + σ 19 0) ((σ 2 (4 * e)) - (σ3 5 e)) 12 (40 * e' + r) = _; by_cases c9 : e' = e ∧ r = σ 19 0; (rw [c9.1, c9.2, z_u_at, if_pos ⟨rfl, by omega⟩]; exact hyg); (rw [z_u_at' (by omega), hC12 e' r e0 e1 r0 r1]; by_cases c8 : r = σ 19 0 ∧ e' < e; (rw [if_pos c8, if_pos ⟨c8.1, by omega⟩]); (rw [if_neg c8, if_neg (by omega)]))) (fun r e' r0 r1 e0 e1 => by show z_u σ3 13 (30 * σ 19 0 + e) (-1) 13 (30 * r + e') = _; by_cases c9 : e' = e ∧ r = σ 19 0; (rw [c9.1, c9.2, z_u_at, if_pos ⟨rfl, by omega⟩]); (rw [z_u_at' (by omega), hC13 r e' r0 r1 e0 e1]; by_cases c8 : r = σ 19 0 ∧ e' < e; (rw [if_pos c8, if_pos ⟨c8.1, by omega⟩]); (rw [if_neg c8, if_neg (by omega)])))
              refine z_widen (k' := ((0 : Int).toNat)) (n' := (6 * (0 : Int).toNat)) (by omega) (by omega) ?_
              exact lp150 _ 0 σs (Nat.lt_succ_self _) (by omega) (fun k k0 k6 k20 k9 _ _ _ => hFs k k0 k6 k20 k9) hws rfl rfl (fun i i0 i1 => by rw [if_neg (by omega), hFs 5 (by decide) (by decide) (by decide) (by decide)]) (fun e' r e0 e1 r0 r1 => by rw [if_neg (by omega), hFs 12 (by decide) (by decide) (by decide) (by decide)]) (fun r e' r0 r1 e0 e1 => by rw [if_neg (by omega), hFs 13 (by decide) (by decide) (by decide) (by decide)])
            · refine z_aload hY eL_isEnded_51 0 rfl ?_
              refine g_gf hY (gS_X hI) eL_isEnded_52 (v := .ref (A 20)) rfl ?_
              refine z_iload hY eL_isEnded_55 2 rfl ?_
              have hb22 := hw2.s20 k
              refine g_ial hY (gS_X hI) eL_isEnded_56 (j := 20) (N := 30) (x := σ2 20 k) (by decide) rfl (by omega) rfl ?_
              have hF16 : σ2 16 0 = σ 16 0 := congrFun (hF 16 (by decide) (by decide) (by decide) (by decide)) 0
              have hbk := (gS_b hI).s9 k
              have hek := h202 k (by omega) (by omega)
              have hlk := hl9.2 k (by omega) (by omega)
              refine z_top (b := σ 9 k) hek ?_
              refine z_istore hY eL_isEnded_57 (ls' := [(3, z_i (σ 9 k)), (0, .ref (A 40)), (1, z_i ((σ 19 0) - (σ 18 0) + 1)), (2, z_i k)]) rfl ?_
              refine z_aload hY eL_isEnded_58 1 rfl ?_
              refine z_iload hY eL_isEnded_59 0 rfl ?_
              refine z_callVr (As := [z_i (σ 9 k)]) (rest := []) (r := z_i (lp (wLP σ2) (σ 9 k))) hY eL_isEnded_60 (la_placeW hG (gS_X hI) hw2 (e := (σ 9 k)) (by omega)) ((gH_at (gS_X hI) (by decide)).trans (congrArg some lC_40)) (by decide) (Nat.le_of_ble_eq_true rfl) ⟨Nat.zero_le _, Nat.zero_le _⟩ ?_
              refine z_top (b := k + 1) (lp_is (σ := wLP σ2) (by show 0 ≤ k ∧ k < σ2 16 0; omega) (by show σ2 9 k = (σ 9 k); rw [h9 k (by omega) (by omega), yFs_lo ρ _ k (by omega), hl9.1 k (by omega) (by omega)]) (fun i i0 i1 => by show σ2 9 i ≠ (σ 9 k); rw [h9 i i0 (by omega), yFs_lo ρ _ i (by omega), hl9.1 i i0 (by omega)]; have := hdd i k i0 (by omega) (by omega) (by omega); omega)) ?_
              refine z_istore hY eL_isEnded_63 (ls' := [(4, z_i (k + 1)), (3, z_i (σ 9 k)), (0, .ref (A 40)), (1, z_i ((σ 19 0) - (σ 18 0) + 1)), (2, z_i k)]) rfl ?_
              refine z_iload hY eL_isEnded_65 3 rfl ?_
              refine z_iflt hY eL_isEnded_66 (by omega) (fun c66 => ?_) (fun c66 => ?_)
              · refine z_const hY eL_isEnded_93 ?_
                refine z_istore hY eL_isEnded_94 (ls' := [(5, z_i 0), (4, z_i (k + 1)), (3, z_i (σ 9 k)), (0, .ref (A 40)), (1, z_i ((σ 19 0) - (σ 18 0) + 1)), (2, z_i k)]) rfl ?_
                refine z_iload hY eL_isEnded_96 0 rfl ?_
                refine z_ifeq hY eL_isEnded_98 (by omega) (fun _ => ?_) (fun c => absurd c (by omega))
                refine z_iinc hY eL_isEnded_137 5 rfl (ls' := [(2, z_i (k + (-1))), (5, z_i 0), (4, z_i (k + 1)), (3, z_i (σ 9 k)), (0, .ref (A 40)), (1, z_i ((σ 19 0) - (σ 18 0) + 1))]) rfl ?_
                refine z_lq (ls' := [(2, z_i (k - 1)), (5, z_i 0), (4, z_i (k + 1)), (3, z_i (σ 9 k)), (0, .ref (A 40)), (1, z_i ((σ 19 0) - (σ 18 0) + 1))]) (by rw [show (k + (-1) : Int) = k - 1 by omega]) ?_
                refine z_goto hY eL_isEnded_140 ?_
                have hst : ∀ i, 0 ≤ i → i < σ 16 0 → (σ2) 9 i = yFs ρ (ρ 25 0 - 1 - (k - 1)).toNat i := by rw [← yFs_s (by omega) (by unfold yFc; rw [hl9.1 k (by omega) (by omega), hlk.1, hlk.2]; omega)]; exact h9
                refine z_sub [4, 5, 0] (ls' := [(0, .ref (A 40)), (1, z_i ((σ 19 0) - (σ 18 0) + 1)), (2, z_i (k - 1))]) rfl ?_
                exact ih47 (k - 1) σ2 (by omega) (by omega) (fun k k0 k1 k2 k3 => hF k k0 k1 k2 k3) hw2 h202 hst
              · refine z_aload hY eL_isEnded_69 2 rfl ?_
                refine g_gf hY (gS_X hI) eL_isEnded_70 (v := .ref (A 10)) rfl ?_
                refine z_iload hY eL_isEnded_73 1 rfl ?_
                have hb24 := (gS_b hI).s10 (σ 9 k)
                refine g_ial hY (gS_X hI) eL_isEnded_74 (j := 10) (N := 30) (x := σ 10 (σ 9 k)) (by decide) rfl (by omega) (congrFun (hF 10 (by decide) (by decide) (by decide) (by decide)) _) ?_
                refine z_iload hY eL_isEnded_75 3 rfl ?_
                refine z_icmpgt hY eL_isEnded_76 (by omega) (fun c76 => ?_) (fun c76 => ?_)
                · refine z_const hY eL_isEnded_93 ?_
                  refine z_istore hY eL_isEnded_94 (ls' := [(5, z_i 0), (4, z_i (k + 1)), (3, z_i (σ 9 k)), (0, .ref (A 40)), (1, z_i ((σ 19 0) - (σ 18 0) + 1)), (2, z_i k)]) rfl ?_
                  refine z_iload hY eL_isEnded_96 0 rfl ?_
                  refine z_ifeq hY eL_isEnded_98 (by omega) (fun _ => ?_) (fun c => absurd c (by omega))
                  refine z_iinc hY eL_isEnded_137 5 rfl (ls' := [(2, z_i (k + (-1))), (5, z_i 0), (4, z_i (k + 1)), (3, z_i (σ 9 k)), (0, .ref (A 40)), (1, z_i ((σ 19 0) - (σ 18 0) + 1))]) rfl ?_
                  refine z_lq (ls' := [(2, z_i (k - 1)), (5, z_i 0), (4, z_i (k + 1)), (3, z_i (σ 9 k)), (0, .ref (A 40)), (1, z_i ((σ 19 0) - (σ 18 0) + 1))]) (by rw [show (k + (-1) : Int) = k - 1 by omega]) ?_
                  refine z_goto hY eL_isEnded_140 ?_
                  have hst : ∀ i, 0 ≤ i → i < σ 16 0 → (σ2) 9 i = yFs ρ (ρ 25 0 - 1 - (k - 1)).toNat i := by rw [← yFs_s (by omega) (by unfold yFc; rw [hl9.1 k (by omega) (by omega), hlk.1, hlk.2]; omega)]; exact h9
                  refine z_sub [4, 5, 0] (ls' := [(0, .ref (A 40)), (1, z_i ((σ 19 0) - (σ 18 0) + 1)), (2, z_i (k - 1))]) rfl ?_
                  exact ih47 (k - 1) σ2 (by omega) (by omega) (fun k k0 k1 k2 k3 => hF k k0 k1 k2 k3) hw2 h202 hst
                · refine z_aload hY eL_isEnded_79 2 rfl ?_
                  refine g_gf hY (gS_X hI) eL_isEnded_80 (v := .ref (A 11)) rfl ?_
                  refine z_iload hY eL_isEnded_83 1 rfl ?_
                  have hb25 := (gS_b hI).s11 (σ 9 k)
                  refine g_ial hY (gS_X hI) eL_isEnded_84 (j := 11) (N := 30) (x := σ 11 (σ 9 k)) (by decide) rfl (by omega) (congrFun (hF 11 (by decide) (by decide) (by decide) (by decide)) _) ?_
                  refine z_iload hY eL_isEnded_85 3 rfl ?_
                  refine z_icmpge hY eL_isEnded_86 (by omega) (fun c86 => ?_) (fun c86 => ?_)
                  · refine z_const hY eL_isEnded_93 ?_
                    refine z_istore hY eL_isEnded_94 (ls' := [(5, z_i 0), (4, z_i (k + 1)), (3, z_i (σ 9 k)), (0, .ref (A 40)), (1, z_i ((σ 19 0) - (σ 18 0) + 1)), (2, z_i k)]) rfl ?_
                    refine z_iload hY eL_isEnded_96 0 rfl ?_
                    refine z_ifeq hY eL_isEnded_98 (by omega) (fun _ => ?_) (fun c => absurd c (by omega))
                    refine z_iinc hY eL_isEnded_137 5 rfl (ls' := [(2, z_i (k + (-1))), (5, z_i 0), (4, z_i (k + 1)), (3, z_i (σ 9 k)), (0, .ref (A 40)), (1, z_i ((σ 19 0) - (σ 18 0) + 1))]) rfl ?_
                    refine z_lq (ls' := [(2, z_i (k - 1)), (5, z_i 0), (4, z_i (k + 1)), (3, z_i (σ 9 k)), (0, .ref (A 40)), (1, z_i ((σ 19 0) - (σ 18 0) + 1))]) (by rw [show (k + (-1) : Int) = k - 1 by omega]) ?_
                    refine z_goto hY eL_isEnded_140 ?_
                    have hst : ∀ i, 0 ≤ i → i < σ 16 0 → (σ2) 9 i = yFs ρ (ρ 25 0 - 1 - (k - 1)).toNat i := by rw [← yFs_s (by omega) (by unfold yFc; rw [hl9.1 k (by omega) (by omega), hlk.1, hlk.2]; omega)]; exact h9
                    refine z_sub [4, 5, 0] (ls' := [(0, .ref (A 40)), (1, z_i ((σ 19 0) - (σ 18 0) + 1)), (2, z_i (k - 1))]) rfl ?_
                    exact ih47 (k - 1) σ2 (by omega) (by omega) (fun k k0 k1 k2 k3 => hF k k0 k1 k2 k3) hw2 h202 hst
                  · refine z_const hY eL_isEnded_89 ?_
                    refine z_goto hY eL_isEnded_90 ?_
                    refine z_istore hY eL_isEnded_94 (ls' := [(5, z_i 1), (4, z_i (k + 1)), (3, z_i (σ 9 k)), (0, .ref (A 40)), (1, z_i ((σ 19 0) - (σ 18 0) + 1)), (2, z_i k)]) rfl ?_
                    refine z_iload hY eL_isEnded_96 0 rfl ?_
                    refine z_ifeq hY eL_isEnded_98 (by omega) (fun c => absurd c (by omega)) (fun _ => ?_)
                    refine z_iload hY eL_isEnded_101 1 rfl ?_
                    refine z_aload hY eL_isEnded_103 3 rfl ?_
                    have hb26 := (gS_b hI).s16 0
                    refine g_gf hY (gS_X hI) eL_isEnded_104 (v := z_i (σ 16 0)) (congrArg (fun q => some (z_i q)) (congrFun (hF 16 (by decide) (by decide) (by decide) (by decide)) _)) ?_
                    refine z_icmpne hY eL_isEnded_107 (by omega) (fun c107 => ?_) (fun c107 => ?_)
                    · refine z_aload hY eL_isEnded_113 3 rfl ?_
                      refine g_gf hY (gS_X hI) eL_isEnded_114 (v := .ref (A 9)) rfl ?_
                      refine z_iload hY eL_isEnded_117 1 rfl ?_
                      refine z_const hY eL_isEnded_119 ?_
                      refine z_isub hY eL_isEnded_120 ?_
                      refine z_top (b := k) (by omega) ?_
                      refine z_aload hY eL_isEnded_121 3 rfl ?_
                      refine g_gf hY (gS_X hI) eL_isEnded_122 (v := .ref (A 9)) rfl ?_
                      refine z_iload hY eL_isEnded_125 1 rfl ?_
                      have hb27 := hw2.s9 (k + 1)
                      refine g_ial hY (gS_X hI) eL_isEnded_127 (j := 9) (N := 30) (x := σ2 9 (k + 1)) (by decide) rfl (by omega) rfl ?_
                      refine g_ias hY (gS_X hI) eL_isEnded_128 (j := 9) (N := 30) (by decide) (fun _ => rfl) (by omega) ?_
                      refine z_aload hY eL_isEnded_129 3 rfl ?_
                      refine g_gf hY (gS_X hI) eL_isEnded_130 (v := .ref (A 9)) rfl ?_
                      refine z_iload hY eL_isEnded_133 1 rfl ?_
                      refine z_iload hY eL_isEnded_135 2 rfl ?_
                      refine g_ias hY (gS_X hI) eL_isEnded_136 (j := 9) (N := 30) (by decide) (fun _ => rfl) (by omega) ?_
                      refine z_iinc hY eL_isEnded_137 5 rfl (ls' := [(2, z_i (k + (-1))), (5, z_i 1), (4, z_i (k + 1)), (3, z_i (σ 9 k)), (0, .ref (A 40)), (1, z_i ((σ 19 0) - (σ 18 0) + 1))]) rfl ?_
                      refine z_lq (ls' := [(2, z_i (k - 1)), (5, z_i 1), (4, z_i (k + 1)), (3, z_i (σ 9 k)), (0, .ref (A 40)), (1, z_i ((σ 19 0) - (σ 18 0) + 1))]) (by rw [show (k + (-1) : Int) = k - 1 by omega]) ?_
                      refine z_goto hY eL_isEnded_140 ?_
                      have hst : ∀ i, 0 ≤ i → i < σ 16 0 → (z_u (z_u σ2 9 k (σ2 9 (k + 1))) 9 (k + 1) (σ 9 k)) 9 i = yFs ρ (ρ 25 0 - 1 - (k - 1)).toNat i := fun i i0 i1 => by rw [yFs_w (by omega) (fun q9 => by unfold yFc at q9; rw [hl9.1 k (by omega) (by omega), hlk.1, hlk.2] at q9; omega)]; show _ = (if i = k + 1 then ρ 21 k else if i = k then yFs ρ (ρ 25 0 - 1 - k).toNat (k + 1) else yFs ρ (ρ 25 0 - 1 - k).toNat i); by_cases c9 : i = k + 1; (rw [c9, z_u_at, if_pos rfl, hl9.1 k (by omega) (by omega)]); (rw [z_u_at' c9, if_neg c9]; by_cases c8 : i = k; (rw [c8, z_u_at, if_pos rfl]; exact h9 (k + 1) (by omega) (by omega)); (rw [z_u_at' c8, if_neg c8]; exact h9 i i0 i1))
                      refine z_sub [4, 5, 0] (ls' := [(0, .ref (A 40)), (1, z_i ((σ 19 0) - (σ 18 0) + 1)), (2, z_i (k - 1))]) rfl ?_
                      exact ih47 (k - 1) (z_u (z_u σ2 9 k (σ2 9 (k + 1))) 9 (k + 1) (σ 9 k)) (by omega) (by omega) (fun k k0 k1 k2 k3 => (z_u_ne (by omega)).trans ((z_u_ne (by omega)).trans (hF k k0 k1 k2 k3))) (wB_u (wB_u hw2 (by show (0 : Int) ≤ _ ∧ _ ≤ (29 : Int); omega)) (by show (0 : Int) ≤ _ ∧ _ ≤ (29 : Int); omega)) h202 hst
                    · refine z_goto hY eL_isEnded_110 ?_
                      refine z_iinc hY eL_isEnded_137 5 rfl (ls' := [(2, z_i (k + (-1))), (5, z_i 1), (4, z_i (k + 1)), (3, z_i (σ 9 k)), (0, .ref (A 40)), (1, z_i ((σ 19 0) - (σ 18 0) + 1))]) rfl ?_
                      refine z_lq (ls' := [(2, z_i (k - 1)), (5, z_i 1), (4, z_i (k + 1)), (3, z_i (σ 9 k)), (0, .ref (A 40)), (1, z_i ((σ 19 0) - (σ 18 0) + 1))]) (by rw [show (k + (-1) : Int) = k - 1 by omega]) ?_
                      refine z_goto hY eL_isEnded_140 ?_
                      have hst : ∀ i, 0 ≤ i → i < σ 16 0 → (σ2) 9 i = yFs ρ (ρ 25 0 - 1 - (k - 1)).toNat i := by rw [← yFs_s (by omega) (by unfold yFc; rw [hl9.1 k (by omega) (by omega), hlk.1, hlk.2]; omega)]; exact h9
                      refine z_sub [4, 5, 0] (ls' := [(0, .ref (A 40)), (1, z_i ((σ 19 0) - (σ 18 0) + 1)), (2, z_i (k - 1))]) rfl ?_
                      exact ih47 (k - 1) σ2 (by omega) (by omega) (fun k k0 k1 k2 k3 => hF k k0 k1 k2 k3) hw2 h202 hst
        exact lp47 _ ((σ 16 0) - 1) σ1 (Nat.lt_succ_self _) (by omega) (fun k k0 k6 k20 k9 => hE k k0 k6 k20) hw1 (fun i i0 i1 => h20 i i0 (by omega)) (fun i i0 i1 => by rw [hE 9 (by decide) (by decide) (by decide), show (ρ 25 0 - 1 - (σ 16 0 - 1)).toNat = 0 by omega]; exact (hl9.1 i i0 i1).symm)
      · refine z_aload hY eL_isEnded_22 0 rfl ?_
        refine g_gf hY (gS_X hI) eL_isEnded_23 (v := .ref (A 20)) rfl ?_
        refine z_iload hY eL_isEnded_26 2 rfl ?_
        refine z_aload hY eL_isEnded_27 0 rfl ?_
        refine g_gf hY (gS_X hI) eL_isEnded_28 (v := .ref (A 9)) rfl ?_
        refine z_iload hY eL_isEnded_31 2 rfl ?_
        have hb28 := (gS_b hI).s9 k
        refine g_ial hY (gS_X hI) eL_isEnded_32 (j := 9) (N := 30) (x := σ 9 k) (by decide) rfl (by omega) (congrFun (hE 9 (by decide) (by decide) (by decide)) _) ?_
        refine g_ias hY (gS_X hI) eL_isEnded_33 (j := 20) (N := 30) (by decide) (fun _ => rfl) (by omega) ?_
        refine z_iinc hY eL_isEnded_34 2 rfl (ls' := [(2, z_i (k + 1)), (0, .ref (A 40)), (1, z_i ((σ 19 0) - (σ 18 0) + 1))]) rfl ?_
        refine z_goto hY eL_isEnded_37 ?_
        refine z_sub [1, 2, 0] (ls' := [(0, .ref (A 40)), (1, z_i ((σ 19 0) - (σ 18 0) + 1)), (2, z_i (k + 1))]) rfl ?_
        exact ih14 (k + 1) (z_u σ1 20 k (σ 9 k)) (by omega) (by omega) (wE_u hE (by decide)) (wB_u hw1 (by show (0 : Int) ≤ _ ∧ _ ≤ (29 : Int); omega)) (fun i i0 i1 => by by_cases c9 : i = k; (rw [c9, z_u_at]); (rw [z_u_at' c9]; exact h20 i i0 (by omega)))
  exact lp14 _ 0 σ (Nat.lt_succ_self _) (by omega) wE_r (gS_b hI) (fun i i0 i1 => by omega)
end LV6
