/-! THE LAW's SORT: the row is the standing (laid by wip/p53/gen/gl73.py). -/
section LV2
theorem jS_uniq {lt : Int → Int → Prop} [DecidableRel lt] {P : Int → Prop} [DecidablePred P] {l l' : Int → Int} {n n' m : Int} (hO : jO lt) (h1 : jS lt P l n) (h2 : jS lt P l' n') (hm : 0 ≤ m) (hP : ∀ e, P e → 0 ≤ e ∧ e < m) : n = n' ∧ ∀ i, 0 ≤ i → i < n → l i = l' i := by
  refine ⟨(jS_num hO h1 hm hP).symm.trans (jS_num hO h2 hm hP), fun i h0 hn => ?_⟩
  obtain ⟨j, j0, j1, j2⟩ := h2.2.2.2 (l i) (h1.2.1 i h0 hn)
  have e1 := jS_pos hO h1 hm hP (i := i) ⟨h0, hn⟩
  have e2 := jS_pos hO h2 hm hP (i := j) ⟨j0, j1⟩
  rw [j2] at e2
  rw [← j2, e1.symm.trans e2]
/-- one more is put in -/
theorem w_ins {ρ : z_S} {l f : Int → Int} {n a e : Int} (hJ : jS (hh ρ) (fun x => pr ρ x ∧ x < e) l n) (ha : 0 ≤ a ∧ a ≤ n) (h2 : ∀ j, a ≤ j → j < n → hh ρ e (l j)) (h1 : a = 0 ∨ hh ρ (l (a - 1)) e) (he : pr ρ e) (f1 : ∀ j, 0 ≤ j → j < a → f j = l j) (f2 : f a = e) (f3 : ∀ j, a < j → j ≤ n → f j = l (j - 1)) : jS (hh ρ) (fun x => pr ρ x ∧ x < e + 1) f (n + 1) := by
  have hO := hh_o ρ
  have k1 : ∀ i, 0 ≤ i → i < a → hh ρ (l i) e := fun i i0 i1 => by
    have q : hh ρ (l (a - 1)) e := h1.resolve_left (by omega)
    by_cases c : i = a - 1
    · rw [c]; exact q
    · exact hO.2 _ _ _ (hJ.2.2.1 i (a - 1) i0 (by omega) (by omega)) q
  have J1 := jS_in (P' := fun x => pr ρ x ∧ x < e + 1) hJ ha k1 h2 (fun x => ⟨fun q => by
    by_cases c : x = e
    · exact Or.inr c
    · exact Or.inl ⟨q.1, by have := q.2; omega⟩, fun q => by
    rcases q with q | rfl
    · exact ⟨q.1, by have := q.2; omega⟩
    · exact ⟨he, by omega⟩⟩)
  refine jS_cg J1 rfl (fun i i0 i1 => ?_) (fun _ => Iff.rfl) (fun _ _ _ _ q => q)
  show f i = if i < a then l i else if i = a then e else l (i - 1)
  by_cases c : i < a
  · rw [if_pos c, f1 i i0 c]
  · rw [if_neg c]
    by_cases c2 : i = a
    · rw [if_pos c2, c2, f2]
    · rw [if_neg c2, f3 i (by omega) (by omega)]
/-- one that is not there -/
theorem w_skip {ρ : z_S} {l : Int → Int} {n e : Int} (hJ : jS (hh ρ) (fun x => pr ρ x ∧ x < e) l n) (he : ¬ pr ρ e) : jS (hh ρ) (fun x => pr ρ x ∧ x < e + 1) l n :=
  jS_cg hJ rfl (fun _ _ _ => rfl) (fun x => ⟨fun q => ⟨q.1, by
    have : x ≠ e := fun c => he (c ▸ q.1)
    have := q.2
    omega⟩, fun q => ⟨q.1, by have := q.2; omega⟩⟩) (fun _ _ _ _ q => q)
theorem w_none {ρ : z_S} {l : Int → Int} : jS (hh ρ) (fun x => pr ρ x ∧ x < 0) l 0 := ⟨by omega, fun i _ _ => by omega, fun i j _ _ _ => by omega, fun e q => by have := q.1.1; have := q.2; omega⟩
/-- the row is the standing -/
def wRow (ρ : z_S) (f : Int → Int) : Prop := ∀ i, 0 ≤ i → i < my ρ → f i = ea ρ (i + 1) ∧ pr ρ (f i)
theorem w_row {t : Nat} {κ : c_K} {ρ : z_S} (h : jJ t κ ρ) {f : Int → Int} {n : Int} (hJ : jS (hh ρ) (fun x => pr ρ x ∧ x < ρ 19 0) f n) : n = my ρ ∧ wRow ρ f := by
  have hV := h.V
  have J1 : jS (hh ρ) (pr ρ) f n := jS_cg hJ rfl (fun _ _ _ => rfl) (fun x => ⟨fun q => ⟨q, q.2.1⟩, fun q => q.1⟩) (fun _ _ _ _ q => q)
  obtain ⟨e1, e2⟩ := jS_uniq (hh_o ρ) J1 h.1.s.1 (mV_n hV).1 (fun _ q => pr_b q)
  have e3 := h.1.xn1 hV
  refine ⟨by omega, fun i i0 i1 => ?_⟩
  have e4 := e2 i i0 (by omega)
  rw [e4]
  refine ⟨?_, h.1.xsp ⟨i0, by omega⟩⟩
  rw [h.1.xea hV (p := i + 1) (by omega), show i + 1 - 1 = i by omega]
theorem w_cp {ρ : z_S} (hV : mV ρ) (e f : Int) : (0 < cp ρ e f ↔ g4 (mer ρ e) (mer ρ f)) ∧ (cp ρ e f < 0 ↔ g4 (mer ρ f) (mer ρ e)) := cp_g (mV_c hV) e f
theorem w_my {t : Nat} {κ : c_K} {ρ : z_S} (h : jJ t κ ρ) : 0 ≤ my ρ ∧ my ρ ≤ 30 ∧ my ρ ≤ ρ 19 0 := by
  have := my_b h.V
  omega
theorem la_sorts {G : z_G} {D : Nat} {B : Nat → Int → Nat} {κ : c_K} {A : Nat → Nat} {ρ σ : z_S} {h : z_H} {t : Nat} {m : Int} {o : Prop} (hG : z_OK G) (hI : gS t m o B κ A ρ σ) (ho : o) : z_T G mL_sorts [.ref (A 40)] (gH D B κ A σ h) 2 0 0 (fun v h' => ∃ σ' : z_S, v = some (z_i (my ρ)) ∧ (wE σ' σ ∧ wB σ' ∧ wRow ρ (σ' 6)) ∧ h' = gH D B κ A σ' h) (z_no) := by
  refine z_T_of hG pL_sorts (Nat.le_of_ble_eq_true rfl) (ls0 := [(0, .ref (A 40))]) rfl fun Y hY hg hmc hms hφ hψ => ?_
  subst hg
  have hn14 := (gS_b hI).s14 0
  have h19 := gS_19 hI
  refine z_const hY eL_sorts_0 ?_
  refine z_istore hY eL_sorts_1 (ls' := [(1, z_i 0), (0, .ref (A 40))]) rfl ?_
  refine z_const hY eL_sorts_2 ?_
  refine z_istore hY eL_sorts_3 (ls' := [(2, z_i 0), (1, z_i 0), (0, .ref (A 40))]) rfl ?_
  refine z_sub [2, 1, 0] (ls' := [(0, .ref (A 40)), (1, z_i 0), (2, z_i 0)]) rfl ?_
  have lp4 : ∀ (fu : Nat) (n : Int) (e : Int) (σ1 : z_S), (σ 14 0 - e).toNat < fu → (0 ≤ n ∧ n ≤ e ∧ e ≤ σ 14 0) → (wE σ1 σ) → (wB σ1) → (jS (hh ρ) (fun x => pr ρ x ∧ x < e) (σ1 6) n) → z_W Y 4 [(0, .ref (A 40)), (1, z_i n), (2, z_i e)] [] (gH D B κ A σ1 h) 0 0 := by
    intro fu
    induction fu with
    | zero => intro n e σ1 hf; exact absurd hf (Nat.not_lt_zero _)
    | succ fu ih4 =>
      intro n e σ1 hf hc hE hw hJ
      refine z_iload hY eL_sorts_4 2 rfl ?_
      refine z_aload hY eL_sorts_5 0 rfl ?_
      have hb1 := (gS_b hI).s14 0
      refine g_gf hY (gS_X hI) eL_sorts_6 (v := z_i (σ 14 0)) (congrArg (fun q => some (z_i q)) (congrFun (hE 14 (by decide) (by decide) (by decide)) _)) ?_
      refine z_icmpge hY eL_sorts_9 (by omega) (fun c9 => ?_) (fun c9 => ?_)
      · refine z_iload hY eL_sorts_82 1 rfl ?_
        exact z_ireturn hY eL_sorts_83 rfl (by rw [hφ]; obtain ⟨w1, w2⟩ := w_row (gS_j hI) (f := σ1 6) (n := n) (by rw [h19, show σ 14 0 = e by omega]; exact hJ); exact ⟨σ1, by rw [w1], ⟨hE, hw, w2⟩, rfl⟩) ⟨Nat.zero_le _, Nat.zero_le _⟩
      · refine z_aload hY eL_sorts_12 0 rfl ?_
        refine g_gf hY (gS_X hI) eL_sorts_13 (v := .ref (A 7)) rfl ?_
        refine z_iload hY eL_sorts_16 2 rfl ?_
        have hb2 := (gS_b hI).s7 e
        refine g_bal hY (gS_X hI) eL_sorts_17 (j := 7) (N := 30) (x := σ 7 e) (by decide) rfl (by omega) (congrFun (hE 7 (by decide) (by decide) (by decide)) _) ?_
        refine z_ifne hY eL_sorts_18 (by omega) (fun c18 => ?_) (fun c18 => ?_)
        · have hpe : pr ρ e := (gS_pr hI).mpr ⟨by omega, by omega, by omega⟩
          refine z_iload hY eL_sorts_24 1 rfl ?_
          refine z_istore hY eL_sorts_25 (ls' := [(3, z_i n), (0, .ref (A 40)), (1, z_i n), (2, z_i e)]) rfl ?_
          refine z_sub [1, 2, 3, 0] (ls' := [(0, .ref (A 40)), (1, z_i n), (2, z_i e), (3, z_i n)]) rfl ?_
          have lp26 : ∀ (fu : Nat) (a : Int) (σ2 : z_S), (a).toNat < fu → (0 ≤ a ∧ a ≤ n) → (wE σ2 σ) → (wB σ2) → (∀ j, j < a → σ2 6 j = σ1 6 j) → (∀ j, a < j → j ≤ n → σ2 6 j = σ1 6 (j - 1)) → (∀ j, a ≤ j → j < n → hh ρ e (σ1 6 j)) → z_W Y 26 [(0, .ref (A 40)), (1, z_i n), (2, z_i e), (3, z_i a)] [] (gH D B κ A σ2 h) 0 0 := by
            intro fu
            induction fu with
            | zero => intro a σ2 hf; exact absurd hf (Nat.not_lt_zero _)
            | succ fu ih26 =>
              intro a σ2 hf ha hE2 hw2 f1 f3 h2
              refine z_iload hY eL_sorts_26 3 rfl ?_
              refine z_ifle hY eL_sorts_27 (by omega) (fun c27 => ?_) (fun c27 => ?_)
              · refine z_aload hY eL_sorts_66 0 rfl ?_
                refine g_gf hY (gS_X hI) eL_sorts_67 (v := .ref (A 6)) rfl ?_
                refine z_iload hY eL_sorts_70 3 rfl ?_
                refine z_iload hY eL_sorts_71 2 rfl ?_
                refine g_ias hY (gS_X hI) eL_sorts_72 (j := 6) (N := 30) (by decide) (fun _ => rfl) (by omega) ?_
                refine z_iinc hY eL_sorts_73 1 rfl (ls' := [(1, z_i (n + 1)), (0, .ref (A 40)), (2, z_i e), (3, z_i a)]) rfl ?_
                refine z_iinc hY eL_sorts_76 2 rfl (ls' := [(2, z_i (e + 1)), (1, z_i (n + 1)), (0, .ref (A 40)), (3, z_i a)]) rfl ?_
                refine z_goto hY eL_sorts_79 ?_
                refine z_sub [2, 1, 0] (ls' := [(0, .ref (A 40)), (1, z_i (n + 1)), (2, z_i (e + 1))]) rfl ?_
                exact ih4 (n + 1) (e + 1) (z_u σ2 6 a e) (by omega) (by omega) (wE_u hE2 (by decide)) (wB_u hw2 (by show (-100000 : Int) ≤ _ ∧ _ ≤ (100000 : Int); omega)) (w_ins hJ (a := a) (by omega) h2 (by first | exact Or.inl (by omega) | exact Or.inr hx) hpe (fun j j0 j1 => (z_u_at' (by omega)).trans (f1 j j1)) z_u_at (fun j j0 j1 => (z_u_at' (by omega)).trans (f3 j j0 j1)))
              · refine z_aload hY eL_sorts_30 0 rfl ?_
                refine z_iload hY eL_sorts_31 2 rfl ?_
                refine z_aload hY eL_sorts_32 0 rfl ?_
                refine g_gf hY (gS_X hI) eL_sorts_33 (v := .ref (A 6)) rfl ?_
                refine z_iload hY eL_sorts_36 3 rfl ?_
                refine z_const hY eL_sorts_37 ?_
                refine z_isub hY eL_sorts_38 ?_
                have hb3 := hw2.s6 (a - 1)
                refine g_ial hY (gS_X hI) eL_sorts_39 (j := 6) (N := 30) (x := σ2 6 (a - 1)) (by decide) rfl (by omega) rfl ?_
                have hq := hJ.2.1 (a - 1) (by omega) (by omega)
                have hq2 := pr_b hq.1
                have hq3 := f1 (a - 1) (by omega)
                have hq4 := hq.2
                refine z_callVr (As := [z_i e, z_i (σ2 6 (a - 1))]) (rest := []) (r := z_i (cp ρ e (σ2 6 (a - 1)))) hY eL_sorts_40 (la_compares hG (gS_E hI hE2 hw2) ho (e := e) (f := (σ2 6 (a - 1))) (by omega) (by omega)) ((gH_at (gS_X hI) (by decide)).trans (congrArg some lC_40)) (by decide) (Nat.le_of_ble_eq_true rfl) ⟨Nat.zero_le _, Nat.zero_le _⟩ ?_
                have hv4 := cp_b ρ e (σ2 6 (a - 1))
                refine z_ifle hY eL_sorts_43 (by omega) (fun c43 => ?_) (fun c43 => ?_)
                · have hx : hh ρ (σ1 6 (a - 1)) e := Or.inr ⟨by omega, fun q => by have := (w_cp (gS_M hI) e _).1.mpr q; rw [← hq3] at this; omega⟩
                  refine z_aload hY eL_sorts_66 0 rfl ?_
                  refine g_gf hY (gS_X hI) eL_sorts_67 (v := .ref (A 6)) rfl ?_
                  refine z_iload hY eL_sorts_70 3 rfl ?_
                  refine z_iload hY eL_sorts_71 2 rfl ?_
                  refine g_ias hY (gS_X hI) eL_sorts_72 (j := 6) (N := 30) (by decide) (fun _ => rfl) (by omega) ?_
                  refine z_iinc hY eL_sorts_73 1 rfl (ls' := [(1, z_i (n + 1)), (0, .ref (A 40)), (2, z_i e), (3, z_i a)]) rfl ?_
                  refine z_iinc hY eL_sorts_76 2 rfl (ls' := [(2, z_i (e + 1)), (1, z_i (n + 1)), (0, .ref (A 40)), (3, z_i a)]) rfl ?_
                  refine z_goto hY eL_sorts_79 ?_
                  refine z_sub [2, 1, 0] (ls' := [(0, .ref (A 40)), (1, z_i (n + 1)), (2, z_i (e + 1))]) rfl ?_
                  exact ih4 (n + 1) (e + 1) (z_u σ2 6 a e) (by omega) (by omega) (wE_u hE2 (by decide)) (wB_u hw2 (by show (-100000 : Int) ≤ _ ∧ _ ≤ (100000 : Int); omega)) (w_ins hJ (a := a) (by omega) h2 (by first | exact Or.inl (by omega) | exact Or.inr hx) hpe (fun j j0 j1 => (z_u_at' (by omega)).trans (f1 j j1)) z_u_at (fun j j0 j1 => (z_u_at' (by omega)).trans (f3 j j0 j1)))
                · refine z_aload hY eL_sorts_46 0 rfl ?_
                  refine g_gf hY (gS_X hI) eL_sorts_47 (v := .ref (A 6)) rfl ?_
                  refine z_iload hY eL_sorts_50 3 rfl ?_
                  refine z_aload hY eL_sorts_51 0 rfl ?_
                  refine g_gf hY (gS_X hI) eL_sorts_52 (v := .ref (A 6)) rfl ?_
                  refine z_iload hY eL_sorts_55 3 rfl ?_
                  refine z_const hY eL_sorts_56 ?_
                  refine z_isub hY eL_sorts_57 ?_
                  refine g_ial hY (gS_X hI) eL_sorts_58 (j := 6) (N := 30) (x := σ2 6 (a - 1)) (by decide) rfl (by omega) rfl ?_
                  refine g_ias hY (gS_X hI) eL_sorts_59 (j := 6) (N := 30) (by decide) (fun _ => rfl) (by omega) ?_
                  refine z_iinc hY eL_sorts_60 3 rfl (ls' := [(3, z_i (a + (-1))), (0, .ref (A 40)), (1, z_i n), (2, z_i e)]) rfl ?_
                  refine z_lq (ls' := [(3, z_i (a - 1)), (0, .ref (A 40)), (1, z_i n), (2, z_i e)]) (by rw [show (a + (-1) : Int) = a - 1 by omega]) ?_
                  refine z_goto hY eL_sorts_63 ?_
                  refine z_sub [1, 2, 3, 0] (ls' := [(0, .ref (A 40)), (1, z_i n), (2, z_i e), (3, z_i (a - 1))]) rfl ?_
                  exact ih26 (a - 1) (z_u σ2 6 a (σ2 6 (a - 1))) (by omega) (by omega) (wE_u hE2 (by decide)) (wB_u hw2 (by show (-100000 : Int) ≤ _ ∧ _ ≤ (100000 : Int); omega)) (fun j hj => (z_u_at' (by omega)).trans (f1 j (by omega))) (fun j j0 j1 => by by_cases c : j = a; (rw [c, z_u_at]; exact f1 (a - 1) (by omega)); (exact (z_u_at' c).trans (f3 j (by omega) j1))) (fun j j0 j1 => by by_cases c : j = a - 1; (rw [c]; exact Or.inl ((w_cp (gS_M hI) e _).1.mp (by rw [← f1 (a - 1) (by omega)]; omega))); (exact h2 j (by omega) j1))
          exact lp26 _ n σ1 (Nat.lt_succ_self _) (by omega) hE hw (fun _ _ => rfl) (fun j _ _ => by omega) (fun j _ _ => by omega)
        · refine z_goto hY eL_sorts_21 ?_
          refine z_iinc hY eL_sorts_76 2 rfl (ls' := [(2, z_i (e + 1)), (0, .ref (A 40)), (1, z_i n)]) rfl ?_
          refine z_goto hY eL_sorts_79 ?_
          refine z_sub [1, 2, 0] (ls' := [(0, .ref (A 40)), (1, z_i n), (2, z_i (e + 1))]) rfl ?_
          exact ih4 n (e + 1) σ1 (by omega) (by omega) hE hw (w_skip hJ (fun q => ((gS_pr hI).mp q).2.2 (by omega)))
  exact lp4 _ 0 0 σ (Nat.lt_succ_self _) (by omega) wE_r (gS_b hI) w_none
end LV2
