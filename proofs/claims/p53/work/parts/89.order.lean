/-! THE LAW tells an order (laid by wip/p53/gen/gl89.py). -/
section LV17
theorem kO_81 : (Jvm.Cond.stringRef "StandingsHallLaw" (81 : Nat) "") ∈ lw_tbl := z_in3 (List.mem_of_getElem? (i := 20) rfl)
theorem kO_83 : (Jvm.Cond.stringRef "StandingsHallLaw" (83 : Nat) "; ") ∈ lw_tbl := z_in3 (List.mem_of_getElem? (i := 21) rfl)
theorem kO_92 : (Jvm.Cond.stringRef "StandingsHallLaw" (92 : Nat) "-") ∈ lw_tbl := z_in3 (List.mem_of_getElem? (i := 162) rfl)
theorem kO_94 : (Jvm.Cond.stringRef "StandingsHallLaw" (94 : Nat) "+") ∈ lw_tbl := z_in3 (List.mem_of_getElem? (i := 163) rfl)
theorem kO_99 : (Jvm.Cond.stringRef "StandingsHallLaw" (99 : Nat) " *") ∈ lw_tbl := z_in3 (List.mem_of_getElem? (i := 189) rfl)
theorem sbS_mono {H H' : z_H} {b a : Nat} {n : Int} {f : Int → Int} (hs : sbS H b a n f) (hF : ∀ x c, H x = some c → H' x = some c) : sbS H' b a n f := by
  obtain ⟨ml, N, g, h1, h2, h3⟩ := hs
  exact ⟨ml, N, g, hF _ _ h1, hF _ _ h2, h3⟩
theorem gH_mono {D : Nat} {B : Nat → Int → Nat} {κ : c_K} {A : Nat → Nat} {σ : z_S} {h H' : z_H} (hJ : cJ B κ) (hX : gXX B κ A) (hF : ∀ x c, gH D B κ A σ h x = some c → H' x = some c) : gH D B κ A σ H' = H' := by
  have e1 : lH A (B 0 0) σ H' = H' := lHs_id lK fun j hj => hF _ _ (gH_at hX hj)
  unfold gH
  rw [e1]
  exact (cH_ext hJ (fun t i hL => hF _ _ (gH_liv hJ hL)) (fun _ _ => rfl)).symm
theorem iC_f {f f' φ φ' γ γ' : Int → Int} {n c : Int} (h : iC f n c φ γ) (h1 : ∀ i, 0 ≤ i → i < 4 * c → φ' i = φ i) (h2 : ∀ j, 0 ≤ j → j < c → γ' j = γ j) (hf : ∀ i, 0 ≤ i → i < n → f' i = f i) : iC f' n c φ' γ' := fun τ hA he => by
  obtain ⟨K, ⟨a1, a2, a3, a4, a5, a6⟩, hR⟩ := h τ (tpA_m hA (Int.le_refl _) hf) he
  exact ⟨K, ⟨a1, a2, fun i i0 i1 => (a3 i i0 i1).trans (h1 i i0 i1).symm, fun j j0 j1 => (a4 j j0 j1).trans (h2 j j0 j1).symm, a5, a6⟩, hR⟩
theorem iT_f {f φ φ' γ : Int → Int} {n c t : Int} (h : iT f n c t φ γ) (h1 : ∀ i, 0 ≤ i → i < 4 * c + 4 → φ' i = φ i) : iT f n c t φ' γ := fun τ hA => by
  obtain ⟨K, ⟨a1, a2, a3, a4, a5, a6⟩, hR⟩ := h τ hA
  exact ⟨K, ⟨a1, a2, fun i i0 i1 => (a3 i i0 i1).trans (h1 i i0 i1).symm, a4, a5, a6⟩, hR⟩
theorem trT_c {f : Int → Int} {p p' x k : Int} (h : trT f p x k) (e : p = p') : trT f p' x k := e ▸ h
theorem sbC_l {f g : Int → Int} {n i : Int} (h : i < n) : sbC f n g i = f i := if_pos h
theorem sbC_g {f g : Int → Int} {n i j : Int} (h : n ≤ i) (e : i - n = j) : sbC f n g i = g j := (if_neg (by omega)).trans (congrArg g e)
theorem sb_bd {f g : Int → Int} {n w : Int} (hf : ∀ i, 0 ≤ i → i < n → 1 ≤ f i ∧ f i ≤ 127) (hg : ∀ i, 0 ≤ i → i < w → 1 ≤ g i ∧ g i ≤ 127) : ∀ i, 0 ≤ i → i < n + w → 1 ≤ sbC f n g i ∧ sbC f n g i ≤ 127 := fun i i0 i1 => by
  by_cases c : i < n
  · rw [sbC_l c]; exact hf i i0 c
  · rw [sbC_g (j := i - n) (by omega) rfl]; exact hg _ (by omega) (by omega)
theorem sb_d0 {f g : Int → Int} {n d : Int} : (∀ i, 0 ≤ i → i < n → sbC (sbC f n g) (n + 0) (fun _ => d) i = f i) ∧ sbC (sbC f n g) (n + 0) (fun _ => d) n = d :=
  ⟨fun i _ i1 => by rw [sbC_l (by omega), sbC_l i1], sbC_g (j := 0) (by omega) (by omega)⟩
theorem sb_d1 {f : Int → Int} {n d : Int} : (∀ i, 0 ≤ i → i < n → sbC (sbC f n (fun i => if i = 0 then 59 else 32)) (n + 2) (fun _ => d) i = f i) ∧ sbC (sbC f n (fun i => if i = 0 then 59 else 32)) (n + 2) (fun _ => d) n = 59 ∧ sbC (sbC f n (fun i => if i = 0 then 59 else 32)) (n + 2) (fun _ => d) (n + 1) = 32 ∧ sbC (sbC f n (fun i => if i = 0 then 59 else 32)) (n + 2) (fun _ => d) (n + 2) = d :=
  ⟨fun i _ i1 => by rw [sbC_l (by omega), sbC_l i1], by rw [sbC_l (by omega), sbC_g (j := 0) (by omega) (by omega)]; rfl, by rw [sbC_l (by omega), sbC_g (j := 1) (by omega) (by omega)]; rfl, sbC_g (j := 0) (by omega) (by omega)⟩
theorem sb3 {f g1 g2 : Int → Int} {n w1 w2 d : Int} (h1 : 0 ≤ w1) (h2 : 0 ≤ w2) : (∀ i, 0 ≤ i → i < n → sbC (sbC (sbC f n g1) (n + w1) g2) (n + w1 + w2) (fun _ => d) i = f i) ∧ (∀ j, 0 ≤ j → j < w1 → sbC (sbC (sbC f n g1) (n + w1) g2) (n + w1 + w2) (fun _ => d) (n + j) = g1 j) ∧ (∀ j, 0 ≤ j → j < w2 → sbC (sbC (sbC f n g1) (n + w1) g2) (n + w1 + w2) (fun _ => d) (n + w1 + j) = g2 j) ∧ sbC (sbC (sbC f n g1) (n + w1) g2) (n + w1 + w2) (fun _ => d) (n + w1 + w2) = d :=
  ⟨fun i _ i1 => by rw [sbC_l (by omega), sbC_l (by omega), sbC_l i1], fun j j0 j1 => by rw [sbC_l (by omega), sbC_l (by omega), sbC_g (j := j) (by omega) (by omega)], fun j j0 j1 => by rw [sbC_l (by omega), sbC_g (j := j) (by omega) (by omega)], sbC_g (j := 0) (by omega) (by omega)⟩
/-- times " *" -/
theorem sb_temp {Y : z_Y} {x : Int} {ls : List (Nat × Value)} {q : Nat} {st : List Value} {H : z_H} {k n : Nat} (hY : z_ok Y 10 mL_isOrdered) (hG : z_OK (z_gg Y)) (hSB : z_SB (z_gg Y)) (hl : ls[q]? = some (6, z_i x)) (hx : 0 ≤ x ∧ x ≤ 4) (hst : (st.map fun v => v.category).sum ≤ 5) (hk : k + 6 ≤ z_mc Y ∧ n + 1200 ≤ z_ms Y) (kk : ∀ (s : Nat) (H' : z_H), sbT (z_gg Y) H' s 3 (sbC (sbC (fun _ => 0) 0 (fun _ => 48 + x)) 1 (fun i => if i = 0 then 32 else 42)) → (∀ x c, H x = some c → H' x = some c) → z_W Y 263 ls (.ref s :: st) H' (k + 6) (n + 1200)) : z_W Y 243 ls st H k n := by
  refine z_new hY eL_isOrdered_243 (by omega) (fun b hb => ?_)
  refine z_dup hY eL_isOrdered_246 rfl ?_
  have hr1 : ((.ref b :: st).map fun v => v.category).sum ≤ 8 := by
    rw [List.map_cons, List.sum_cons]
    show 1 + _ ≤ 8
    omega
  refine z_callI (As := []) (b := b) (rest := .ref b :: st) hY eL_isOrdered_247 (sb_init (f := fun _ => 0) hG hSB z_set_at) (by decide) hr1 (by omega) (fun _ _ q => q.elim) (fun v1 H1 q1 => ?_)
  obtain ⟨rfl, a, ha, hs1, hF1⟩ := q1
  refine z_iload hY eL_isOrdered_250 q hl ?_
  refine z_callV (As := [z_i x]) (rest := st) hY eL_isOrdered_252 (sb_appI hG hSB hs1 hx (by omega)) (show H1 b = some (z_ob 10 _) from hs1.choose_spec.choose_spec.choose_spec.1) (by decide) (by omega) (by omega) (fun _ _ q => q.elim) (fun v2 H2 q2 => ?_)
  obtain ⟨a2, rfl, hs2, ho2, hF2⟩ := q2
  refine z_ldcS hY hSB eL_isOrdered_255 kO_99 (fun s hs => ?_)
  refine z_callV (As := [.ref s]) (rest := st) hY eL_isOrdered_257 (sb_appS (w := 2) (g := fun i => if i = 0 then 32 else 42) hG hSB hs2 (sbT_c hs (by decide) (fun i hi => by rcases (show i = 0 ∨ i = 1 by omega) with rfl | rfl <;> rfl)) (by omega)) (show H2 b = some (z_ob 10 _) from hs2.choose_spec.choose_spec.choose_spec.1) (by decide) (by omega) (by omega) (fun _ _ q => q.elim) (fun v3 H3 q3 => ?_)
  obtain ⟨a3, rfl, hs3, ho3, hF3⟩ := q3
  refine z_callV (As := []) (rest := st) hY eL_isOrdered_260 (sb_str hG hSB hs3 (by omega)) (show H3 b = some (z_ob 10 _) from hs3.choose_spec.choose_spec.choose_spec.1) (by decide) (by omega) (by omega) (fun _ _ q => q.elim) (fun v4 H4 q4 => ?_)
  obtain ⟨s4, rfl, hn4, hT4, hF4⟩ := q4
  have hfr : ∀ x c, H x = some c → H4 x = some c := fun y c hy => by
    have n1 : y ≠ b := fun e => by rw [e, hb] at hy; cases hy
    have y0 : z_set H b (z_ob 10 [.null, z_i 0, z_i 0, z_i 0]) y = some c := (z_set_ne n1).trans hy
    have n2 : y ≠ a := fun e => by rw [e, ha] at y0; cases y0
    have y1 := hF1 y c y0 n1
    have y2 := hF2 y c y1 n1 n2
    have n3 : y ≠ a2 := fun e => by
      rcases ho2 with z | z
      · exact n2 (e.trans z)
      · rw [← e, y1] at z; cases z
    exact hF4 y c (hF3 y c y2 n1 n3)
  refine z_widen (k' := k + 6) (n' := n + 1200) (by omega) (by omega) ?_
  exact kk s4 H4 hT4 hfr
set_option maxHeartbeats 40000000 in
theorem la_isOrdered {G : z_G} {D : Nat} {B : Nat → Int → Nat} {κ : c_K} {A : Nat → Nat} {ρ σ : z_S} {h : z_H} {t : Nat} {m : Int} {o : Prop} (hG : z_OK G) (hD : D = z_dc G) (hM : z_MI G) (hSB : z_SB G) (hI : gS t m o B κ A ρ σ) (ht : t ≤ 511) (hm : 0 ≤ m) : z_T G mL_isOrdered [.ref (A 40)] (gH D B κ A σ h) 10 400 40000 (fun v h' => ∃ (κ' : c_K) (B' : Nat → Int → Nat) (ρ' σ' : z_S) (h2 : z_H), v = some (z_i 1) ∧ gS t m True B' κ' A ρ' σ' ∧ σ' 14 0 = σ 14 0 ∧ h' = gH D B' κ' A σ' h2) (z_no) := by
  refine z_T_of hG pL_isOrdered (Nat.le_of_ble_eq_true rfl) (ls0 := [(0, .ref (A 40))]) rfl fun Y hY hg hmc hms hφ hψ => ?_
  subst hg
  refine z_aload hY eL_isOrdered_0 0 rfl ?_
  refine z_const hY eL_isOrdered_1 ?_
  refine z_aload hY eL_isOrdered_2 0 rfl ?_
  refine z_const hY eL_isOrdered_3 ?_
  refine z_callV (As := [z_i 4]) (rest := [z_i 1, .ref (A 40)]) hY eL_isOrdered_4 (la_next (B := B) (κ := κ) (σ := σ) hG (gS_X hI) (n := 4) (by omega)) ((gH_at (gS_X hI) (by decide)).trans (congrArg some lC_40)) (by decide) (Nat.le_of_ble_eq_true rfl) ⟨Nat.zero_le _, Nat.zero_le _⟩ (fun _ _ q => q.elim) (fun vv2 hh2 q2 => ?_)
  obtain ⟨r1, X1, rfl, hr1, hX1, rfl⟩ := q2
  refine z_iadd hY eL_isOrdered_7 ?_
  refine z_top (b := r1 + 1) (by omega) ?_
  refine g_pf hY (gS_X hI) eL_isOrdered_8 (by decide) ?_
  obtain ⟨σ3, hs3⟩ : ∃ qq, qq = z_u (z_u σ 0 0 X1) 15 0 (r1 + 1) := ⟨_, rfl⟩
  refine z_heq (congrArg (fun q => gH D B κ A q h) hs3.symm) ?_
  have hw3 : wB σ3 := by rw [hs3]; exact (wB_u (wB_u (gS_b hI) (by show (-2147483648 : Int) ≤ _ ∧ _ ≤ (2147483647 : Int); omega)) (by show (0 : Int) ≤ _ ∧ _ ≤ (4 : Int); omega))
  have h3C : 1 ≤ σ3 15 0 ∧ σ3 15 0 ≤ 4 := by rw [hs3]; show 1 ≤ r1 + 1 ∧ r1 + 1 ≤ 4; omega
  have hE3 : ∀ k, k ≠ 0 → k ≠ 15 → σ3 k = σ k := fun k k0 k15 => by rw [hs3]; exact (z_u_ne k15).trans (z_u_ne k0)
  refine z_new hY eL_isOrdered_11 (by rw [hmc, hms]; exact ⟨Nat.le_of_ble_eq_true rfl, Nat.le_of_ble_eq_true rfl⟩) (fun b hbn => ?_)
  refine z_dup hY eL_isOrdered_14 rfl ?_
  refine z_callI (As := []) (b := b) (rest := [.ref b]) hY eL_isOrdered_15 (sb_init (f := fun _ => 0) hG hSB z_set_at) (by decide) (Nat.le_of_ble_eq_true rfl) (by rw [hmc, hms]; exact ⟨Nat.le_of_ble_eq_true rfl, Nat.le_of_ble_eq_true rfl⟩) (fun _ _ q => q.elim) (fun vv1 hh1 q1 => ?_)
  obtain ⟨rfl, a0, ha0, hsb0, hF0⟩ := q1
  have hxb : sbX B κ A b := sbX_new (gS_J hI) (gS_X hI) hbn
  have ha0n : gH D B κ A σ3 h a0 = none := (z_set_new ha0).2
  have hxa0 : sbX B κ A a0 := sbX_new (gS_J hI) (gS_X hI) ha0n
  have hgh0 : gH D B κ A σ3 hh1 = hh1 := gH_mono (gS_J hI) (gS_X hI) (fun y c hy => hF0 y c ((z_set_ne (fun e => by rw [e, hbn] at hy; cases hy)).trans hy) (fun e => by rw [e, hbn] at hy; cases hy))
  refine z_heq hgh0.symm ?_
  refine z_astore hY eL_isOrdered_18 (ls' := [(1, .ref b), (0, .ref (A 40))]) rfl ?_
  refine z_widen (k' := 10) (n' := 100) (by omega) (by omega) ?_
  refine z_const hY eL_isOrdered_19 ?_
  refine z_istore hY eL_isOrdered_20 (ls' := [(2, z_i 0), (1, .ref b), (0, .ref (A 40))]) rfl ?_
  refine z_sub [2, 1, 0] (ls' := [(0, .ref (A 40)), (1, .ref b), (2, z_i 0)]) rfl ?_
  have lp21 : ∀ (fu : Nat) (c : Int) (n : Int) (f : Int → Int) (a : Nat) (σ1 : z_S) (h1 : z_H), (σ3 15 0 - c).toNat < fu → (0 ≤ c ∧ c ≤ σ3 15 0) → (∀ k, k ≠ 0 → k ≠ 6 → k ≠ 20 → k ≠ 4 → k ≠ 8 → σ1 k = σ3 k) → (wB σ1) → (sbS h1 b a n f) → (sbX B κ A a) → (0 ≤ n ∧ n ≤ 18 * c) → (∀ i, 0 ≤ i → i < n → 1 ≤ f i ∧ f i ≤ 127) → (iC f n c (σ1 4) (σ1 8)) → z_W Y 21 [(0, .ref (A 40)), (1, .ref b), (2, z_i c)] [] (gH D B κ A σ1 h1) (10 + 40 * c.toNat) (100 + 9000 * c.toNat) := by
    intro fu
    induction fu with
    | zero => intro c n f a σ1 h1 hf; exact absurd hf (Nat.not_lt_zero _)
    | succ fu ih21 =>
      intro c n f a σ1 h1 hf hc hF1 hw1 hsb hxa hn hfb hiC
      refine z_iload hY eL_isOrdered_21 2 rfl ?_
      refine z_aload hY eL_isOrdered_22 0 rfl ?_
      have hb3 := hw3.s15 0
      refine g_gf hY (gS_X hI) eL_isOrdered_23 (v := z_i (σ3 15 0)) (congrArg (fun q => some (z_i q)) (congrFun (hF1 15 (by decide) (by decide) (by decide) (by decide) (by decide)) _)) ?_
      refine z_icmpge hY eL_isOrdered_26 (by omega) (fun c26 => ?_) (fun c26 => ?_)
      · refine z_sub [0, 1] (ls' := [(0, .ref (A 40)), (1, .ref b)]) rfl ?_
        refine z_widen (k' := 200) (n' := 37000) (by omega) (by omega) ?_
        have hC9 : σ1 15 0 = c ∧ 1 ≤ c ∧ c ≤ 4 := by have z9 := hF1 15 (by decide) (by decide) (by decide) (by decide) (by decide); have z8 := congrFun z9 0; omega
        exact la_ord2 hY hmc hms hφ hG hD hM hSB hI (fun k9 a0 a6 a20 a4 a8 a15 => (hF1 k9 a0 a6 a20 a4 a8).trans (hE3 k9 a0 a15)) hw1 hC9 hsb hxb hxa (by omega) hfb hiC
      · refine z_aload hY eL_isOrdered_29 0 rfl ?_
        refine g_gf hY (gS_X hI) eL_isOrdered_30 (v := .ref (A 8)) rfl ?_
        refine z_iload hY eL_isOrdered_33 2 rfl ?_
        refine z_aload hY eL_isOrdered_34 0 rfl ?_
        refine z_const hY eL_isOrdered_35 ?_
        refine z_callV (As := [z_i 3]) (rest := [z_i c, .ref (A 8)]) hY eL_isOrdered_36 (la_next (B := B) (κ := κ) (σ := σ1) hG (gS_X hI) (n := 3) (by omega)) ((gH_at (gS_X hI) (by decide)).trans (congrArg some lC_40)) (by decide) (Nat.le_of_ble_eq_true rfl) (by rw [hmc, hms]; omega) (fun _ _ q => q.elim) (fun vv5 hh5 q5 => ?_)
        obtain ⟨r4, X4, rfl, hr4, hX4, rfl⟩ := q5
        refine z_ifle hY eL_isOrdered_39 (by omega) (fun c39 => ?_) (fun c39 => ?_)
        · refine z_const hY eL_isOrdered_46 ?_
          refine g_bas hY (gS_X hI) eL_isOrdered_47 (j := 8) (N := 4) (by decide) (fun _ => rfl) (by omega) (by first | omega | exact z_bl01 _) ?_
          refine z_const hY eL_isOrdered_48 ?_
          refine z_istore hY eL_isOrdered_49 (ls' := [(3, z_i 0), (0, .ref (A 40)), (1, .ref b), (2, z_i c)]) rfl ?_
          refine z_sub [1, 2, 3, 0] (ls' := [(0, .ref (A 40)), (1, .ref b), (2, z_i c), (3, z_i 0)]) rfl ?_
          have lp50 : ∀ (fu : Nat) (q : Int) (σ2 : z_S), (4 - q).toNat < fu → (0 ≤ q ∧ q ≤ 4) → (∀ k, k ≠ 0 → k ≠ 6 → k ≠ 20 → k ≠ 4 → k ≠ 8 → σ2 k = σ3 k) → (wB σ2) → (σ2 8 = (z_u (z_u σ1 0 0 X4) 8 c 0) 8) → (∀ i, 0 ≤ i → i < 4 * c → σ2 4 i = σ1 4 i) → (∀ i, 4 * c ≤ i → i < 4 * c + q → σ2 4 i = 0) → z_W Y 50 [(0, .ref (A 40)), (1, .ref b), (2, z_i c), (3, z_i q)] [] (gH D B κ A σ2 h1) (10 + 40 * c.toNat + 0) (100 + 9000 * c.toNat + 0) := by
            intro fu
            induction fu with
            | zero => intro q σ2 hf; exact absurd hf (Nat.not_lt_zero _)
            | succ fu ih50 =>
              intro q σ2 hf hq hF2 hw2 hs8 h42 h40
              refine z_iload hY eL_isOrdered_50 3 rfl ?_
              refine z_const hY eL_isOrdered_51 ?_
              refine z_icmpge hY eL_isOrdered_52 (by omega) (fun c52 => ?_) (fun c52 => ?_)
              · refine z_aload hY eL_isOrdered_72 1 rfl ?_
                refine z_iload hY eL_isOrdered_73 2 rfl ?_
                refine z_ifne hY eL_isOrdered_74 (by omega) (fun c74 => ?_) (fun c74 => ?_)
                · refine z_ldcS hY hSB eL_isOrdered_82 kO_83 (fun s6 hk6 => ?_)
                  have hup7 := sbS_up (D := D) (σ := σ2) hsb hxb hxa
                  refine z_callV (As := [.ref s6]) (rest := []) hY eL_isOrdered_84 (sb_appS (w := 2) (g := (fun i => if i = 0 then 59 else 32)) hG hSB hup7 (sbT_c hk6 (by decide) (fun i hi => by rcases (show i = 0 ∨ i = 1 by omega) with rfl | rfl <;> rfl)) (by omega)) (show gH D B κ A σ2 h1 b = some (z_ob 10 _) from hup7.choose_spec.choose_spec.choose_spec.1) (by decide) (Nat.le_of_ble_eq_true rfl) (by rw [hmc, hms]; omega) (fun _ _ q => q.elim) (fun vv7 hh7 q7 => ?_)
                  obtain ⟨a7, rfl, hsb7, hor7, hfr7⟩ := q7
                  have hgh7 := gH_fr (gS_J hI) (gS_X hI) hxb hxa hfr7
                  have hxa7 := sbX_or (gS_J hI) (gS_X hI) hxa hor7
                  refine z_heq hgh7.symm ?_
                  refine z_aload hY eL_isOrdered_87 0 rfl ?_
                  refine g_gf hY (gS_X hI) eL_isOrdered_88 (v := .ref (A 8)) rfl ?_
                  refine z_iload hY eL_isOrdered_91 2 rfl ?_
                  refine g_bal hY (gS_X hI) eL_isOrdered_92 (j := 8) (N := 4) (x := 0) (by decide) rfl (by omega) ((congrFun hs8 c).trans z_u_at) ?_
                  refine z_ifeq hY eL_isOrdered_93 (by omega) (fun _ => ?_) (fun c => absurd c (by omega))
                  refine z_const hY eL_isOrdered_101 ?_
                  have hup8 := sbS_up (D := D) (σ := σ2) hsb7 hxb hxa7
                  refine z_callV (As := [z_i 60]) (rest := []) hY eL_isOrdered_103 (sb_appC (c := 60) hG hSB hup8 (by omega) (by omega)) (show gH D B κ A σ2 hh7 b = some (z_ob 10 _) from hup8.choose_spec.choose_spec.choose_spec.1) (by decide) (Nat.le_of_ble_eq_true rfl) (by rw [hmc, hms]; omega) (fun _ _ q => q.elim) (fun vv8 hh8 q8 => ?_)
                  obtain ⟨a8, rfl, hsb8, hor8, hfr8⟩ := q8
                  have hgh8 := gH_fr (gS_J hI) (gS_X hI) hxb hxa7 hfr8
                  have hxa8 := sbX_or (gS_J hI) (gS_X hI) hxa7 hor8
                  refine z_heq hgh8.symm ?_
                  refine z_pop hY eL_isOrdered_106 rfl ?_
                  refine z_const hY eL_isOrdered_107 ?_
                  refine z_aload hY eL_isOrdered_108 0 rfl ?_
                  refine z_const hY eL_isOrdered_109 ?_
                  refine z_callV (As := [z_i 3]) (rest := [z_i 1]) hY eL_isOrdered_110 (la_next (B := B) (κ := κ) (σ := σ2) hG (gS_X hI) (n := 3) (by omega)) ((gH_at (gS_X hI) (by decide)).trans (congrArg some lC_40)) (by decide) (Nat.le_of_ble_eq_true rfl) (by rw [hmc, hms]; omega) (fun _ _ q => q.elim) (fun vv10 hh10 q10 => ?_)
                  obtain ⟨r9, X9, rfl, hr9, hX9, rfl⟩ := q10
                  refine z_iadd hY eL_isOrdered_113 ?_
                  refine z_top (b := r9 + 1) (by omega) ?_
                  refine z_istore hY eL_isOrdered_114 (ls' := [(3, z_i (r9 + 1)), (0, .ref (A 40)), (1, .ref b), (2, z_i c)]) rfl ?_
                  refine z_const hY eL_isOrdered_115 ?_
                  refine z_istore hY eL_isOrdered_116 (ls' := [(4, z_i 0), (3, z_i (r9 + 1)), (0, .ref (A 40)), (1, .ref b), (2, z_i c)]) rfl ?_
                  have hdd := sb_d1 (f := f) (n := n) (d := 60)
                  have hiD : iD (sbC (sbC f n (fun i => if i = 0 then 59 else 32)) (n + 2) (fun _ => 60)) ((n + 2) + 1) c ((z_u σ2 0 0 X9) 4) ((z_u σ2 0 0 X9) 8) := iC_d (g := 0) hiC (by omega) (by omega) (by omega) (by rw [if_neg (by omega)]; omega) hdd.1 (by rw [if_neg (by omega)]; exact hdd.2) (fun i i0 i1 => h40 i i0 (by omega)) (fun i i0 i1 => h42 i i0 i1) (fun j j0 j1 => (congrFun hs8 j).trans (z_u_at' (by omega))) ((congrFun hs8 c).trans z_u_at)
                  have hfbD : ∀ i, 0 ≤ i → i < ((n + 2) + 1) → 1 ≤ (sbC (sbC f n (fun i => if i = 0 then 59 else 32)) (n + 2) (fun _ => 60)) i ∧ (sbC (sbC f n (fun i => if i = 0 then 59 else 32)) (n + 2) (fun _ => 60)) i ≤ 127 := sb_bd (sb_bd hfb (fun i i0 i1 => by show 1 ≤ (if i = 0 then (59 : Int) else 32) ∧ (if i = 0 then (59 : Int) else 32) ≤ 127; split <;> omega)) (fun i i0 i1 => by show 1 ≤ (60 : Int) ∧ (60 : Int) ≤ 127; omega)
                  refine z_sub [2, 3, 4, 1, 0] (ls' := [(0, .ref (A 40)), (1, .ref b), (2, z_i c), (3, z_i (r9 + 1)), (4, z_i 0)]) rfl ?_
                  have lp118 : ∀ (fu : Nat) (t : Int) (n4 : Int) (f4 : Int → Int) (a4 : Nat) (σ4 : z_S) (h4 : z_H), ((r9 + 1) - t).toNat < fu → (0 ≤ t ∧ t ≤ (r9 + 1)) → (∀ k, k ≠ 0 → k ≠ 6 → k ≠ 20 → k ≠ 4 → k ≠ 8 → σ4 k = σ3 k) → (wB σ4) → (σ4 8 = (z_u σ2 0 0 X9) 8) → (∀ i, 0 ≤ i → i < 4 * c → σ4 4 i = σ1 4 i) → (∀ i, 4 * c ≤ i → i < 4 * c + 4 → -(4 * t) ≤ σ4 4 i ∧ σ4 4 i ≤ 4 * t) → (sbS h4 b a4 n4 f4) → (sbX B κ A a4) → (0 ≤ n4 ∧ n4 ≤ 18 * c + 3 + 5 * t) → (∀ i, 0 ≤ i → i < n4 → 1 ≤ f4 i ∧ f4 i ≤ 127) → ((t = 0 ∧ iD f4 n4 c (σ4 4) (σ4 8)) ∨ (1 ≤ t ∧ iT f4 n4 c t (σ4 4) (σ4 8))) → z_W Y 118 [(0, .ref (A 40)), (1, .ref b), (2, z_i c), (3, z_i (r9 + 1)), (4, z_i t)] [] (gH D B κ A σ4 h4) (10 + 40 * c.toNat + 4 + 10 * t.toNat) (100 + 9000 * c.toNat + 1000 + 2600 * t.toNat) := by
                    intro fu
                    induction fu with
                    | zero => intro t n4 f4 a4 σ4 h4 hf; exact absurd hf (Nat.not_lt_zero _)
                    | succ fu ih118 =>
                      intro t n4 f4 a4 σ4 h4 hf ht hF4 hw4 hs84 h4lt h4b hsb4 hxa4 hn4 hfb4 hiT
                      have rest206 : ∀ (s x k : Int) (σ5 : z_S), ((t = 0 ∧ s = 1) ∨ (1 ≤ t ∧ (s = 1 ∨ s = -1))) → (0 ≤ x ∧ x ≤ 4) → (0 ≤ k ∧ k ≤ 3) → (∀ k, k ≠ 0 → k ≠ 6 → k ≠ 20 → k ≠ 4 → k ≠ 8 → σ5 k = σ3 k) → (wB σ5) → (σ5 8 = σ4 8) → (∀ i, σ5 4 i = z_up (σ4 4) (4 * c + k) (σ4 4 (4 * c + k) + s * x) i) → (t < (r9 + 1)) → z_W Y 206 [(0, .ref (A 40)), (1, .ref b), (2, z_i c), (3, z_i (r9 + 1)), (4, z_i t), (5, z_i s), (6, z_i x), (7, z_i k)] [] (gH D B κ A σ5 h4) (10 + 40 * c.toNat + 4 + 10 * t.toNat) (100 + 9000 * c.toNat + 1000 + 2600 * t.toNat) := by
                        intro s x k σ5 hsx hxx hkk hF5 hw5 h58 h54 htT
                        have hsm := m_pr (a := s) (b := x) (F := 1) (S := 4) (by omega) (by omega) (by omega) (by omega)
                        refine z_aload hY eL_isOrdered_206 1 rfl ?_
                        refine z_iload hY eL_isOrdered_207 4 rfl ?_
                        refine z_ifne hY eL_isOrdered_209 (by omega) (fun c209 => ?_) (fun c209 => ?_)
                        · refine z_iload hY eL_isOrdered_217 5 rfl ?_
                          refine z_ifge hY eL_isOrdered_219 (by omega) (fun c219 => ?_) (fun c219 => ?_)
                          · refine z_ldcS hY hSB eL_isOrdered_227 kO_94 (fun s11 hk11 => ?_)
                            have hup12 := sbS_up (D := D) (σ := σ5) hsb4 hxb hxa4
                            refine z_callV (As := [.ref s11]) (rest := []) hY eL_isOrdered_229 (sb_appS (w := 1) (g := (fun _ => 43)) hG hSB hup12 (sbT_c hk11 (by decide) (fun i hi => by rcases (show i = 0 by omega) with rfl; rfl)) (by omega)) (show gH D B κ A σ5 h4 b = some (z_ob 10 _) from hup12.choose_spec.choose_spec.choose_spec.1) (by decide) (Nat.le_of_ble_eq_true rfl) (by rw [hmc, hms]; omega) (fun _ _ q => q.elim) (fun vv12 hh12 q12 => ?_)
                            obtain ⟨a12, rfl, hsb12, hor12, hfr12⟩ := q12
                            have hgh12 := gH_fr (gS_J hI) (gS_X hI) hxb hxa4 hfr12
                            have hxa12 := sbX_or (gS_J hI) (gS_X hI) hxa4 hor12
                            refine z_heq hgh12.symm ?_
                            refine z_iload hY eL_isOrdered_232 6 rfl ?_
                            refine z_const hY eL_isOrdered_234 ?_
                            refine z_icmpne hY eL_isOrdered_235 (by omega) (fun c235 => ?_) (fun c235 => ?_)
                            · refine sb_temp hY hG hSB (q := 6) rfl (by omega) (Nat.le_of_ble_eq_true rfl) (by rw [hmc, hms]; omega) (fun s9 H9 hT9 hF9 => ?_)
                              have hgq := gH_mono (gS_J hI) (gS_X hI) hF9
                              have hsq := sbS_mono (sbS_up (D := D) (σ := σ5) hsb12 hxb hxa12) hF9
                              refine z_heq hgq.symm ?_
                              have hup14 := sbS_up (D := D) (σ := σ5) hsq hxb hxa12
                              refine z_callV (As := [.ref s9]) (rest := []) hY eL_isOrdered_263 (sb_appS (w := 3) (g := (sbC (sbC (fun _ => 0) 0 (fun _ => 48 + x)) 1 (fun i => if i = 0 then 32 else 42))) hG hSB hup14 (by rw [hgq]; exact hT9) (by omega)) (show gH D B κ A σ5 H9 b = some (z_ob 10 _) from hup14.choose_spec.choose_spec.choose_spec.1) (by decide) (Nat.le_of_ble_eq_true rfl) (by rw [hmc, hms]; omega) (fun _ _ q => q.elim) (fun vv14 hh14 q14 => ?_)
                              obtain ⟨a14, rfl, hsb14, hor14, hfr14⟩ := q14
                              have hgh14 := gH_fr (gS_J hI) (gS_X hI) hxb hxa12 hfr14
                              have hxa14 := sbX_or (gS_J hI) (gS_X hI) hxa12 hor14
                              refine z_heq hgh14.symm ?_
                              refine z_const hY eL_isOrdered_266 ?_
                              refine z_iload hY eL_isOrdered_268 7 rfl ?_
                              refine z_iadd hY eL_isOrdered_270 ?_
                              refine z_top (b := k + 97) (by omega) ?_
                              refine z_i2c hY eL_isOrdered_271 (by omega) ?_
                              have hup15 := sbS_up (D := D) (σ := σ5) hsb14 hxb hxa14
                              refine z_callV (As := [z_i (k + 97)]) (rest := []) hY eL_isOrdered_272 (sb_appC (c := (k + 97)) hG hSB hup15 (by omega) (by omega)) (show gH D B κ A σ5 hh14 b = some (z_ob 10 _) from hup15.choose_spec.choose_spec.choose_spec.1) (by decide) (Nat.le_of_ble_eq_true rfl) (by rw [hmc, hms]; omega) (fun _ _ q => q.elim) (fun vv15 hh15 q15 => ?_)
                              obtain ⟨a15, rfl, hsb15, hor15, hfr15⟩ := q15
                              have hgh15 := gH_fr (gS_J hI) (gS_X hI) hxb hxa14 hfr15
                              have hxa15 := sbX_or (gS_J hI) (gS_X hI) hxa14 hor15
                              refine z_heq hgh15.symm ?_
                              refine z_pop hY eL_isOrdered_275 rfl ?_
                              refine z_iinc hY eL_isOrdered_276 4 rfl (ls' := [(4, z_i (t + 1)), (0, .ref (A 40)), (1, .ref b), (2, z_i c), (3, z_i (r9 + 1)), (5, z_i s), (6, z_i x), (7, z_i k)]) rfl ?_
                              refine z_goto hY eL_isOrdered_279 ?_
                              have h3 := sb3 (f := f4) (g1 := (fun _ => 43)) (g2 := (sbC (sbC (fun _ => 0) 0 (fun _ => 48 + x)) 1 (fun i => if i = 0 then 32 else 42))) (n := n4) (w1 := 1) (w2 := 3) (d := k + 97) (by decide) (by decide)
                              have hxw : x ≠ 1 := by omega
                              have hlt5 : ∀ i, 0 ≤ i → i < 4 * c → σ5 4 i = σ1 4 i := fun i i0 i1 => (h54 i).trans ((if_neg (by omega)).trans (h4lt i i0 i1))
                              have hb5 : ∀ i, 4 * c ≤ i → i < 4 * c + 4 → -(4 * (t + 1)) ≤ σ5 4 i ∧ σ5 4 i ≤ 4 * (t + 1) := fun i i0 i1 => by rw [h54 i]; unfold z_up; have z9 := h4b i i0 i1; split; (have z8 := h4b (4 * c + k) (by omega) (by omega); omega); omega
                              have hfb5 : ∀ i, 0 ≤ i → i < (((n4 + 1) + 3) + 1) → 1 ≤ (sbC (sbC (sbC f4 n4 (fun _ => 43)) (n4 + 1) (sbC (sbC (fun _ => 0) 0 (fun _ => 48 + x)) 1 (fun i => if i = 0 then 32 else 42))) ((n4 + 1) + 3) (fun _ => (k + 97))) i ∧ (sbC (sbC (sbC f4 n4 (fun _ => 43)) (n4 + 1) (sbC (sbC (fun _ => 0) 0 (fun _ => 48 + x)) 1 (fun i => if i = 0 then 32 else 42))) ((n4 + 1) + 3) (fun _ => (k + 97))) i ≤ 127 := sb_bd (sb_bd (sb_bd hfb4 (fun i i0 i1 => by first | omega | (show 1 ≤ (45 : Int) ∧ (45 : Int) ≤ 127; omega) | (show 1 ≤ (43 : Int) ∧ (43 : Int) ≤ 127; omega))) (fun i i0 i1 => by first | omega | (rcases (show i = 0 ∨ i = 1 ∨ i = 2 by omega) with rfl | rfl | rfl; (show 1 ≤ 48 + x ∧ 48 + x ≤ 127; omega); (show 1 ≤ (32 : Int) ∧ (32 : Int) ≤ 127; omega); (show 1 ≤ (42 : Int) ∧ (42 : Int) ≤ 127; omega)))) (fun i i0 i1 => by show 1 ≤ k + 97 ∧ k + 97 ≤ 127; omega)
                              have htr : trT (sbC (sbC (sbC f4 n4 (fun _ => 43)) (n4 + 1) (sbC (sbC (fun _ => 0) 0 (fun _ => 48 + x)) 1 (fun i => if i = 0 then 32 else 42))) ((n4 + 1) + 3) (fun _ => (k + 97))) (n4 + 1) x k := by unfold trT; rw [if_neg hxw]; exact ⟨(congrArg (sbC (sbC (sbC f4 n4 (fun _ => 43)) (n4 + 1) (sbC (sbC (fun _ => 0) 0 (fun _ => 48 + x)) 1 (fun i => if i = 0 then 32 else 42))) ((n4 + 1) + 3) (fun _ => (k + 97))) (show n4 + 1 = n4 + 1 + 0 by omega)).trans (h3.2.2.1 0 (by omega) (by omega)), h3.2.2.1 1 (by omega) (by omega), h3.2.2.1 2 (by omega) (by omega), h3.2.2.2.trans (by omega)⟩
                              have htl : trL x = 4 := by unfold trL; exact if_neg hxw
                              have hiT4 := iT_t (s := s) (hiT.resolve_left (by omega)).2 (by omega) (by omega) (by omega) (by omega) hxx hkk (fun i i0 i1 => h3.1 i i0 i1) ((congrArg (sbC (sbC (sbC f4 n4 (fun _ => 43)) (n4 + 1) (sbC (sbC (fun _ => 0) 0 (fun _ => 48 + x)) 1 (fun i => if i = 0 then 32 else 42))) ((n4 + 1) + 3) (fun _ => (k + 97))) (show n4 = n4 + 0 by omega)).trans ((h3.2.1 0 (by omega) (by omega)).trans (by first | omega | (show (45 : Int) = _; omega) | (show (43 : Int) = _; omega)))) htr
                              have hiT5 : iT (sbC (sbC (sbC f4 n4 (fun _ => 43)) (n4 + 1) (sbC (sbC (fun _ => 0) 0 (fun _ => 48 + x)) 1 (fun i => if i = 0 then 32 else 42))) ((n4 + 1) + 3) (fun _ => (k + 97))) (((n4 + 1) + 3) + 1) c (t + 1) (σ5 4) (σ5 8) := by rw [h58, show (((n4 + 1) + 3) + 1) = n4 + 1 + trL x by omega]; exact iT_f hiT4 (fun i i0 i1 => h54 i)
                              refine z_sub [1, 2, 3, 4, 0] (ls' := [(0, .ref (A 40)), (1, .ref b), (2, z_i c), (3, z_i (r9 + 1)), (4, z_i (t + 1))]) rfl ?_
                              refine z_widen (k' := (10 + 40 * c.toNat + 4 + 10 * (t + 1).toNat)) (n' := (100 + 9000 * c.toNat + 1000 + 2600 * (t + 1).toNat)) (by omega) (by omega) ?_
                              exact ih118 (t + 1) (((n4 + 1) + 3) + 1) (sbC (sbC (sbC f4 n4 (fun _ => 43)) (n4 + 1) (sbC (sbC (fun _ => 0) 0 (fun _ => 48 + x)) 1 (fun i => if i = 0 then 32 else 42))) ((n4 + 1) + 3) (fun _ => (k + 97))) a15 σ5 hh15 (by omega) (by omega) hF5 hw5 (h58.trans hs84) hlt5 hb5 hsb15 hxa15 (by omega) hfb5 (Or.inr ⟨by omega, hiT5⟩)
                            · refine z_ldcS hY hSB eL_isOrdered_238 kO_81 (fun s16 hk16 => ?_)
                              refine z_goto hY eL_isOrdered_240 ?_
                              have hup17 := sbS_up (D := D) (σ := σ5) hsb12 hxb hxa12
                              refine z_callV (As := [.ref s16]) (rest := []) hY eL_isOrdered_263 (sb_appS (w := 0) (g := (fun _ => 0)) hG hSB hup17 (sbT_c hk16 (by decide) (fun i hi => absurd hi (by omega))) (by omega)) (show gH D B κ A σ5 hh12 b = some (z_ob 10 _) from hup17.choose_spec.choose_spec.choose_spec.1) (by decide) (Nat.le_of_ble_eq_true rfl) (by rw [hmc, hms]; omega) (fun _ _ q => q.elim) (fun vv17 hh17 q17 => ?_)
                              obtain ⟨a17, rfl, hsb17, hor17, hfr17⟩ := q17
                              have hgh17 := gH_fr (gS_J hI) (gS_X hI) hxb hxa12 hfr17
                              have hxa17 := sbX_or (gS_J hI) (gS_X hI) hxa12 hor17
                              refine z_heq hgh17.symm ?_
                              refine z_const hY eL_isOrdered_266 ?_
                              refine z_iload hY eL_isOrdered_268 7 rfl ?_
                              refine z_iadd hY eL_isOrdered_270 ?_
                              refine z_top (b := k + 97) (by omega) ?_
                              refine z_i2c hY eL_isOrdered_271 (by omega) ?_
                              have hup18 := sbS_up (D := D) (σ := σ5) hsb17 hxb hxa17
                              refine z_callV (As := [z_i (k + 97)]) (rest := []) hY eL_isOrdered_272 (sb_appC (c := (k + 97)) hG hSB hup18 (by omega) (by omega)) (show gH D B κ A σ5 hh17 b = some (z_ob 10 _) from hup18.choose_spec.choose_spec.choose_spec.1) (by decide) (Nat.le_of_ble_eq_true rfl) (by rw [hmc, hms]; omega) (fun _ _ q => q.elim) (fun vv18 hh18 q18 => ?_)
                              obtain ⟨a18, rfl, hsb18, hor18, hfr18⟩ := q18
                              have hgh18 := gH_fr (gS_J hI) (gS_X hI) hxb hxa17 hfr18
                              have hxa18 := sbX_or (gS_J hI) (gS_X hI) hxa17 hor18
                              refine z_heq hgh18.symm ?_
                              refine z_pop hY eL_isOrdered_275 rfl ?_
                              refine z_iinc hY eL_isOrdered_276 4 rfl (ls' := [(4, z_i (t + 1)), (0, .ref (A 40)), (1, .ref b), (2, z_i c), (3, z_i (r9 + 1)), (5, z_i s), (6, z_i x), (7, z_i k)]) rfl ?_
                              refine z_goto hY eL_isOrdered_279 ?_
                              have h3 := sb3 (f := f4) (g1 := (fun _ => 43)) (g2 := (fun _ => 0)) (n := n4) (w1 := 1) (w2 := 0) (d := k + 97) (by decide) (by decide)
                              have hxw : x = 1 := by omega
                              have hlt5 : ∀ i, 0 ≤ i → i < 4 * c → σ5 4 i = σ1 4 i := fun i i0 i1 => (h54 i).trans ((if_neg (by omega)).trans (h4lt i i0 i1))
                              have hb5 : ∀ i, 4 * c ≤ i → i < 4 * c + 4 → -(4 * (t + 1)) ≤ σ5 4 i ∧ σ5 4 i ≤ 4 * (t + 1) := fun i i0 i1 => by rw [h54 i]; unfold z_up; have z9 := h4b i i0 i1; split; (have z8 := h4b (4 * c + k) (by omega) (by omega); omega); omega
                              have hfb5 : ∀ i, 0 ≤ i → i < (((n4 + 1) + 0) + 1) → 1 ≤ (sbC (sbC (sbC f4 n4 (fun _ => 43)) (n4 + 1) (fun _ => 0)) ((n4 + 1) + 0) (fun _ => (k + 97))) i ∧ (sbC (sbC (sbC f4 n4 (fun _ => 43)) (n4 + 1) (fun _ => 0)) ((n4 + 1) + 0) (fun _ => (k + 97))) i ≤ 127 := sb_bd (sb_bd (sb_bd hfb4 (fun i i0 i1 => by first | omega | (show 1 ≤ (45 : Int) ∧ (45 : Int) ≤ 127; omega) | (show 1 ≤ (43 : Int) ∧ (43 : Int) ≤ 127; omega))) (fun i i0 i1 => by first | omega | (rcases (show i = 0 ∨ i = 1 ∨ i = 2 by omega) with rfl | rfl | rfl; (show 1 ≤ 48 + x ∧ 48 + x ≤ 127; omega); (show 1 ≤ (32 : Int) ∧ (32 : Int) ≤ 127; omega); (show 1 ≤ (42 : Int) ∧ (42 : Int) ≤ 127; omega)))) (fun i i0 i1 => by show 1 ≤ k + 97 ∧ k + 97 ≤ 127; omega)
                              have htr : trT (sbC (sbC (sbC f4 n4 (fun _ => 43)) (n4 + 1) (fun _ => 0)) ((n4 + 1) + 0) (fun _ => (k + 97))) (n4 + 1) x k := by unfold trT; rw [if_pos hxw]; exact (congrArg (sbC (sbC (sbC f4 n4 (fun _ => 43)) (n4 + 1) (fun _ => 0)) ((n4 + 1) + 0) (fun _ => (k + 97))) (show n4 + 1 = n4 + 1 + 0 by omega)).trans (h3.2.2.2.trans (by omega))
                              have htl : trL x = 1 := by unfold trL; exact if_pos hxw
                              have hiT4 := iT_t (s := s) (hiT.resolve_left (by omega)).2 (by omega) (by omega) (by omega) (by omega) hxx hkk (fun i i0 i1 => h3.1 i i0 i1) ((congrArg (sbC (sbC (sbC f4 n4 (fun _ => 43)) (n4 + 1) (fun _ => 0)) ((n4 + 1) + 0) (fun _ => (k + 97))) (show n4 = n4 + 0 by omega)).trans ((h3.2.1 0 (by omega) (by omega)).trans (by first | omega | (show (45 : Int) = _; omega) | (show (43 : Int) = _; omega)))) htr
                              have hiT5 : iT (sbC (sbC (sbC f4 n4 (fun _ => 43)) (n4 + 1) (fun _ => 0)) ((n4 + 1) + 0) (fun _ => (k + 97))) (((n4 + 1) + 0) + 1) c (t + 1) (σ5 4) (σ5 8) := by rw [h58, show (((n4 + 1) + 0) + 1) = n4 + 1 + trL x by omega]; exact iT_f hiT4 (fun i i0 i1 => h54 i)
                              refine z_sub [1, 2, 3, 4, 0] (ls' := [(0, .ref (A 40)), (1, .ref b), (2, z_i c), (3, z_i (r9 + 1)), (4, z_i (t + 1))]) rfl ?_
                              refine z_widen (k' := (10 + 40 * c.toNat + 4 + 10 * (t + 1).toNat)) (n' := (100 + 9000 * c.toNat + 1000 + 2600 * (t + 1).toNat)) (by omega) (by omega) ?_
                              exact ih118 (t + 1) (((n4 + 1) + 0) + 1) (sbC (sbC (sbC f4 n4 (fun _ => 43)) (n4 + 1) (fun _ => 0)) ((n4 + 1) + 0) (fun _ => (k + 97))) a18 σ5 hh18 (by omega) (by omega) hF5 hw5 (h58.trans hs84) hlt5 hb5 hsb18 hxa18 (by omega) hfb5 (Or.inr ⟨by omega, hiT5⟩)
                          · refine z_ldcS hY hSB eL_isOrdered_222 kO_92 (fun s19 hk19 => ?_)
                            refine z_goto hY eL_isOrdered_224 ?_
                            have hup20 := sbS_up (D := D) (σ := σ5) hsb4 hxb hxa4
                            refine z_callV (As := [.ref s19]) (rest := []) hY eL_isOrdered_229 (sb_appS (w := 1) (g := (fun _ => 45)) hG hSB hup20 (sbT_c hk19 (by decide) (fun i hi => by rcases (show i = 0 by omega) with rfl; rfl)) (by omega)) (show gH D B κ A σ5 h4 b = some (z_ob 10 _) from hup20.choose_spec.choose_spec.choose_spec.1) (by decide) (Nat.le_of_ble_eq_true rfl) (by rw [hmc, hms]; omega) (fun _ _ q => q.elim) (fun vv20 hh20 q20 => ?_)
                            obtain ⟨a20, rfl, hsb20, hor20, hfr20⟩ := q20
                            have hgh20 := gH_fr (gS_J hI) (gS_X hI) hxb hxa4 hfr20
                            have hxa20 := sbX_or (gS_J hI) (gS_X hI) hxa4 hor20
                            refine z_heq hgh20.symm ?_
                            refine z_iload hY eL_isOrdered_232 6 rfl ?_
                            refine z_const hY eL_isOrdered_234 ?_
                            refine z_icmpne hY eL_isOrdered_235 (by omega) (fun c235 => ?_) (fun c235 => ?_)
                            · refine sb_temp hY hG hSB (q := 6) rfl (by omega) (Nat.le_of_ble_eq_true rfl) (by rw [hmc, hms]; omega) (fun s9 H9 hT9 hF9 => ?_)
                              have hgq := gH_mono (gS_J hI) (gS_X hI) hF9
                              have hsq := sbS_mono (sbS_up (D := D) (σ := σ5) hsb20 hxb hxa20) hF9
                              refine z_heq hgq.symm ?_
                              have hup22 := sbS_up (D := D) (σ := σ5) hsq hxb hxa20
                              refine z_callV (As := [.ref s9]) (rest := []) hY eL_isOrdered_263 (sb_appS (w := 3) (g := (sbC (sbC (fun _ => 0) 0 (fun _ => 48 + x)) 1 (fun i => if i = 0 then 32 else 42))) hG hSB hup22 (by rw [hgq]; exact hT9) (by omega)) (show gH D B κ A σ5 H9 b = some (z_ob 10 _) from hup22.choose_spec.choose_spec.choose_spec.1) (by decide) (Nat.le_of_ble_eq_true rfl) (by rw [hmc, hms]; omega) (fun _ _ q => q.elim) (fun vv22 hh22 q22 => ?_)
                              obtain ⟨a22, rfl, hsb22, hor22, hfr22⟩ := q22
                              have hgh22 := gH_fr (gS_J hI) (gS_X hI) hxb hxa20 hfr22
                              have hxa22 := sbX_or (gS_J hI) (gS_X hI) hxa20 hor22
                              refine z_heq hgh22.symm ?_
                              refine z_const hY eL_isOrdered_266 ?_
                              refine z_iload hY eL_isOrdered_268 7 rfl ?_
                              refine z_iadd hY eL_isOrdered_270 ?_
                              refine z_top (b := k + 97) (by omega) ?_
                              refine z_i2c hY eL_isOrdered_271 (by omega) ?_
                              have hup23 := sbS_up (D := D) (σ := σ5) hsb22 hxb hxa22
                              refine z_callV (As := [z_i (k + 97)]) (rest := []) hY eL_isOrdered_272 (sb_appC (c := (k + 97)) hG hSB hup23 (by omega) (by omega)) (show gH D B κ A σ5 hh22 b = some (z_ob 10 _) from hup23.choose_spec.choose_spec.choose_spec.1) (by decide) (Nat.le_of_ble_eq_true rfl) (by rw [hmc, hms]; omega) (fun _ _ q => q.elim) (fun vv23 hh23 q23 => ?_)
                              obtain ⟨a23, rfl, hsb23, hor23, hfr23⟩ := q23
                              have hgh23 := gH_fr (gS_J hI) (gS_X hI) hxb hxa22 hfr23
                              have hxa23 := sbX_or (gS_J hI) (gS_X hI) hxa22 hor23
                              refine z_heq hgh23.symm ?_
                              refine z_pop hY eL_isOrdered_275 rfl ?_
                              refine z_iinc hY eL_isOrdered_276 4 rfl (ls' := [(4, z_i (t + 1)), (0, .ref (A 40)), (1, .ref b), (2, z_i c), (3, z_i (r9 + 1)), (5, z_i s), (6, z_i x), (7, z_i k)]) rfl ?_
                              refine z_goto hY eL_isOrdered_279 ?_
                              have h3 := sb3 (f := f4) (g1 := (fun _ => 45)) (g2 := (sbC (sbC (fun _ => 0) 0 (fun _ => 48 + x)) 1 (fun i => if i = 0 then 32 else 42))) (n := n4) (w1 := 1) (w2 := 3) (d := k + 97) (by decide) (by decide)
                              have hxw : x ≠ 1 := by omega
                              have hlt5 : ∀ i, 0 ≤ i → i < 4 * c → σ5 4 i = σ1 4 i := fun i i0 i1 => (h54 i).trans ((if_neg (by omega)).trans (h4lt i i0 i1))
                              have hb5 : ∀ i, 4 * c ≤ i → i < 4 * c + 4 → -(4 * (t + 1)) ≤ σ5 4 i ∧ σ5 4 i ≤ 4 * (t + 1) := fun i i0 i1 => by rw [h54 i]; unfold z_up; have z9 := h4b i i0 i1; split; (have z8 := h4b (4 * c + k) (by omega) (by omega); omega); omega
                              have hfb5 : ∀ i, 0 ≤ i → i < (((n4 + 1) + 3) + 1) → 1 ≤ (sbC (sbC (sbC f4 n4 (fun _ => 45)) (n4 + 1) (sbC (sbC (fun _ => 0) 0 (fun _ => 48 + x)) 1 (fun i => if i = 0 then 32 else 42))) ((n4 + 1) + 3) (fun _ => (k + 97))) i ∧ (sbC (sbC (sbC f4 n4 (fun _ => 45)) (n4 + 1) (sbC (sbC (fun _ => 0) 0 (fun _ => 48 + x)) 1 (fun i => if i = 0 then 32 else 42))) ((n4 + 1) + 3) (fun _ => (k + 97))) i ≤ 127 := sb_bd (sb_bd (sb_bd hfb4 (fun i i0 i1 => by first | omega | (show 1 ≤ (45 : Int) ∧ (45 : Int) ≤ 127; omega) | (show 1 ≤ (43 : Int) ∧ (43 : Int) ≤ 127; omega))) (fun i i0 i1 => by first | omega | (rcases (show i = 0 ∨ i = 1 ∨ i = 2 by omega) with rfl | rfl | rfl; (show 1 ≤ 48 + x ∧ 48 + x ≤ 127; omega); (show 1 ≤ (32 : Int) ∧ (32 : Int) ≤ 127; omega); (show 1 ≤ (42 : Int) ∧ (42 : Int) ≤ 127; omega)))) (fun i i0 i1 => by show 1 ≤ k + 97 ∧ k + 97 ≤ 127; omega)
                              have htr : trT (sbC (sbC (sbC f4 n4 (fun _ => 45)) (n4 + 1) (sbC (sbC (fun _ => 0) 0 (fun _ => 48 + x)) 1 (fun i => if i = 0 then 32 else 42))) ((n4 + 1) + 3) (fun _ => (k + 97))) (n4 + 1) x k := by unfold trT; rw [if_neg hxw]; exact ⟨(congrArg (sbC (sbC (sbC f4 n4 (fun _ => 45)) (n4 + 1) (sbC (sbC (fun _ => 0) 0 (fun _ => 48 + x)) 1 (fun i => if i = 0 then 32 else 42))) ((n4 + 1) + 3) (fun _ => (k + 97))) (show n4 + 1 = n4 + 1 + 0 by omega)).trans (h3.2.2.1 0 (by omega) (by omega)), h3.2.2.1 1 (by omega) (by omega), h3.2.2.1 2 (by omega) (by omega), h3.2.2.2.trans (by omega)⟩
                              have htl : trL x = 4 := by unfold trL; exact if_neg hxw
                              have hiT4 := iT_t (s := s) (hiT.resolve_left (by omega)).2 (by omega) (by omega) (by omega) (by omega) hxx hkk (fun i i0 i1 => h3.1 i i0 i1) ((congrArg (sbC (sbC (sbC f4 n4 (fun _ => 45)) (n4 + 1) (sbC (sbC (fun _ => 0) 0 (fun _ => 48 + x)) 1 (fun i => if i = 0 then 32 else 42))) ((n4 + 1) + 3) (fun _ => (k + 97))) (show n4 = n4 + 0 by omega)).trans ((h3.2.1 0 (by omega) (by omega)).trans (by first | omega | (show (45 : Int) = _; omega) | (show (43 : Int) = _; omega)))) htr
                              have hiT5 : iT (sbC (sbC (sbC f4 n4 (fun _ => 45)) (n4 + 1) (sbC (sbC (fun _ => 0) 0 (fun _ => 48 + x)) 1 (fun i => if i = 0 then 32 else 42))) ((n4 + 1) + 3) (fun _ => (k + 97))) (((n4 + 1) + 3) + 1) c (t + 1) (σ5 4) (σ5 8) := by rw [h58, show (((n4 + 1) + 3) + 1) = n4 + 1 + trL x by omega]; exact iT_f hiT4 (fun i i0 i1 => h54 i)
                              refine z_sub [1, 2, 3, 4, 0] (ls' := [(0, .ref (A 40)), (1, .ref b), (2, z_i c), (3, z_i (r9 + 1)), (4, z_i (t + 1))]) rfl ?_
                              refine z_widen (k' := (10 + 40 * c.toNat + 4 + 10 * (t + 1).toNat)) (n' := (100 + 9000 * c.toNat + 1000 + 2600 * (t + 1).toNat)) (by omega) (by omega) ?_
                              exact ih118 (t + 1) (((n4 + 1) + 3) + 1) (sbC (sbC (sbC f4 n4 (fun _ => 45)) (n4 + 1) (sbC (sbC (fun _ => 0) 0 (fun _ => 48 + x)) 1 (fun i => if i = 0 then 32 else 42))) ((n4 + 1) + 3) (fun _ => (k + 97))) a23 σ5 hh23 (by omega) (by omega) hF5 hw5 (h58.trans hs84) hlt5 hb5 hsb23 hxa23 (by omega) hfb5 (Or.inr ⟨by omega, hiT5⟩)
                            · refine z_ldcS hY hSB eL_isOrdered_238 kO_81 (fun s24 hk24 => ?_)
                              refine z_goto hY eL_isOrdered_240 ?_
                              have hup25 := sbS_up (D := D) (σ := σ5) hsb20 hxb hxa20
                              refine z_callV (As := [.ref s24]) (rest := []) hY eL_isOrdered_263 (sb_appS (w := 0) (g := (fun _ => 0)) hG hSB hup25 (sbT_c hk24 (by decide) (fun i hi => absurd hi (by omega))) (by omega)) (show gH D B κ A σ5 hh20 b = some (z_ob 10 _) from hup25.choose_spec.choose_spec.choose_spec.1) (by decide) (Nat.le_of_ble_eq_true rfl) (by rw [hmc, hms]; omega) (fun _ _ q => q.elim) (fun vv25 hh25 q25 => ?_)
                              obtain ⟨a25, rfl, hsb25, hor25, hfr25⟩ := q25
                              have hgh25 := gH_fr (gS_J hI) (gS_X hI) hxb hxa20 hfr25
                              have hxa25 := sbX_or (gS_J hI) (gS_X hI) hxa20 hor25
                              refine z_heq hgh25.symm ?_
                              refine z_const hY eL_isOrdered_266 ?_
                              refine z_iload hY eL_isOrdered_268 7 rfl ?_
                              refine z_iadd hY eL_isOrdered_270 ?_
                              refine z_top (b := k + 97) (by omega) ?_
                              refine z_i2c hY eL_isOrdered_271 (by omega) ?_
                              have hup26 := sbS_up (D := D) (σ := σ5) hsb25 hxb hxa25
                              refine z_callV (As := [z_i (k + 97)]) (rest := []) hY eL_isOrdered_272 (sb_appC (c := (k + 97)) hG hSB hup26 (by omega) (by omega)) (show gH D B κ A σ5 hh25 b = some (z_ob 10 _) from hup26.choose_spec.choose_spec.choose_spec.1) (by decide) (Nat.le_of_ble_eq_true rfl) (by rw [hmc, hms]; omega) (fun _ _ q => q.elim) (fun vv26 hh26 q26 => ?_)
                              obtain ⟨a26, rfl, hsb26, hor26, hfr26⟩ := q26
                              have hgh26 := gH_fr (gS_J hI) (gS_X hI) hxb hxa25 hfr26
                              have hxa26 := sbX_or (gS_J hI) (gS_X hI) hxa25 hor26
                              refine z_heq hgh26.symm ?_
                              refine z_pop hY eL_isOrdered_275 rfl ?_
                              refine z_iinc hY eL_isOrdered_276 4 rfl (ls' := [(4, z_i (t + 1)), (0, .ref (A 40)), (1, .ref b), (2, z_i c), (3, z_i (r9 + 1)), (5, z_i s), (6, z_i x), (7, z_i k)]) rfl ?_
                              refine z_goto hY eL_isOrdered_279 ?_
                              have h3 := sb3 (f := f4) (g1 := (fun _ => 45)) (g2 := (fun _ => 0)) (n := n4) (w1 := 1) (w2 := 0) (d := k + 97) (by decide) (by decide)
                              have hxw : x = 1 := by omega
                              have hlt5 : ∀ i, 0 ≤ i → i < 4 * c → σ5 4 i = σ1 4 i := fun i i0 i1 => (h54 i).trans ((if_neg (by omega)).trans (h4lt i i0 i1))
                              have hb5 : ∀ i, 4 * c ≤ i → i < 4 * c + 4 → -(4 * (t + 1)) ≤ σ5 4 i ∧ σ5 4 i ≤ 4 * (t + 1) := fun i i0 i1 => by rw [h54 i]; unfold z_up; have z9 := h4b i i0 i1; split; (have z8 := h4b (4 * c + k) (by omega) (by omega); omega); omega
                              have hfb5 : ∀ i, 0 ≤ i → i < (((n4 + 1) + 0) + 1) → 1 ≤ (sbC (sbC (sbC f4 n4 (fun _ => 45)) (n4 + 1) (fun _ => 0)) ((n4 + 1) + 0) (fun _ => (k + 97))) i ∧ (sbC (sbC (sbC f4 n4 (fun _ => 45)) (n4 + 1) (fun _ => 0)) ((n4 + 1) + 0) (fun _ => (k + 97))) i ≤ 127 := sb_bd (sb_bd (sb_bd hfb4 (fun i i0 i1 => by first | omega | (show 1 ≤ (45 : Int) ∧ (45 : Int) ≤ 127; omega) | (show 1 ≤ (43 : Int) ∧ (43 : Int) ≤ 127; omega))) (fun i i0 i1 => by first | omega | (rcases (show i = 0 ∨ i = 1 ∨ i = 2 by omega) with rfl | rfl | rfl; (show 1 ≤ 48 + x ∧ 48 + x ≤ 127; omega); (show 1 ≤ (32 : Int) ∧ (32 : Int) ≤ 127; omega); (show 1 ≤ (42 : Int) ∧ (42 : Int) ≤ 127; omega)))) (fun i i0 i1 => by show 1 ≤ k + 97 ∧ k + 97 ≤ 127; omega)
                              have htr : trT (sbC (sbC (sbC f4 n4 (fun _ => 45)) (n4 + 1) (fun _ => 0)) ((n4 + 1) + 0) (fun _ => (k + 97))) (n4 + 1) x k := by unfold trT; rw [if_pos hxw]; exact (congrArg (sbC (sbC (sbC f4 n4 (fun _ => 45)) (n4 + 1) (fun _ => 0)) ((n4 + 1) + 0) (fun _ => (k + 97))) (show n4 + 1 = n4 + 1 + 0 by omega)).trans (h3.2.2.2.trans (by omega))
                              have htl : trL x = 1 := by unfold trL; exact if_pos hxw
                              have hiT4 := iT_t (s := s) (hiT.resolve_left (by omega)).2 (by omega) (by omega) (by omega) (by omega) hxx hkk (fun i i0 i1 => h3.1 i i0 i1) ((congrArg (sbC (sbC (sbC f4 n4 (fun _ => 45)) (n4 + 1) (fun _ => 0)) ((n4 + 1) + 0) (fun _ => (k + 97))) (show n4 = n4 + 0 by omega)).trans ((h3.2.1 0 (by omega) (by omega)).trans (by first | omega | (show (45 : Int) = _; omega) | (show (43 : Int) = _; omega)))) htr
                              have hiT5 : iT (sbC (sbC (sbC f4 n4 (fun _ => 45)) (n4 + 1) (fun _ => 0)) ((n4 + 1) + 0) (fun _ => (k + 97))) (((n4 + 1) + 0) + 1) c (t + 1) (σ5 4) (σ5 8) := by rw [h58, show (((n4 + 1) + 0) + 1) = n4 + 1 + trL x by omega]; exact iT_f hiT4 (fun i i0 i1 => h54 i)
                              refine z_sub [1, 2, 3, 4, 0] (ls' := [(0, .ref (A 40)), (1, .ref b), (2, z_i c), (3, z_i (r9 + 1)), (4, z_i (t + 1))]) rfl ?_
                              refine z_widen (k' := (10 + 40 * c.toNat + 4 + 10 * (t + 1).toNat)) (n' := (100 + 9000 * c.toNat + 1000 + 2600 * (t + 1).toNat)) (by omega) (by omega) ?_
                              exact ih118 (t + 1) (((n4 + 1) + 0) + 1) (sbC (sbC (sbC f4 n4 (fun _ => 45)) (n4 + 1) (fun _ => 0)) ((n4 + 1) + 0) (fun _ => (k + 97))) a26 σ5 hh26 (by omega) (by omega) hF5 hw5 (h58.trans hs84) hlt5 hb5 hsb26 hxa26 (by omega) hfb5 (Or.inr ⟨by omega, hiT5⟩)
                        · refine z_ldcS hY hSB eL_isOrdered_212 kO_81 (fun s27 hk27 => ?_)
                          refine z_goto hY eL_isOrdered_214 ?_
                          have hup28 := sbS_up (D := D) (σ := σ5) hsb4 hxb hxa4
                          refine z_callV (As := [.ref s27]) (rest := []) hY eL_isOrdered_229 (sb_appS (w := 0) (g := (fun _ => 0)) hG hSB hup28 (sbT_c hk27 (by decide) (fun i hi => absurd hi (by omega))) (by omega)) (show gH D B κ A σ5 h4 b = some (z_ob 10 _) from hup28.choose_spec.choose_spec.choose_spec.1) (by decide) (Nat.le_of_ble_eq_true rfl) (by rw [hmc, hms]; omega) (fun _ _ q => q.elim) (fun vv28 hh28 q28 => ?_)
                          obtain ⟨a28, rfl, hsb28, hor28, hfr28⟩ := q28
                          have hgh28 := gH_fr (gS_J hI) (gS_X hI) hxb hxa4 hfr28
                          have hxa28 := sbX_or (gS_J hI) (gS_X hI) hxa4 hor28
                          refine z_heq hgh28.symm ?_
                          refine z_iload hY eL_isOrdered_232 6 rfl ?_
                          refine z_const hY eL_isOrdered_234 ?_
                          refine z_icmpne hY eL_isOrdered_235 (by omega) (fun c235 => ?_) (fun c235 => ?_)
                          · refine sb_temp hY hG hSB (q := 6) rfl (by omega) (Nat.le_of_ble_eq_true rfl) (by rw [hmc, hms]; omega) (fun s9 H9 hT9 hF9 => ?_)
                            have hgq := gH_mono (gS_J hI) (gS_X hI) hF9
                            have hsq := sbS_mono (sbS_up (D := D) (σ := σ5) hsb28 hxb hxa28) hF9
                            refine z_heq hgq.symm ?_
                            have hup30 := sbS_up (D := D) (σ := σ5) hsq hxb hxa28
                            refine z_callV (As := [.ref s9]) (rest := []) hY eL_isOrdered_263 (sb_appS (w := 3) (g := (sbC (sbC (fun _ => 0) 0 (fun _ => 48 + x)) 1 (fun i => if i = 0 then 32 else 42))) hG hSB hup30 (by rw [hgq]; exact hT9) (by omega)) (show gH D B κ A σ5 H9 b = some (z_ob 10 _) from hup30.choose_spec.choose_spec.choose_spec.1) (by decide) (Nat.le_of_ble_eq_true rfl) (by rw [hmc, hms]; omega) (fun _ _ q => q.elim) (fun vv30 hh30 q30 => ?_)
                            obtain ⟨a30, rfl, hsb30, hor30, hfr30⟩ := q30
                            have hgh30 := gH_fr (gS_J hI) (gS_X hI) hxb hxa28 hfr30
                            have hxa30 := sbX_or (gS_J hI) (gS_X hI) hxa28 hor30
                            refine z_heq hgh30.symm ?_
                            refine z_const hY eL_isOrdered_266 ?_
                            refine z_iload hY eL_isOrdered_268 7 rfl ?_
                            refine z_iadd hY eL_isOrdered_270 ?_
                            refine z_top (b := k + 97) (by omega) ?_
                            refine z_i2c hY eL_isOrdered_271 (by omega) ?_
                            have hup31 := sbS_up (D := D) (σ := σ5) hsb30 hxb hxa30
                            refine z_callV (As := [z_i (k + 97)]) (rest := []) hY eL_isOrdered_272 (sb_appC (c := (k + 97)) hG hSB hup31 (by omega) (by omega)) (show gH D B κ A σ5 hh30 b = some (z_ob 10 _) from hup31.choose_spec.choose_spec.choose_spec.1) (by decide) (Nat.le_of_ble_eq_true rfl) (by rw [hmc, hms]; omega) (fun _ _ q => q.elim) (fun vv31 hh31 q31 => ?_)
                            obtain ⟨a31, rfl, hsb31, hor31, hfr31⟩ := q31
                            have hgh31 := gH_fr (gS_J hI) (gS_X hI) hxb hxa30 hfr31
                            have hxa31 := sbX_or (gS_J hI) (gS_X hI) hxa30 hor31
                            refine z_heq hgh31.symm ?_
                            refine z_pop hY eL_isOrdered_275 rfl ?_
                            refine z_iinc hY eL_isOrdered_276 4 rfl (ls' := [(4, z_i (t + 1)), (0, .ref (A 40)), (1, .ref b), (2, z_i c), (3, z_i (r9 + 1)), (5, z_i s), (6, z_i x), (7, z_i k)]) rfl ?_
                            refine z_goto hY eL_isOrdered_279 ?_
                            have h3 := sb3 (f := f4) (g1 := (fun _ => 0)) (g2 := (sbC (sbC (fun _ => 0) 0 (fun _ => 48 + x)) 1 (fun i => if i = 0 then 32 else 42))) (n := n4) (w1 := 0) (w2 := 3) (d := k + 97) (by decide) (by decide)
                            have hxw : x ≠ 1 := by omega
                            have hlt5 : ∀ i, 0 ≤ i → i < 4 * c → σ5 4 i = σ1 4 i := fun i i0 i1 => (h54 i).trans ((if_neg (by omega)).trans (h4lt i i0 i1))
                            have hb5 : ∀ i, 4 * c ≤ i → i < 4 * c + 4 → -(4 * (t + 1)) ≤ σ5 4 i ∧ σ5 4 i ≤ 4 * (t + 1) := fun i i0 i1 => by rw [h54 i]; unfold z_up; have z9 := h4b i i0 i1; split; (have z8 := h4b (4 * c + k) (by omega) (by omega); omega); omega
                            have hfb5 : ∀ i, 0 ≤ i → i < (((n4 + 0) + 3) + 1) → 1 ≤ (sbC (sbC (sbC f4 n4 (fun _ => 0)) (n4 + 0) (sbC (sbC (fun _ => 0) 0 (fun _ => 48 + x)) 1 (fun i => if i = 0 then 32 else 42))) ((n4 + 0) + 3) (fun _ => (k + 97))) i ∧ (sbC (sbC (sbC f4 n4 (fun _ => 0)) (n4 + 0) (sbC (sbC (fun _ => 0) 0 (fun _ => 48 + x)) 1 (fun i => if i = 0 then 32 else 42))) ((n4 + 0) + 3) (fun _ => (k + 97))) i ≤ 127 := sb_bd (sb_bd (sb_bd hfb4 (fun i i0 i1 => by first | omega | (show 1 ≤ (45 : Int) ∧ (45 : Int) ≤ 127; omega) | (show 1 ≤ (43 : Int) ∧ (43 : Int) ≤ 127; omega))) (fun i i0 i1 => by first | omega | (rcases (show i = 0 ∨ i = 1 ∨ i = 2 by omega) with rfl | rfl | rfl; (show 1 ≤ 48 + x ∧ 48 + x ≤ 127; omega); (show 1 ≤ (32 : Int) ∧ (32 : Int) ≤ 127; omega); (show 1 ≤ (42 : Int) ∧ (42 : Int) ≤ 127; omega)))) (fun i i0 i1 => by show 1 ≤ k + 97 ∧ k + 97 ≤ 127; omega)
                            have htr : trT (sbC (sbC (sbC f4 n4 (fun _ => 0)) (n4 + 0) (sbC (sbC (fun _ => 0) 0 (fun _ => 48 + x)) 1 (fun i => if i = 0 then 32 else 42))) ((n4 + 0) + 3) (fun _ => (k + 97))) (n4 + 0) x k := by unfold trT; rw [if_neg hxw]; exact ⟨(congrArg (sbC (sbC (sbC f4 n4 (fun _ => 0)) (n4 + 0) (sbC (sbC (fun _ => 0) 0 (fun _ => 48 + x)) 1 (fun i => if i = 0 then 32 else 42))) ((n4 + 0) + 3) (fun _ => (k + 97))) (show n4 + 0 = n4 + 0 + 0 by omega)).trans (h3.2.2.1 0 (by omega) (by omega)), h3.2.2.1 1 (by omega) (by omega), h3.2.2.1 2 (by omega) (by omega), h3.2.2.2.trans (by omega)⟩
                            have htl : trL x = 4 := by unfold trL; exact if_neg hxw
                            have hiT4 := iD_t (hiT.resolve_right (by omega)).2 (by omega) (by omega) hxx hkk (fun i i0 i1 => h3.1 i i0 i1) (trT_c htr (by omega))
                            have hiT5 : iT (sbC (sbC (sbC f4 n4 (fun _ => 0)) (n4 + 0) (sbC (sbC (fun _ => 0) 0 (fun _ => 48 + x)) 1 (fun i => if i = 0 then 32 else 42))) ((n4 + 0) + 3) (fun _ => (k + 97))) (((n4 + 0) + 3) + 1) c (t + 1) (σ5 4) (σ5 8) := by rw [h58, show (((n4 + 0) + 3) + 1) = n4 + trL x by omega, show t + 1 = 1 by omega]; exact iT_f hiT4 (fun i i0 i1 => by rw [h54 i, show s = 1 by omega])
                            refine z_sub [1, 2, 3, 4, 0] (ls' := [(0, .ref (A 40)), (1, .ref b), (2, z_i c), (3, z_i (r9 + 1)), (4, z_i (t + 1))]) rfl ?_
                            refine z_widen (k' := (10 + 40 * c.toNat + 4 + 10 * (t + 1).toNat)) (n' := (100 + 9000 * c.toNat + 1000 + 2600 * (t + 1).toNat)) (by omega) (by omega) ?_
                            exact ih118 (t + 1) (((n4 + 0) + 3) + 1) (sbC (sbC (sbC f4 n4 (fun _ => 0)) (n4 + 0) (sbC (sbC (fun _ => 0) 0 (fun _ => 48 + x)) 1 (fun i => if i = 0 then 32 else 42))) ((n4 + 0) + 3) (fun _ => (k + 97))) a31 σ5 hh31 (by omega) (by omega) hF5 hw5 (h58.trans hs84) hlt5 hb5 hsb31 hxa31 (by omega) hfb5 (Or.inr ⟨by omega, hiT5⟩)
                          · refine z_ldcS hY hSB eL_isOrdered_238 kO_81 (fun s32 hk32 => ?_)
                            refine z_goto hY eL_isOrdered_240 ?_
                            have hup33 := sbS_up (D := D) (σ := σ5) hsb28 hxb hxa28
                            refine z_callV (As := [.ref s32]) (rest := []) hY eL_isOrdered_263 (sb_appS (w := 0) (g := (fun _ => 0)) hG hSB hup33 (sbT_c hk32 (by decide) (fun i hi => absurd hi (by omega))) (by omega)) (show gH D B κ A σ5 hh28 b = some (z_ob 10 _) from hup33.choose_spec.choose_spec.choose_spec.1) (by decide) (Nat.le_of_ble_eq_true rfl) (by rw [hmc, hms]; omega) (fun _ _ q => q.elim) (fun vv33 hh33 q33 => ?_)
                            obtain ⟨a33, rfl, hsb33, hor33, hfr33⟩ := q33
                            have hgh33 := gH_fr (gS_J hI) (gS_X hI) hxb hxa28 hfr33
                            have hxa33 := sbX_or (gS_J hI) (gS_X hI) hxa28 hor33
                            refine z_heq hgh33.symm ?_
                            refine z_const hY eL_isOrdered_266 ?_
                            refine z_iload hY eL_isOrdered_268 7 rfl ?_
                            refine z_iadd hY eL_isOrdered_270 ?_
                            refine z_top (b := k + 97) (by omega) ?_
                            refine z_i2c hY eL_isOrdered_271 (by omega) ?_
                            have hup34 := sbS_up (D := D) (σ := σ5) hsb33 hxb hxa33
                            refine z_callV (As := [z_i (k + 97)]) (rest := []) hY eL_isOrdered_272 (sb_appC (c := (k + 97)) hG hSB hup34 (by omega) (by omega)) (show gH D B κ A σ5 hh33 b = some (z_ob 10 _) from hup34.choose_spec.choose_spec.choose_spec.1) (by decide) (Nat.le_of_ble_eq_true rfl) (by rw [hmc, hms]; omega) (fun _ _ q => q.elim) (fun vv34 hh34 q34 => ?_)
                            obtain ⟨a34, rfl, hsb34, hor34, hfr34⟩ := q34
                            have hgh34 := gH_fr (gS_J hI) (gS_X hI) hxb hxa33 hfr34
                            have hxa34 := sbX_or (gS_J hI) (gS_X hI) hxa33 hor34
                            refine z_heq hgh34.symm ?_
                            refine z_pop hY eL_isOrdered_275 rfl ?_
                            refine z_iinc hY eL_isOrdered_276 4 rfl (ls' := [(4, z_i (t + 1)), (0, .ref (A 40)), (1, .ref b), (2, z_i c), (3, z_i (r9 + 1)), (5, z_i s), (6, z_i x), (7, z_i k)]) rfl ?_
                            refine z_goto hY eL_isOrdered_279 ?_
                            have h3 := sb3 (f := f4) (g1 := (fun _ => 0)) (g2 := (fun _ => 0)) (n := n4) (w1 := 0) (w2 := 0) (d := k + 97) (by decide) (by decide)
                            have hxw : x = 1 := by omega
                            have hlt5 : ∀ i, 0 ≤ i → i < 4 * c → σ5 4 i = σ1 4 i := fun i i0 i1 => (h54 i).trans ((if_neg (by omega)).trans (h4lt i i0 i1))
                            have hb5 : ∀ i, 4 * c ≤ i → i < 4 * c + 4 → -(4 * (t + 1)) ≤ σ5 4 i ∧ σ5 4 i ≤ 4 * (t + 1) := fun i i0 i1 => by rw [h54 i]; unfold z_up; have z9 := h4b i i0 i1; split; (have z8 := h4b (4 * c + k) (by omega) (by omega); omega); omega
                            have hfb5 : ∀ i, 0 ≤ i → i < (((n4 + 0) + 0) + 1) → 1 ≤ (sbC (sbC (sbC f4 n4 (fun _ => 0)) (n4 + 0) (fun _ => 0)) ((n4 + 0) + 0) (fun _ => (k + 97))) i ∧ (sbC (sbC (sbC f4 n4 (fun _ => 0)) (n4 + 0) (fun _ => 0)) ((n4 + 0) + 0) (fun _ => (k + 97))) i ≤ 127 := sb_bd (sb_bd (sb_bd hfb4 (fun i i0 i1 => by first | omega | (show 1 ≤ (45 : Int) ∧ (45 : Int) ≤ 127; omega) | (show 1 ≤ (43 : Int) ∧ (43 : Int) ≤ 127; omega))) (fun i i0 i1 => by first | omega | (rcases (show i = 0 ∨ i = 1 ∨ i = 2 by omega) with rfl | rfl | rfl; (show 1 ≤ 48 + x ∧ 48 + x ≤ 127; omega); (show 1 ≤ (32 : Int) ∧ (32 : Int) ≤ 127; omega); (show 1 ≤ (42 : Int) ∧ (42 : Int) ≤ 127; omega)))) (fun i i0 i1 => by show 1 ≤ k + 97 ∧ k + 97 ≤ 127; omega)
                            have htr : trT (sbC (sbC (sbC f4 n4 (fun _ => 0)) (n4 + 0) (fun _ => 0)) ((n4 + 0) + 0) (fun _ => (k + 97))) (n4 + 0) x k := by unfold trT; rw [if_pos hxw]; exact (congrArg (sbC (sbC (sbC f4 n4 (fun _ => 0)) (n4 + 0) (fun _ => 0)) ((n4 + 0) + 0) (fun _ => (k + 97))) (show n4 + 0 = n4 + 0 + 0 by omega)).trans (h3.2.2.2.trans (by omega))
                            have htl : trL x = 1 := by unfold trL; exact if_pos hxw
                            have hiT4 := iD_t (hiT.resolve_right (by omega)).2 (by omega) (by omega) hxx hkk (fun i i0 i1 => h3.1 i i0 i1) (trT_c htr (by omega))
                            have hiT5 : iT (sbC (sbC (sbC f4 n4 (fun _ => 0)) (n4 + 0) (fun _ => 0)) ((n4 + 0) + 0) (fun _ => (k + 97))) (((n4 + 0) + 0) + 1) c (t + 1) (σ5 4) (σ5 8) := by rw [h58, show (((n4 + 0) + 0) + 1) = n4 + trL x by omega, show t + 1 = 1 by omega]; exact iT_f hiT4 (fun i i0 i1 => by rw [h54 i, show s = 1 by omega])
                            refine z_sub [1, 2, 3, 4, 0] (ls' := [(0, .ref (A 40)), (1, .ref b), (2, z_i c), (3, z_i (r9 + 1)), (4, z_i (t + 1))]) rfl ?_
                            refine z_widen (k' := (10 + 40 * c.toNat + 4 + 10 * (t + 1).toNat)) (n' := (100 + 9000 * c.toNat + 1000 + 2600 * (t + 1).toNat)) (by omega) (by omega) ?_
                            exact ih118 (t + 1) (((n4 + 0) + 0) + 1) (sbC (sbC (sbC f4 n4 (fun _ => 0)) (n4 + 0) (fun _ => 0)) ((n4 + 0) + 0) (fun _ => (k + 97))) a34 σ5 hh34 (by omega) (by omega) hF5 hw5 (h58.trans hs84) hlt5 hb5 hsb34 hxa34 (by omega) hfb5 (Or.inr ⟨by omega, hiT5⟩)
                      refine z_iload hY eL_isOrdered_118 4 rfl ?_
                      refine z_iload hY eL_isOrdered_120 3 rfl ?_
                      refine z_icmpge hY eL_isOrdered_121 (by omega) (fun c121 => ?_) (fun c121 => ?_)
                      · refine z_iinc hY eL_isOrdered_282 2 rfl (ls' := [(2, z_i (c + 1)), (0, .ref (A 40)), (1, .ref b), (3, z_i (r9 + 1)), (4, z_i t)]) rfl ?_
                        refine z_goto hY eL_isOrdered_285 ?_
                        have hiE := iT_e (hiT.resolve_left (by omega)).2 (by omega) (by omega)
                        refine z_sub [1, 2, 0] (ls' := [(0, .ref (A 40)), (1, .ref b), (2, z_i (c + 1))]) rfl ?_
                        refine z_widen (k' := (10 + 40 * (c + 1).toNat)) (n' := (100 + 9000 * (c + 1).toNat)) (by omega) (by omega) ?_
                        exact ih21 (c + 1) n4 f4 a4 σ4 h4 (by omega) (by omega) (fun k k0 k1 k2 k3 k4 => hF4 k k0 k1 k2 k3 k4) hw4 hsb4 hxa4 (by omega) hfb4 hiE
                      · refine z_iload hY eL_isOrdered_124 4 rfl ?_
                        refine z_ifle hY eL_isOrdered_126 (by omega) (fun c126 => ?_) (fun c126 => ?_)
                        · refine z_const hY eL_isOrdered_141 ?_
                          refine z_istore hY eL_isOrdered_142 (ls' := [(5, z_i 1), (0, .ref (A 40)), (1, .ref b), (2, z_i c), (3, z_i (r9 + 1)), (4, z_i t)]) rfl ?_
                          refine z_aload hY eL_isOrdered_144 1 rfl ?_
                          refine z_const hY eL_isOrdered_145 ?_
                          refine z_callV (As := [z_i 2]) (rest := []) hY eL_isOrdered_146 (la_next (B := B) (κ := κ) (σ := σ4) hG (gS_X hI) (n := 2) (by omega)) ((gH_at (gS_X hI) (by decide)).trans (congrArg some lC_40)) (by decide) (Nat.le_of_ble_eq_true rfl) (by rw [hmc, hms]; omega) (fun _ _ q => q.elim) (fun vv36 hh36 q36 => ?_)
                          obtain ⟨r35, X35, rfl, hr35, hX35, rfl⟩ := q36
                          refine z_ifne hY eL_isOrdered_149 (by omega) (fun c149 => ?_) (fun c149 => ?_)
                          · refine z_aload hY eL_isOrdered_156 1 rfl ?_
                            refine z_const hY eL_isOrdered_157 ?_
                            refine z_callV (As := [z_i 5]) (rest := []) hY eL_isOrdered_158 (la_next (B := B) (κ := κ) (σ := (z_u σ4 0 0 X35)) hG (gS_X hI) (n := 5) (by omega)) ((gH_at (gS_X hI) (by decide)).trans (congrArg some lC_40)) (by decide) (Nat.le_of_ble_eq_true rfl) (by rw [hmc, hms]; omega) (fun _ _ q => q.elim) (fun vv38 hh38 q38 => ?_)
                            obtain ⟨r37, X37, rfl, hr37, hX37, rfl⟩ := q38
                            refine z_istore hY eL_isOrdered_161 (ls' := [(6, z_i r37), (5, z_i 1), (0, .ref (A 40)), (1, .ref b), (2, z_i c), (3, z_i (r9 + 1)), (4, z_i t)]) rfl ?_
                            refine z_iload hY eL_isOrdered_163 4 rfl ?_
                            refine z_ifne hY eL_isOrdered_164 (by omega) (fun c164 => ?_) (fun c164 => ?_)
                            · refine z_aload hY eL_isOrdered_180 2 rfl ?_
                              refine z_const hY eL_isOrdered_181 ?_
                              refine z_callV (As := [z_i 4]) (rest := []) hY eL_isOrdered_182 (la_next (B := B) (κ := κ) (σ := (z_u (z_u σ4 0 0 X35) 0 0 X37)) hG (gS_X hI) (n := 4) (by omega)) ((gH_at (gS_X hI) (by decide)).trans (congrArg some lC_40)) (by decide) (Nat.le_of_ble_eq_true rfl) (by rw [hmc, hms]; omega) (fun _ _ q => q.elim) (fun vv40 hh40 q40 => ?_)
                              obtain ⟨r39, X39, rfl, hr39, hX39, rfl⟩ := q40
                              refine z_istore hY eL_isOrdered_185 (ls' := [(7, z_i r39), (6, z_i r37), (5, z_i 1), (0, .ref (A 40)), (1, .ref b), (2, z_i c), (3, z_i (r9 + 1)), (4, z_i t)]) rfl ?_
                              refine z_aload hY eL_isOrdered_187 3 rfl ?_
                              refine g_gf hY (gS_X hI) eL_isOrdered_188 (v := .ref (A 4)) rfl ?_
                              refine z_const hY eL_isOrdered_191 ?_
                              refine z_iload hY eL_isOrdered_192 5 rfl ?_
                              refine z_imul hY eL_isOrdered_193 ?_
                              refine z_iload hY eL_isOrdered_194 0 rfl ?_
                              refine z_iadd hY eL_isOrdered_196 ?_
                              refine z_dup2 hY eL_isOrdered_197 rfl rfl ?_
                              have hb41 := hw4.s4 (4 * c + r39)
                              refine g_ial hY (gS_X hI) eL_isOrdered_198 (j := 4) (N := 16) (x := σ4 4 (4 * c + r39)) (by decide) rfl (by omega) (Eq.trans (congrFun (z_u_ne (by decide)) _) (Eq.trans (congrFun (z_u_ne (by decide)) _) (congrFun (z_u_ne (by decide)) _))) ?_
                              refine z_iload hY eL_isOrdered_199 2 rfl ?_
                              refine z_iload hY eL_isOrdered_201 1 rfl ?_
                              refine z_imul hY eL_isOrdered_203 ?_
                              refine z_top (b := r37) (by omega) ?_
                              refine z_iadd hY eL_isOrdered_204 ?_
                              refine g_ias hY (gS_X hI) eL_isOrdered_205 (j := 4) (N := 16) (by decide) (fun _ => rfl) (by omega) ?_
                              refine z_sub [3, 4, 5, 6, 7, 2, 1, 0] (ls' := [(0, .ref (A 40)), (1, .ref b), (2, z_i c), (3, z_i (r9 + 1)), (4, z_i t), (5, z_i 1), (6, z_i r37), (7, z_i r39)]) rfl ?_
                              have hq4 := h4b (4 * c + r39) (by omega) (by omega)
                              exact rest206 1 r37 r39 (z_u (z_u (z_u (z_u σ4 0 0 X35) 0 0 X37) 0 0 X39) 4 (4 * c + r39) ((σ4 4 (4 * c + r39)) + r37)) (by omega) (by omega) (by omega) (fun k k0 k1 k2 k3 k4 => (z_u_ne (by omega)).trans ((z_u_ne (by omega)).trans ((z_u_ne (by omega)).trans ((z_u_ne (by omega)).trans (hF4 k k0 k1 k2 k3 k4))))) (wB_u (wB_u (wB_u (wB_u hw4 (by show (-2147483648 : Int) ≤ _ ∧ _ ≤ (2147483647 : Int); omega)) (by show (-2147483648 : Int) ≤ _ ∧ _ ≤ (2147483647 : Int); omega)) (by show (-2147483648 : Int) ≤ _ ∧ _ ≤ (2147483647 : Int); omega)) (by show (-3996 : Int) ≤ _ ∧ _ ≤ (3996 : Int); omega)) rfl (fun i => by show z_u σ4 4 (4 * c + r39) ((σ4 4 (4 * c + r39)) + r37) 4 i = _; unfold z_up; by_cases c9 : i = 4 * c + r39; (rw [c9, if_pos rfl]; exact (congrArg (fun q => z_u σ4 4 q ((σ4 4 (4 * c + r39)) + r37) 4 (4 * c + r39)) (by omega)).trans (z_u_at.trans (by omega))); (rw [if_neg c9]; exact z_u_at' (by omega))) (by omega)
                            · refine z_iload hY eL_isOrdered_167 6 rfl ?_
                              refine z_ifne hY eL_isOrdered_169 (by omega) (fun c169 => ?_) (fun c169 => ?_)
                              · refine z_aload hY eL_isOrdered_180 2 rfl ?_
                                refine z_const hY eL_isOrdered_181 ?_
                                refine z_callV (As := [z_i 4]) (rest := []) hY eL_isOrdered_182 (la_next (B := B) (κ := κ) (σ := (z_u (z_u σ4 0 0 X35) 0 0 X37)) hG (gS_X hI) (n := 4) (by omega)) ((gH_at (gS_X hI) (by decide)).trans (congrArg some lC_40)) (by decide) (Nat.le_of_ble_eq_true rfl) (by rw [hmc, hms]; omega) (fun _ _ q => q.elim) (fun vv43 hh43 q43 => ?_)
                                obtain ⟨r42, X42, rfl, hr42, hX42, rfl⟩ := q43
                                refine z_istore hY eL_isOrdered_185 (ls' := [(7, z_i r42), (6, z_i r37), (5, z_i 1), (0, .ref (A 40)), (1, .ref b), (2, z_i c), (3, z_i (r9 + 1)), (4, z_i t)]) rfl ?_
                                refine z_aload hY eL_isOrdered_187 3 rfl ?_
                                refine g_gf hY (gS_X hI) eL_isOrdered_188 (v := .ref (A 4)) rfl ?_
                                refine z_const hY eL_isOrdered_191 ?_
                                refine z_iload hY eL_isOrdered_192 5 rfl ?_
                                refine z_imul hY eL_isOrdered_193 ?_
                                refine z_iload hY eL_isOrdered_194 0 rfl ?_
                                refine z_iadd hY eL_isOrdered_196 ?_
                                refine z_dup2 hY eL_isOrdered_197 rfl rfl ?_
                                have hb44 := hw4.s4 (4 * c + r42)
                                refine g_ial hY (gS_X hI) eL_isOrdered_198 (j := 4) (N := 16) (x := σ4 4 (4 * c + r42)) (by decide) rfl (by omega) (Eq.trans (congrFun (z_u_ne (by decide)) _) (Eq.trans (congrFun (z_u_ne (by decide)) _) (congrFun (z_u_ne (by decide)) _))) ?_
                                refine z_iload hY eL_isOrdered_199 2 rfl ?_
                                refine z_iload hY eL_isOrdered_201 1 rfl ?_
                                refine z_imul hY eL_isOrdered_203 ?_
                                refine z_top (b := r37) (by omega) ?_
                                refine z_iadd hY eL_isOrdered_204 ?_
                                refine g_ias hY (gS_X hI) eL_isOrdered_205 (j := 4) (N := 16) (by decide) (fun _ => rfl) (by omega) ?_
                                refine z_sub [3, 4, 5, 6, 7, 2, 1, 0] (ls' := [(0, .ref (A 40)), (1, .ref b), (2, z_i c), (3, z_i (r9 + 1)), (4, z_i t), (5, z_i 1), (6, z_i r37), (7, z_i r42)]) rfl ?_
                                have hq4 := h4b (4 * c + r42) (by omega) (by omega)
                                exact rest206 1 r37 r42 (z_u (z_u (z_u (z_u σ4 0 0 X35) 0 0 X37) 0 0 X42) 4 (4 * c + r42) ((σ4 4 (4 * c + r42)) + r37)) (by omega) (by omega) (by omega) (fun k k0 k1 k2 k3 k4 => (z_u_ne (by omega)).trans ((z_u_ne (by omega)).trans ((z_u_ne (by omega)).trans ((z_u_ne (by omega)).trans (hF4 k k0 k1 k2 k3 k4))))) (wB_u (wB_u (wB_u (wB_u hw4 (by show (-2147483648 : Int) ≤ _ ∧ _ ≤ (2147483647 : Int); omega)) (by show (-2147483648 : Int) ≤ _ ∧ _ ≤ (2147483647 : Int); omega)) (by show (-2147483648 : Int) ≤ _ ∧ _ ≤ (2147483647 : Int); omega)) (by show (-3996 : Int) ≤ _ ∧ _ ≤ (3996 : Int); omega)) rfl (fun i => by show z_u σ4 4 (4 * c + r42) ((σ4 4 (4 * c + r42)) + r37) 4 i = _; unfold z_up; by_cases c9 : i = 4 * c + r42; (rw [c9, if_pos rfl]; exact (congrArg (fun q => z_u σ4 4 q ((σ4 4 (4 * c + r42)) + r37) 4 (4 * c + r42)) (by omega)).trans (z_u_at.trans (by omega))); (rw [if_neg c9]; exact z_u_at' (by omega))) (by omega)
                              · refine z_aload hY eL_isOrdered_172 2 rfl ?_
                                refine z_const hY eL_isOrdered_173 ?_
                                refine z_callV (As := [z_i 2]) (rest := []) hY eL_isOrdered_174 (la_next (B := B) (κ := κ) (σ := (z_u (z_u σ4 0 0 X35) 0 0 X37)) hG (gS_X hI) (n := 2) (by omega)) ((gH_at (gS_X hI) (by decide)).trans (congrArg some lC_40)) (by decide) (Nat.le_of_ble_eq_true rfl) (by rw [hmc, hms]; omega) (fun _ _ q => q.elim) (fun vv46 hh46 q46 => ?_)
                                obtain ⟨r45, X45, rfl, hr45, hX45, rfl⟩ := q46
                                refine z_goto hY eL_isOrdered_177 ?_
                                refine z_istore hY eL_isOrdered_185 (ls' := [(7, z_i r45), (6, z_i r37), (5, z_i 1), (0, .ref (A 40)), (1, .ref b), (2, z_i c), (3, z_i (r9 + 1)), (4, z_i t)]) rfl ?_
                                refine z_aload hY eL_isOrdered_187 3 rfl ?_
                                refine g_gf hY (gS_X hI) eL_isOrdered_188 (v := .ref (A 4)) rfl ?_
                                refine z_const hY eL_isOrdered_191 ?_
                                refine z_iload hY eL_isOrdered_192 5 rfl ?_
                                refine z_imul hY eL_isOrdered_193 ?_
                                refine z_iload hY eL_isOrdered_194 0 rfl ?_
                                refine z_iadd hY eL_isOrdered_196 ?_
                                refine z_dup2 hY eL_isOrdered_197 rfl rfl ?_
                                have hb47 := hw4.s4 (4 * c + r45)
                                refine g_ial hY (gS_X hI) eL_isOrdered_198 (j := 4) (N := 16) (x := σ4 4 (4 * c + r45)) (by decide) rfl (by omega) (Eq.trans (congrFun (z_u_ne (by decide)) _) (Eq.trans (congrFun (z_u_ne (by decide)) _) (congrFun (z_u_ne (by decide)) _))) ?_
                                refine z_iload hY eL_isOrdered_199 2 rfl ?_
                                refine z_iload hY eL_isOrdered_201 1 rfl ?_
                                refine z_imul hY eL_isOrdered_203 ?_
                                refine z_top (b := r37) (by omega) ?_
                                refine z_iadd hY eL_isOrdered_204 ?_
                                refine g_ias hY (gS_X hI) eL_isOrdered_205 (j := 4) (N := 16) (by decide) (fun _ => rfl) (by omega) ?_
                                refine z_sub [3, 4, 5, 6, 7, 2, 1, 0] (ls' := [(0, .ref (A 40)), (1, .ref b), (2, z_i c), (3, z_i (r9 + 1)), (4, z_i t), (5, z_i 1), (6, z_i r37), (7, z_i r45)]) rfl ?_
                                have hq4 := h4b (4 * c + r45) (by omega) (by omega)
                                exact rest206 1 r37 r45 (z_u (z_u (z_u (z_u σ4 0 0 X35) 0 0 X37) 0 0 X45) 4 (4 * c + r45) ((σ4 4 (4 * c + r45)) + r37)) (by omega) (by omega) (by omega) (fun k k0 k1 k2 k3 k4 => (z_u_ne (by omega)).trans ((z_u_ne (by omega)).trans ((z_u_ne (by omega)).trans ((z_u_ne (by omega)).trans (hF4 k k0 k1 k2 k3 k4))))) (wB_u (wB_u (wB_u (wB_u hw4 (by show (-2147483648 : Int) ≤ _ ∧ _ ≤ (2147483647 : Int); omega)) (by show (-2147483648 : Int) ≤ _ ∧ _ ≤ (2147483647 : Int); omega)) (by show (-2147483648 : Int) ≤ _ ∧ _ ≤ (2147483647 : Int); omega)) (by show (-3996 : Int) ≤ _ ∧ _ ≤ (3996 : Int); omega)) rfl (fun i => by show z_u σ4 4 (4 * c + r45) ((σ4 4 (4 * c + r45)) + r37) 4 i = _; unfold z_up; by_cases c9 : i = 4 * c + r45; (rw [c9, if_pos rfl]; exact (congrArg (fun q => z_u σ4 4 q ((σ4 4 (4 * c + r45)) + r37) 4 (4 * c + r45)) (by omega)).trans (z_u_at.trans (by omega))); (rw [if_neg c9]; exact z_u_at' (by omega))) (by omega)
                          · refine z_const hY eL_isOrdered_152 ?_
                            refine z_goto hY eL_isOrdered_153 ?_
                            refine z_istore hY eL_isOrdered_161 (ls' := [(6, z_i 1), (5, z_i 1), (0, .ref (A 40)), (1, .ref b), (2, z_i c), (3, z_i (r9 + 1)), (4, z_i t)]) rfl ?_
                            refine z_iload hY eL_isOrdered_163 4 rfl ?_
                            refine z_ifne hY eL_isOrdered_164 (by omega) (fun c164 => ?_) (fun c164 => ?_)
                            · refine z_aload hY eL_isOrdered_180 2 rfl ?_
                              refine z_const hY eL_isOrdered_181 ?_
                              refine z_callV (As := [z_i 4]) (rest := []) hY eL_isOrdered_182 (la_next (B := B) (κ := κ) (σ := (z_u σ4 0 0 X35)) hG (gS_X hI) (n := 4) (by omega)) ((gH_at (gS_X hI) (by decide)).trans (congrArg some lC_40)) (by decide) (Nat.le_of_ble_eq_true rfl) (by rw [hmc, hms]; omega) (fun _ _ q => q.elim) (fun vv49 hh49 q49 => ?_)
                              obtain ⟨r48, X48, rfl, hr48, hX48, rfl⟩ := q49
                              refine z_istore hY eL_isOrdered_185 (ls' := [(7, z_i r48), (6, z_i 1), (5, z_i 1), (0, .ref (A 40)), (1, .ref b), (2, z_i c), (3, z_i (r9 + 1)), (4, z_i t)]) rfl ?_
                              refine z_aload hY eL_isOrdered_187 3 rfl ?_
                              refine g_gf hY (gS_X hI) eL_isOrdered_188 (v := .ref (A 4)) rfl ?_
                              refine z_const hY eL_isOrdered_191 ?_
                              refine z_iload hY eL_isOrdered_192 5 rfl ?_
                              refine z_imul hY eL_isOrdered_193 ?_
                              refine z_iload hY eL_isOrdered_194 0 rfl ?_
                              refine z_iadd hY eL_isOrdered_196 ?_
                              refine z_dup2 hY eL_isOrdered_197 rfl rfl ?_
                              have hb50 := hw4.s4 (4 * c + r48)
                              refine g_ial hY (gS_X hI) eL_isOrdered_198 (j := 4) (N := 16) (x := σ4 4 (4 * c + r48)) (by decide) rfl (by omega) (Eq.trans (congrFun (z_u_ne (by decide)) _) (congrFun (z_u_ne (by decide)) _)) ?_
                              refine z_iload hY eL_isOrdered_199 2 rfl ?_
                              refine z_iload hY eL_isOrdered_201 1 rfl ?_
                              refine z_imul hY eL_isOrdered_203 ?_
                              refine z_top (b := 1) (by omega) ?_
                              refine z_iadd hY eL_isOrdered_204 ?_
                              refine g_ias hY (gS_X hI) eL_isOrdered_205 (j := 4) (N := 16) (by decide) (fun _ => rfl) (by omega) ?_
                              refine z_sub [3, 4, 5, 6, 7, 2, 1, 0] (ls' := [(0, .ref (A 40)), (1, .ref b), (2, z_i c), (3, z_i (r9 + 1)), (4, z_i t), (5, z_i 1), (6, z_i 1), (7, z_i r48)]) rfl ?_
                              have hq4 := h4b (4 * c + r48) (by omega) (by omega)
                              exact rest206 1 1 r48 (z_u (z_u (z_u σ4 0 0 X35) 0 0 X48) 4 (4 * c + r48) ((σ4 4 (4 * c + r48)) + 1)) (by omega) (by omega) (by omega) (fun k k0 k1 k2 k3 k4 => (z_u_ne (by omega)).trans ((z_u_ne (by omega)).trans ((z_u_ne (by omega)).trans (hF4 k k0 k1 k2 k3 k4)))) (wB_u (wB_u (wB_u hw4 (by show (-2147483648 : Int) ≤ _ ∧ _ ≤ (2147483647 : Int); omega)) (by show (-2147483648 : Int) ≤ _ ∧ _ ≤ (2147483647 : Int); omega)) (by show (-3996 : Int) ≤ _ ∧ _ ≤ (3996 : Int); omega)) rfl (fun i => by show z_u σ4 4 (4 * c + r48) ((σ4 4 (4 * c + r48)) + 1) 4 i = _; unfold z_up; by_cases c9 : i = 4 * c + r48; (rw [c9, if_pos rfl]; exact (congrArg (fun q => z_u σ4 4 q ((σ4 4 (4 * c + r48)) + 1) 4 (4 * c + r48)) (by omega)).trans (z_u_at.trans (by omega))); (rw [if_neg c9]; exact z_u_at' (by omega))) (by omega)
                            · refine z_iload hY eL_isOrdered_167 6 rfl ?_
                              refine z_ifne hY eL_isOrdered_169 (by omega) (fun c169 => ?_) (fun c169 => ?_)
                              · refine z_aload hY eL_isOrdered_180 2 rfl ?_
                                refine z_const hY eL_isOrdered_181 ?_
                                refine z_callV (As := [z_i 4]) (rest := []) hY eL_isOrdered_182 (la_next (B := B) (κ := κ) (σ := (z_u σ4 0 0 X35)) hG (gS_X hI) (n := 4) (by omega)) ((gH_at (gS_X hI) (by decide)).trans (congrArg some lC_40)) (by decide) (Nat.le_of_ble_eq_true rfl) (by rw [hmc, hms]; omega) (fun _ _ q => q.elim) (fun vv52 hh52 q52 => ?_)
                                obtain ⟨r51, X51, rfl, hr51, hX51, rfl⟩ := q52
                                refine z_istore hY eL_isOrdered_185 (ls' := [(7, z_i r51), (6, z_i 1), (5, z_i 1), (0, .ref (A 40)), (1, .ref b), (2, z_i c), (3, z_i (r9 + 1)), (4, z_i t)]) rfl ?_
                                refine z_aload hY eL_isOrdered_187 3 rfl ?_
                                refine g_gf hY (gS_X hI) eL_isOrdered_188 (v := .ref (A 4)) rfl ?_
                                refine z_const hY eL_isOrdered_191 ?_
                                refine z_iload hY eL_isOrdered_192 5 rfl ?_
                                refine z_imul hY eL_isOrdered_193 ?_
                                refine z_iload hY eL_isOrdered_194 0 rfl ?_
                                refine z_iadd hY eL_isOrdered_196 ?_
                                refine z_dup2 hY eL_isOrdered_197 rfl rfl ?_
                                have hb53 := hw4.s4 (4 * c + r51)
                                refine g_ial hY (gS_X hI) eL_isOrdered_198 (j := 4) (N := 16) (x := σ4 4 (4 * c + r51)) (by decide) rfl (by omega) (Eq.trans (congrFun (z_u_ne (by decide)) _) (congrFun (z_u_ne (by decide)) _)) ?_
                                refine z_iload hY eL_isOrdered_199 2 rfl ?_
                                refine z_iload hY eL_isOrdered_201 1 rfl ?_
                                refine z_imul hY eL_isOrdered_203 ?_
                                refine z_top (b := 1) (by omega) ?_
                                refine z_iadd hY eL_isOrdered_204 ?_
                                refine g_ias hY (gS_X hI) eL_isOrdered_205 (j := 4) (N := 16) (by decide) (fun _ => rfl) (by omega) ?_
                                refine z_sub [3, 4, 5, 6, 7, 2, 1, 0] (ls' := [(0, .ref (A 40)), (1, .ref b), (2, z_i c), (3, z_i (r9 + 1)), (4, z_i t), (5, z_i 1), (6, z_i 1), (7, z_i r51)]) rfl ?_
                                have hq4 := h4b (4 * c + r51) (by omega) (by omega)
                                exact rest206 1 1 r51 (z_u (z_u (z_u σ4 0 0 X35) 0 0 X51) 4 (4 * c + r51) ((σ4 4 (4 * c + r51)) + 1)) (by omega) (by omega) (by omega) (fun k k0 k1 k2 k3 k4 => (z_u_ne (by omega)).trans ((z_u_ne (by omega)).trans ((z_u_ne (by omega)).trans (hF4 k k0 k1 k2 k3 k4)))) (wB_u (wB_u (wB_u hw4 (by show (-2147483648 : Int) ≤ _ ∧ _ ≤ (2147483647 : Int); omega)) (by show (-2147483648 : Int) ≤ _ ∧ _ ≤ (2147483647 : Int); omega)) (by show (-3996 : Int) ≤ _ ∧ _ ≤ (3996 : Int); omega)) rfl (fun i => by show z_u σ4 4 (4 * c + r51) ((σ4 4 (4 * c + r51)) + 1) 4 i = _; unfold z_up; by_cases c9 : i = 4 * c + r51; (rw [c9, if_pos rfl]; exact (congrArg (fun q => z_u σ4 4 q ((σ4 4 (4 * c + r51)) + 1) 4 (4 * c + r51)) (by omega)).trans (z_u_at.trans (by omega))); (rw [if_neg c9]; exact z_u_at' (by omega))) (by omega)
                              · refine z_aload hY eL_isOrdered_172 2 rfl ?_
                                refine z_const hY eL_isOrdered_173 ?_
                                refine z_callV (As := [z_i 2]) (rest := []) hY eL_isOrdered_174 (la_next (B := B) (κ := κ) (σ := (z_u σ4 0 0 X35)) hG (gS_X hI) (n := 2) (by omega)) ((gH_at (gS_X hI) (by decide)).trans (congrArg some lC_40)) (by decide) (Nat.le_of_ble_eq_true rfl) (by rw [hmc, hms]; omega) (fun _ _ q => q.elim) (fun vv55 hh55 q55 => ?_)
                                obtain ⟨r54, X54, rfl, hr54, hX54, rfl⟩ := q55
                                refine z_goto hY eL_isOrdered_177 ?_
                                refine z_istore hY eL_isOrdered_185 (ls' := [(7, z_i r54), (6, z_i 1), (5, z_i 1), (0, .ref (A 40)), (1, .ref b), (2, z_i c), (3, z_i (r9 + 1)), (4, z_i t)]) rfl ?_
                                refine z_aload hY eL_isOrdered_187 3 rfl ?_
                                refine g_gf hY (gS_X hI) eL_isOrdered_188 (v := .ref (A 4)) rfl ?_
                                refine z_const hY eL_isOrdered_191 ?_
                                refine z_iload hY eL_isOrdered_192 5 rfl ?_
                                refine z_imul hY eL_isOrdered_193 ?_
                                refine z_iload hY eL_isOrdered_194 0 rfl ?_
                                refine z_iadd hY eL_isOrdered_196 ?_
                                refine z_dup2 hY eL_isOrdered_197 rfl rfl ?_
                                have hb56 := hw4.s4 (4 * c + r54)
                                refine g_ial hY (gS_X hI) eL_isOrdered_198 (j := 4) (N := 16) (x := σ4 4 (4 * c + r54)) (by decide) rfl (by omega) (Eq.trans (congrFun (z_u_ne (by decide)) _) (congrFun (z_u_ne (by decide)) _)) ?_
                                refine z_iload hY eL_isOrdered_199 2 rfl ?_
                                refine z_iload hY eL_isOrdered_201 1 rfl ?_
                                refine z_imul hY eL_isOrdered_203 ?_
                                refine z_top (b := 1) (by omega) ?_
                                refine z_iadd hY eL_isOrdered_204 ?_
                                refine g_ias hY (gS_X hI) eL_isOrdered_205 (j := 4) (N := 16) (by decide) (fun _ => rfl) (by omega) ?_
                                refine z_sub [3, 4, 5, 6, 7, 2, 1, 0] (ls' := [(0, .ref (A 40)), (1, .ref b), (2, z_i c), (3, z_i (r9 + 1)), (4, z_i t), (5, z_i 1), (6, z_i 1), (7, z_i r54)]) rfl ?_
                                have hq4 := h4b (4 * c + r54) (by omega) (by omega)
                                exact rest206 1 1 r54 (z_u (z_u (z_u σ4 0 0 X35) 0 0 X54) 4 (4 * c + r54) ((σ4 4 (4 * c + r54)) + 1)) (by omega) (by omega) (by omega) (fun k k0 k1 k2 k3 k4 => (z_u_ne (by omega)).trans ((z_u_ne (by omega)).trans ((z_u_ne (by omega)).trans (hF4 k k0 k1 k2 k3 k4)))) (wB_u (wB_u (wB_u hw4 (by show (-2147483648 : Int) ≤ _ ∧ _ ≤ (2147483647 : Int); omega)) (by show (-2147483648 : Int) ≤ _ ∧ _ ≤ (2147483647 : Int); omega)) (by show (-3996 : Int) ≤ _ ∧ _ ≤ (3996 : Int); omega)) rfl (fun i => by show z_u σ4 4 (4 * c + r54) ((σ4 4 (4 * c + r54)) + 1) 4 i = _; unfold z_up; by_cases c9 : i = 4 * c + r54; (rw [c9, if_pos rfl]; exact (congrArg (fun q => z_u σ4 4 q ((σ4 4 (4 * c + r54)) + 1) 4 (4 * c + r54)) (by omega)).trans (z_u_at.trans (by omega))); (rw [if_neg c9]; exact z_u_at' (by omega))) (by omega)
                        · refine z_aload hY eL_isOrdered_129 0 rfl ?_
                          refine z_const hY eL_isOrdered_130 ?_
                          refine z_callV (As := [z_i 2]) (rest := []) hY eL_isOrdered_131 (la_next (B := B) (κ := κ) (σ := σ4) hG (gS_X hI) (n := 2) (by omega)) ((gH_at (gS_X hI) (by decide)).trans (congrArg some lC_40)) (by decide) (Nat.le_of_ble_eq_true rfl) (by rw [hmc, hms]; omega) (fun _ _ q => q.elim) (fun vv58 hh58 q58 => ?_)
                          obtain ⟨r57, X57, rfl, hr57, hX57, rfl⟩ := q58
                          refine z_ifne hY eL_isOrdered_134 (by omega) (fun c134 => ?_) (fun c134 => ?_)
                          · refine z_const hY eL_isOrdered_141 ?_
                            refine z_istore hY eL_isOrdered_142 (ls' := [(5, z_i 1), (0, .ref (A 40)), (1, .ref b), (2, z_i c), (3, z_i (r9 + 1)), (4, z_i t)]) rfl ?_
                            refine z_aload hY eL_isOrdered_144 1 rfl ?_
                            refine z_const hY eL_isOrdered_145 ?_
                            refine z_callV (As := [z_i 2]) (rest := []) hY eL_isOrdered_146 (la_next (B := B) (κ := κ) (σ := (z_u σ4 0 0 X57)) hG (gS_X hI) (n := 2) (by omega)) ((gH_at (gS_X hI) (by decide)).trans (congrArg some lC_40)) (by decide) (Nat.le_of_ble_eq_true rfl) (by rw [hmc, hms]; omega) (fun _ _ q => q.elim) (fun vv60 hh60 q60 => ?_)
                            obtain ⟨r59, X59, rfl, hr59, hX59, rfl⟩ := q60
                            refine z_ifne hY eL_isOrdered_149 (by omega) (fun c149 => ?_) (fun c149 => ?_)
                            · refine z_aload hY eL_isOrdered_156 1 rfl ?_
                              refine z_const hY eL_isOrdered_157 ?_
                              refine z_callV (As := [z_i 5]) (rest := []) hY eL_isOrdered_158 (la_next (B := B) (κ := κ) (σ := (z_u (z_u σ4 0 0 X57) 0 0 X59)) hG (gS_X hI) (n := 5) (by omega)) ((gH_at (gS_X hI) (by decide)).trans (congrArg some lC_40)) (by decide) (Nat.le_of_ble_eq_true rfl) (by rw [hmc, hms]; omega) (fun _ _ q => q.elim) (fun vv62 hh62 q62 => ?_)
                              obtain ⟨r61, X61, rfl, hr61, hX61, rfl⟩ := q62
                              refine z_istore hY eL_isOrdered_161 (ls' := [(6, z_i r61), (5, z_i 1), (0, .ref (A 40)), (1, .ref b), (2, z_i c), (3, z_i (r9 + 1)), (4, z_i t)]) rfl ?_
                              refine z_iload hY eL_isOrdered_163 4 rfl ?_
                              refine z_ifne hY eL_isOrdered_164 (by omega) (fun c164 => ?_) (fun c164 => ?_)
                              · refine z_aload hY eL_isOrdered_180 2 rfl ?_
                                refine z_const hY eL_isOrdered_181 ?_
                                refine z_callV (As := [z_i 4]) (rest := []) hY eL_isOrdered_182 (la_next (B := B) (κ := κ) (σ := (z_u (z_u (z_u σ4 0 0 X57) 0 0 X59) 0 0 X61)) hG (gS_X hI) (n := 4) (by omega)) ((gH_at (gS_X hI) (by decide)).trans (congrArg some lC_40)) (by decide) (Nat.le_of_ble_eq_true rfl) (by rw [hmc, hms]; omega) (fun _ _ q => q.elim) (fun vv64 hh64 q64 => ?_)
                                obtain ⟨r63, X63, rfl, hr63, hX63, rfl⟩ := q64
                                refine z_istore hY eL_isOrdered_185 (ls' := [(7, z_i r63), (6, z_i r61), (5, z_i 1), (0, .ref (A 40)), (1, .ref b), (2, z_i c), (3, z_i (r9 + 1)), (4, z_i t)]) rfl ?_
                                refine z_aload hY eL_isOrdered_187 3 rfl ?_
                                refine g_gf hY (gS_X hI) eL_isOrdered_188 (v := .ref (A 4)) rfl ?_
                                refine z_const hY eL_isOrdered_191 ?_
                                refine z_iload hY eL_isOrdered_192 5 rfl ?_
                                refine z_imul hY eL_isOrdered_193 ?_
                                refine z_iload hY eL_isOrdered_194 0 rfl ?_
                                refine z_iadd hY eL_isOrdered_196 ?_
                                refine z_dup2 hY eL_isOrdered_197 rfl rfl ?_
                                have hb65 := hw4.s4 (4 * c + r63)
                                refine g_ial hY (gS_X hI) eL_isOrdered_198 (j := 4) (N := 16) (x := σ4 4 (4 * c + r63)) (by decide) rfl (by omega) (Eq.trans (congrFun (z_u_ne (by decide)) _) (Eq.trans (congrFun (z_u_ne (by decide)) _) (Eq.trans (congrFun (z_u_ne (by decide)) _) (congrFun (z_u_ne (by decide)) _)))) ?_
                                refine z_iload hY eL_isOrdered_199 2 rfl ?_
                                refine z_iload hY eL_isOrdered_201 1 rfl ?_
                                refine z_imul hY eL_isOrdered_203 ?_
                                refine z_top (b := r61) (by omega) ?_
                                refine z_iadd hY eL_isOrdered_204 ?_
                                refine g_ias hY (gS_X hI) eL_isOrdered_205 (j := 4) (N := 16) (by decide) (fun _ => rfl) (by omega) ?_
                                refine z_sub [3, 4, 5, 6, 7, 2, 1, 0] (ls' := [(0, .ref (A 40)), (1, .ref b), (2, z_i c), (3, z_i (r9 + 1)), (4, z_i t), (5, z_i 1), (6, z_i r61), (7, z_i r63)]) rfl ?_
                                have hq4 := h4b (4 * c + r63) (by omega) (by omega)
                                exact rest206 1 r61 r63 (z_u (z_u (z_u (z_u (z_u σ4 0 0 X57) 0 0 X59) 0 0 X61) 0 0 X63) 4 (4 * c + r63) ((σ4 4 (4 * c + r63)) + r61)) (by omega) (by omega) (by omega) (fun k k0 k1 k2 k3 k4 => (z_u_ne (by omega)).trans ((z_u_ne (by omega)).trans ((z_u_ne (by omega)).trans ((z_u_ne (by omega)).trans ((z_u_ne (by omega)).trans (hF4 k k0 k1 k2 k3 k4)))))) (wB_u (wB_u (wB_u (wB_u (wB_u hw4 (by show (-2147483648 : Int) ≤ _ ∧ _ ≤ (2147483647 : Int); omega)) (by show (-2147483648 : Int) ≤ _ ∧ _ ≤ (2147483647 : Int); omega)) (by show (-2147483648 : Int) ≤ _ ∧ _ ≤ (2147483647 : Int); omega)) (by show (-2147483648 : Int) ≤ _ ∧ _ ≤ (2147483647 : Int); omega)) (by show (-3996 : Int) ≤ _ ∧ _ ≤ (3996 : Int); omega)) rfl (fun i => by show z_u σ4 4 (4 * c + r63) ((σ4 4 (4 * c + r63)) + r61) 4 i = _; unfold z_up; by_cases c9 : i = 4 * c + r63; (rw [c9, if_pos rfl]; exact (congrArg (fun q => z_u σ4 4 q ((σ4 4 (4 * c + r63)) + r61) 4 (4 * c + r63)) (by omega)).trans (z_u_at.trans (by omega))); (rw [if_neg c9]; exact z_u_at' (by omega))) (by omega)
                              · refine z_iload hY eL_isOrdered_167 6 rfl ?_
                                refine z_ifne hY eL_isOrdered_169 (by omega) (fun c169 => ?_) (fun c169 => ?_)
                                · refine z_aload hY eL_isOrdered_180 2 rfl ?_
                                  refine z_const hY eL_isOrdered_181 ?_
                                  refine z_callV (As := [z_i 4]) (rest := []) hY eL_isOrdered_182 (la_next (B := B) (κ := κ) (σ := (z_u (z_u (z_u σ4 0 0 X57) 0 0 X59) 0 0 X61)) hG (gS_X hI) (n := 4) (by omega)) ((gH_at (gS_X hI) (by decide)).trans (congrArg some lC_40)) (by decide) (Nat.le_of_ble_eq_true rfl) (by rw [hmc, hms]; omega) (fun _ _ q => q.elim) (fun vv67 hh67 q67 => ?_)
                                  obtain ⟨r66, X66, rfl, hr66, hX66, rfl⟩ := q67
                                  refine z_istore hY eL_isOrdered_185 (ls' := [(7, z_i r66), (6, z_i r61), (5, z_i 1), (0, .ref (A 40)), (1, .ref b), (2, z_i c), (3, z_i (r9 + 1)), (4, z_i t)]) rfl ?_
                                  refine z_aload hY eL_isOrdered_187 3 rfl ?_
                                  refine g_gf hY (gS_X hI) eL_isOrdered_188 (v := .ref (A 4)) rfl ?_
                                  refine z_const hY eL_isOrdered_191 ?_
                                  refine z_iload hY eL_isOrdered_192 5 rfl ?_
                                  refine z_imul hY eL_isOrdered_193 ?_
                                  refine z_iload hY eL_isOrdered_194 0 rfl ?_
                                  refine z_iadd hY eL_isOrdered_196 ?_
                                  refine z_dup2 hY eL_isOrdered_197 rfl rfl ?_
                                  have hb68 := hw4.s4 (4 * c + r66)
                                  refine g_ial hY (gS_X hI) eL_isOrdered_198 (j := 4) (N := 16) (x := σ4 4 (4 * c + r66)) (by decide) rfl (by omega) (Eq.trans (congrFun (z_u_ne (by decide)) _) (Eq.trans (congrFun (z_u_ne (by decide)) _) (Eq.trans (congrFun (z_u_ne (by decide)) _) (congrFun (z_u_ne (by decide)) _)))) ?_
                                  refine z_iload hY eL_isOrdered_199 2 rfl ?_
                                  refine z_iload hY eL_isOrdered_201 1 rfl ?_
                                  refine z_imul hY eL_isOrdered_203 ?_
                                  refine z_top (b := r61) (by omega) ?_
                                  refine z_iadd hY eL_isOrdered_204 ?_
                                  refine g_ias hY (gS_X hI) eL_isOrdered_205 (j := 4) (N := 16) (by decide) (fun _ => rfl) (by omega) ?_
                                  refine z_sub [3, 4, 5, 6, 7, 2, 1, 0] (ls' := [(0, .ref (A 40)), (1, .ref b), (2, z_i c), (3, z_i (r9 + 1)), (4, z_i t), (5, z_i 1), (6, z_i r61), (7, z_i r66)]) rfl ?_
                                  have hq4 := h4b (4 * c + r66) (by omega) (by omega)
                                  exact rest206 1 r61 r66 (z_u (z_u (z_u (z_u (z_u σ4 0 0 X57) 0 0 X59) 0 0 X61) 0 0 X66) 4 (4 * c + r66) ((σ4 4 (4 * c + r66)) + r61)) (by omega) (by omega) (by omega) (fun k k0 k1 k2 k3 k4 => (z_u_ne (by omega)).trans ((z_u_ne (by omega)).trans ((z_u_ne (by omega)).trans ((z_u_ne (by omega)).trans ((z_u_ne (by omega)).trans (hF4 k k0 k1 k2 k3 k4)))))) (wB_u (wB_u (wB_u (wB_u (wB_u hw4 (by show (-2147483648 : Int) ≤ _ ∧ _ ≤ (2147483647 : Int); omega)) (by show (-2147483648 : Int) ≤ _ ∧ _ ≤ (2147483647 : Int); omega)) (by show (-2147483648 : Int) ≤ _ ∧ _ ≤ (2147483647 : Int); omega)) (by show (-2147483648 : Int) ≤ _ ∧ _ ≤ (2147483647 : Int); omega)) (by show (-3996 : Int) ≤ _ ∧ _ ≤ (3996 : Int); omega)) rfl (fun i => by show z_u σ4 4 (4 * c + r66) ((σ4 4 (4 * c + r66)) + r61) 4 i = _; unfold z_up; by_cases c9 : i = 4 * c + r66; (rw [c9, if_pos rfl]; exact (congrArg (fun q => z_u σ4 4 q ((σ4 4 (4 * c + r66)) + r61) 4 (4 * c + r66)) (by omega)).trans (z_u_at.trans (by omega))); (rw [if_neg c9]; exact z_u_at' (by omega))) (by omega)
                                · refine z_aload hY eL_isOrdered_172 2 rfl ?_
                                  refine z_const hY eL_isOrdered_173 ?_
                                  refine z_callV (As := [z_i 2]) (rest := []) hY eL_isOrdered_174 (la_next (B := B) (κ := κ) (σ := (z_u (z_u (z_u σ4 0 0 X57) 0 0 X59) 0 0 X61)) hG (gS_X hI) (n := 2) (by omega)) ((gH_at (gS_X hI) (by decide)).trans (congrArg some lC_40)) (by decide) (Nat.le_of_ble_eq_true rfl) (by rw [hmc, hms]; omega) (fun _ _ q => q.elim) (fun vv70 hh70 q70 => ?_)
                                  obtain ⟨r69, X69, rfl, hr69, hX69, rfl⟩ := q70
                                  refine z_goto hY eL_isOrdered_177 ?_
                                  refine z_istore hY eL_isOrdered_185 (ls' := [(7, z_i r69), (6, z_i r61), (5, z_i 1), (0, .ref (A 40)), (1, .ref b), (2, z_i c), (3, z_i (r9 + 1)), (4, z_i t)]) rfl ?_
                                  refine z_aload hY eL_isOrdered_187 3 rfl ?_
                                  refine g_gf hY (gS_X hI) eL_isOrdered_188 (v := .ref (A 4)) rfl ?_
                                  refine z_const hY eL_isOrdered_191 ?_
                                  refine z_iload hY eL_isOrdered_192 5 rfl ?_
                                  refine z_imul hY eL_isOrdered_193 ?_
                                  refine z_iload hY eL_isOrdered_194 0 rfl ?_
                                  refine z_iadd hY eL_isOrdered_196 ?_
                                  refine z_dup2 hY eL_isOrdered_197 rfl rfl ?_
                                  have hb71 := hw4.s4 (4 * c + r69)
                                  refine g_ial hY (gS_X hI) eL_isOrdered_198 (j := 4) (N := 16) (x := σ4 4 (4 * c + r69)) (by decide) rfl (by omega) (Eq.trans (congrFun (z_u_ne (by decide)) _) (Eq.trans (congrFun (z_u_ne (by decide)) _) (Eq.trans (congrFun (z_u_ne (by decide)) _) (congrFun (z_u_ne (by decide)) _)))) ?_
                                  refine z_iload hY eL_isOrdered_199 2 rfl ?_
                                  refine z_iload hY eL_isOrdered_201 1 rfl ?_
                                  refine z_imul hY eL_isOrdered_203 ?_
                                  refine z_top (b := r61) (by omega) ?_
                                  refine z_iadd hY eL_isOrdered_204 ?_
                                  refine g_ias hY (gS_X hI) eL_isOrdered_205 (j := 4) (N := 16) (by decide) (fun _ => rfl) (by omega) ?_
                                  refine z_sub [3, 4, 5, 6, 7, 2, 1, 0] (ls' := [(0, .ref (A 40)), (1, .ref b), (2, z_i c), (3, z_i (r9 + 1)), (4, z_i t), (5, z_i 1), (6, z_i r61), (7, z_i r69)]) rfl ?_
                                  have hq4 := h4b (4 * c + r69) (by omega) (by omega)
                                  exact rest206 1 r61 r69 (z_u (z_u (z_u (z_u (z_u σ4 0 0 X57) 0 0 X59) 0 0 X61) 0 0 X69) 4 (4 * c + r69) ((σ4 4 (4 * c + r69)) + r61)) (by omega) (by omega) (by omega) (fun k k0 k1 k2 k3 k4 => (z_u_ne (by omega)).trans ((z_u_ne (by omega)).trans ((z_u_ne (by omega)).trans ((z_u_ne (by omega)).trans ((z_u_ne (by omega)).trans (hF4 k k0 k1 k2 k3 k4)))))) (wB_u (wB_u (wB_u (wB_u (wB_u hw4 (by show (-2147483648 : Int) ≤ _ ∧ _ ≤ (2147483647 : Int); omega)) (by show (-2147483648 : Int) ≤ _ ∧ _ ≤ (2147483647 : Int); omega)) (by show (-2147483648 : Int) ≤ _ ∧ _ ≤ (2147483647 : Int); omega)) (by show (-2147483648 : Int) ≤ _ ∧ _ ≤ (2147483647 : Int); omega)) (by show (-3996 : Int) ≤ _ ∧ _ ≤ (3996 : Int); omega)) rfl (fun i => by show z_u σ4 4 (4 * c + r69) ((σ4 4 (4 * c + r69)) + r61) 4 i = _; unfold z_up; by_cases c9 : i = 4 * c + r69; (rw [c9, if_pos rfl]; exact (congrArg (fun q => z_u σ4 4 q ((σ4 4 (4 * c + r69)) + r61) 4 (4 * c + r69)) (by omega)).trans (z_u_at.trans (by omega))); (rw [if_neg c9]; exact z_u_at' (by omega))) (by omega)
                            · refine z_const hY eL_isOrdered_152 ?_
                              refine z_goto hY eL_isOrdered_153 ?_
                              refine z_istore hY eL_isOrdered_161 (ls' := [(6, z_i 1), (5, z_i 1), (0, .ref (A 40)), (1, .ref b), (2, z_i c), (3, z_i (r9 + 1)), (4, z_i t)]) rfl ?_
                              refine z_iload hY eL_isOrdered_163 4 rfl ?_
                              refine z_ifne hY eL_isOrdered_164 (by omega) (fun c164 => ?_) (fun c164 => ?_)
                              · refine z_aload hY eL_isOrdered_180 2 rfl ?_
                                refine z_const hY eL_isOrdered_181 ?_
                                refine z_callV (As := [z_i 4]) (rest := []) hY eL_isOrdered_182 (la_next (B := B) (κ := κ) (σ := (z_u (z_u σ4 0 0 X57) 0 0 X59)) hG (gS_X hI) (n := 4) (by omega)) ((gH_at (gS_X hI) (by decide)).trans (congrArg some lC_40)) (by decide) (Nat.le_of_ble_eq_true rfl) (by rw [hmc, hms]; omega) (fun _ _ q => q.elim) (fun vv73 hh73 q73 => ?_)
                                obtain ⟨r72, X72, rfl, hr72, hX72, rfl⟩ := q73
                                refine z_istore hY eL_isOrdered_185 (ls' := [(7, z_i r72), (6, z_i 1), (5, z_i 1), (0, .ref (A 40)), (1, .ref b), (2, z_i c), (3, z_i (r9 + 1)), (4, z_i t)]) rfl ?_
                                refine z_aload hY eL_isOrdered_187 3 rfl ?_
                                refine g_gf hY (gS_X hI) eL_isOrdered_188 (v := .ref (A 4)) rfl ?_
                                refine z_const hY eL_isOrdered_191 ?_
                                refine z_iload hY eL_isOrdered_192 5 rfl ?_
                                refine z_imul hY eL_isOrdered_193 ?_
                                refine z_iload hY eL_isOrdered_194 0 rfl ?_
                                refine z_iadd hY eL_isOrdered_196 ?_
                                refine z_dup2 hY eL_isOrdered_197 rfl rfl ?_
                                have hb74 := hw4.s4 (4 * c + r72)
                                refine g_ial hY (gS_X hI) eL_isOrdered_198 (j := 4) (N := 16) (x := σ4 4 (4 * c + r72)) (by decide) rfl (by omega) (Eq.trans (congrFun (z_u_ne (by decide)) _) (Eq.trans (congrFun (z_u_ne (by decide)) _) (congrFun (z_u_ne (by decide)) _))) ?_
                                refine z_iload hY eL_isOrdered_199 2 rfl ?_
                                refine z_iload hY eL_isOrdered_201 1 rfl ?_
                                refine z_imul hY eL_isOrdered_203 ?_
                                refine z_top (b := 1) (by omega) ?_
                                refine z_iadd hY eL_isOrdered_204 ?_
                                refine g_ias hY (gS_X hI) eL_isOrdered_205 (j := 4) (N := 16) (by decide) (fun _ => rfl) (by omega) ?_
                                refine z_sub [3, 4, 5, 6, 7, 2, 1, 0] (ls' := [(0, .ref (A 40)), (1, .ref b), (2, z_i c), (3, z_i (r9 + 1)), (4, z_i t), (5, z_i 1), (6, z_i 1), (7, z_i r72)]) rfl ?_
                                have hq4 := h4b (4 * c + r72) (by omega) (by omega)
                                exact rest206 1 1 r72 (z_u (z_u (z_u (z_u σ4 0 0 X57) 0 0 X59) 0 0 X72) 4 (4 * c + r72) ((σ4 4 (4 * c + r72)) + 1)) (by omega) (by omega) (by omega) (fun k k0 k1 k2 k3 k4 => (z_u_ne (by omega)).trans ((z_u_ne (by omega)).trans ((z_u_ne (by omega)).trans ((z_u_ne (by omega)).trans (hF4 k k0 k1 k2 k3 k4))))) (wB_u (wB_u (wB_u (wB_u hw4 (by show (-2147483648 : Int) ≤ _ ∧ _ ≤ (2147483647 : Int); omega)) (by show (-2147483648 : Int) ≤ _ ∧ _ ≤ (2147483647 : Int); omega)) (by show (-2147483648 : Int) ≤ _ ∧ _ ≤ (2147483647 : Int); omega)) (by show (-3996 : Int) ≤ _ ∧ _ ≤ (3996 : Int); omega)) rfl (fun i => by show z_u σ4 4 (4 * c + r72) ((σ4 4 (4 * c + r72)) + 1) 4 i = _; unfold z_up; by_cases c9 : i = 4 * c + r72; (rw [c9, if_pos rfl]; exact (congrArg (fun q => z_u σ4 4 q ((σ4 4 (4 * c + r72)) + 1) 4 (4 * c + r72)) (by omega)).trans (z_u_at.trans (by omega))); (rw [if_neg c9]; exact z_u_at' (by omega))) (by omega)
                              · refine z_iload hY eL_isOrdered_167 6 rfl ?_
                                refine z_ifne hY eL_isOrdered_169 (by omega) (fun c169 => ?_) (fun c169 => ?_)
                                · refine z_aload hY eL_isOrdered_180 2 rfl ?_
                                  refine z_const hY eL_isOrdered_181 ?_
                                  refine z_callV (As := [z_i 4]) (rest := []) hY eL_isOrdered_182 (la_next (B := B) (κ := κ) (σ := (z_u (z_u σ4 0 0 X57) 0 0 X59)) hG (gS_X hI) (n := 4) (by omega)) ((gH_at (gS_X hI) (by decide)).trans (congrArg some lC_40)) (by decide) (Nat.le_of_ble_eq_true rfl) (by rw [hmc, hms]; omega) (fun _ _ q => q.elim) (fun vv76 hh76 q76 => ?_)
                                  obtain ⟨r75, X75, rfl, hr75, hX75, rfl⟩ := q76
                                  refine z_istore hY eL_isOrdered_185 (ls' := [(7, z_i r75), (6, z_i 1), (5, z_i 1), (0, .ref (A 40)), (1, .ref b), (2, z_i c), (3, z_i (r9 + 1)), (4, z_i t)]) rfl ?_
                                  refine z_aload hY eL_isOrdered_187 3 rfl ?_
                                  refine g_gf hY (gS_X hI) eL_isOrdered_188 (v := .ref (A 4)) rfl ?_
                                  refine z_const hY eL_isOrdered_191 ?_
                                  refine z_iload hY eL_isOrdered_192 5 rfl ?_
                                  refine z_imul hY eL_isOrdered_193 ?_
                                  refine z_iload hY eL_isOrdered_194 0 rfl ?_
                                  refine z_iadd hY eL_isOrdered_196 ?_
                                  refine z_dup2 hY eL_isOrdered_197 rfl rfl ?_
                                  have hb77 := hw4.s4 (4 * c + r75)
                                  refine g_ial hY (gS_X hI) eL_isOrdered_198 (j := 4) (N := 16) (x := σ4 4 (4 * c + r75)) (by decide) rfl (by omega) (Eq.trans (congrFun (z_u_ne (by decide)) _) (Eq.trans (congrFun (z_u_ne (by decide)) _) (congrFun (z_u_ne (by decide)) _))) ?_
                                  refine z_iload hY eL_isOrdered_199 2 rfl ?_
                                  refine z_iload hY eL_isOrdered_201 1 rfl ?_
                                  refine z_imul hY eL_isOrdered_203 ?_
                                  refine z_top (b := 1) (by omega) ?_
                                  refine z_iadd hY eL_isOrdered_204 ?_
                                  refine g_ias hY (gS_X hI) eL_isOrdered_205 (j := 4) (N := 16) (by decide) (fun _ => rfl) (by omega) ?_
                                  refine z_sub [3, 4, 5, 6, 7, 2, 1, 0] (ls' := [(0, .ref (A 40)), (1, .ref b), (2, z_i c), (3, z_i (r9 + 1)), (4, z_i t), (5, z_i 1), (6, z_i 1), (7, z_i r75)]) rfl ?_
                                  have hq4 := h4b (4 * c + r75) (by omega) (by omega)
                                  exact rest206 1 1 r75 (z_u (z_u (z_u (z_u σ4 0 0 X57) 0 0 X59) 0 0 X75) 4 (4 * c + r75) ((σ4 4 (4 * c + r75)) + 1)) (by omega) (by omega) (by omega) (fun k k0 k1 k2 k3 k4 => (z_u_ne (by omega)).trans ((z_u_ne (by omega)).trans ((z_u_ne (by omega)).trans ((z_u_ne (by omega)).trans (hF4 k k0 k1 k2 k3 k4))))) (wB_u (wB_u (wB_u (wB_u hw4 (by show (-2147483648 : Int) ≤ _ ∧ _ ≤ (2147483647 : Int); omega)) (by show (-2147483648 : Int) ≤ _ ∧ _ ≤ (2147483647 : Int); omega)) (by show (-2147483648 : Int) ≤ _ ∧ _ ≤ (2147483647 : Int); omega)) (by show (-3996 : Int) ≤ _ ∧ _ ≤ (3996 : Int); omega)) rfl (fun i => by show z_u σ4 4 (4 * c + r75) ((σ4 4 (4 * c + r75)) + 1) 4 i = _; unfold z_up; by_cases c9 : i = 4 * c + r75; (rw [c9, if_pos rfl]; exact (congrArg (fun q => z_u σ4 4 q ((σ4 4 (4 * c + r75)) + 1) 4 (4 * c + r75)) (by omega)).trans (z_u_at.trans (by omega))); (rw [if_neg c9]; exact z_u_at' (by omega))) (by omega)
                                · refine z_aload hY eL_isOrdered_172 2 rfl ?_
                                  refine z_const hY eL_isOrdered_173 ?_
                                  refine z_callV (As := [z_i 2]) (rest := []) hY eL_isOrdered_174 (la_next (B := B) (κ := κ) (σ := (z_u (z_u σ4 0 0 X57) 0 0 X59)) hG (gS_X hI) (n := 2) (by omega)) ((gH_at (gS_X hI) (by decide)).trans (congrArg some lC_40)) (by decide) (Nat.le_of_ble_eq_true rfl) (by rw [hmc, hms]; omega) (fun _ _ q => q.elim) (fun vv79 hh79 q79 => ?_)
                                  obtain ⟨r78, X78, rfl, hr78, hX78, rfl⟩ := q79
                                  refine z_goto hY eL_isOrdered_177 ?_
                                  refine z_istore hY eL_isOrdered_185 (ls' := [(7, z_i r78), (6, z_i 1), (5, z_i 1), (0, .ref (A 40)), (1, .ref b), (2, z_i c), (3, z_i (r9 + 1)), (4, z_i t)]) rfl ?_
                                  refine z_aload hY eL_isOrdered_187 3 rfl ?_
                                  refine g_gf hY (gS_X hI) eL_isOrdered_188 (v := .ref (A 4)) rfl ?_
                                  refine z_const hY eL_isOrdered_191 ?_
                                  refine z_iload hY eL_isOrdered_192 5 rfl ?_
                                  refine z_imul hY eL_isOrdered_193 ?_
                                  refine z_iload hY eL_isOrdered_194 0 rfl ?_
                                  refine z_iadd hY eL_isOrdered_196 ?_
                                  refine z_dup2 hY eL_isOrdered_197 rfl rfl ?_
                                  have hb80 := hw4.s4 (4 * c + r78)
                                  refine g_ial hY (gS_X hI) eL_isOrdered_198 (j := 4) (N := 16) (x := σ4 4 (4 * c + r78)) (by decide) rfl (by omega) (Eq.trans (congrFun (z_u_ne (by decide)) _) (Eq.trans (congrFun (z_u_ne (by decide)) _) (congrFun (z_u_ne (by decide)) _))) ?_
                                  refine z_iload hY eL_isOrdered_199 2 rfl ?_
                                  refine z_iload hY eL_isOrdered_201 1 rfl ?_
                                  refine z_imul hY eL_isOrdered_203 ?_
                                  refine z_top (b := 1) (by omega) ?_
                                  refine z_iadd hY eL_isOrdered_204 ?_
                                  refine g_ias hY (gS_X hI) eL_isOrdered_205 (j := 4) (N := 16) (by decide) (fun _ => rfl) (by omega) ?_
                                  refine z_sub [3, 4, 5, 6, 7, 2, 1, 0] (ls' := [(0, .ref (A 40)), (1, .ref b), (2, z_i c), (3, z_i (r9 + 1)), (4, z_i t), (5, z_i 1), (6, z_i 1), (7, z_i r78)]) rfl ?_
                                  have hq4 := h4b (4 * c + r78) (by omega) (by omega)
                                  exact rest206 1 1 r78 (z_u (z_u (z_u (z_u σ4 0 0 X57) 0 0 X59) 0 0 X78) 4 (4 * c + r78) ((σ4 4 (4 * c + r78)) + 1)) (by omega) (by omega) (by omega) (fun k k0 k1 k2 k3 k4 => (z_u_ne (by omega)).trans ((z_u_ne (by omega)).trans ((z_u_ne (by omega)).trans ((z_u_ne (by omega)).trans (hF4 k k0 k1 k2 k3 k4))))) (wB_u (wB_u (wB_u (wB_u hw4 (by show (-2147483648 : Int) ≤ _ ∧ _ ≤ (2147483647 : Int); omega)) (by show (-2147483648 : Int) ≤ _ ∧ _ ≤ (2147483647 : Int); omega)) (by show (-2147483648 : Int) ≤ _ ∧ _ ≤ (2147483647 : Int); omega)) (by show (-3996 : Int) ≤ _ ∧ _ ≤ (3996 : Int); omega)) rfl (fun i => by show z_u σ4 4 (4 * c + r78) ((σ4 4 (4 * c + r78)) + 1) 4 i = _; unfold z_up; by_cases c9 : i = 4 * c + r78; (rw [c9, if_pos rfl]; exact (congrArg (fun q => z_u σ4 4 q ((σ4 4 (4 * c + r78)) + 1) 4 (4 * c + r78)) (by omega)).trans (z_u_at.trans (by omega))); (rw [if_neg c9]; exact z_u_at' (by omega))) (by omega)
                          · refine z_const hY eL_isOrdered_137 ?_
                            refine z_goto hY eL_isOrdered_138 ?_
                            refine z_istore hY eL_isOrdered_142 (ls' := [(5, z_i (-1)), (0, .ref (A 40)), (1, .ref b), (2, z_i c), (3, z_i (r9 + 1)), (4, z_i t)]) rfl ?_
                            refine z_aload hY eL_isOrdered_144 1 rfl ?_
                            refine z_const hY eL_isOrdered_145 ?_
                            refine z_callV (As := [z_i 2]) (rest := []) hY eL_isOrdered_146 (la_next (B := B) (κ := κ) (σ := (z_u σ4 0 0 X57)) hG (gS_X hI) (n := 2) (by omega)) ((gH_at (gS_X hI) (by decide)).trans (congrArg some lC_40)) (by decide) (Nat.le_of_ble_eq_true rfl) (by rw [hmc, hms]; omega) (fun _ _ q => q.elim) (fun vv82 hh82 q82 => ?_)
                            obtain ⟨r81, X81, rfl, hr81, hX81, rfl⟩ := q82
                            refine z_ifne hY eL_isOrdered_149 (by omega) (fun c149 => ?_) (fun c149 => ?_)
                            · refine z_aload hY eL_isOrdered_156 1 rfl ?_
                              refine z_const hY eL_isOrdered_157 ?_
                              refine z_callV (As := [z_i 5]) (rest := []) hY eL_isOrdered_158 (la_next (B := B) (κ := κ) (σ := (z_u (z_u σ4 0 0 X57) 0 0 X81)) hG (gS_X hI) (n := 5) (by omega)) ((gH_at (gS_X hI) (by decide)).trans (congrArg some lC_40)) (by decide) (Nat.le_of_ble_eq_true rfl) (by rw [hmc, hms]; omega) (fun _ _ q => q.elim) (fun vv84 hh84 q84 => ?_)
                              obtain ⟨r83, X83, rfl, hr83, hX83, rfl⟩ := q84
                              refine z_istore hY eL_isOrdered_161 (ls' := [(6, z_i r83), (5, z_i (-1)), (0, .ref (A 40)), (1, .ref b), (2, z_i c), (3, z_i (r9 + 1)), (4, z_i t)]) rfl ?_
                              refine z_iload hY eL_isOrdered_163 4 rfl ?_
                              refine z_ifne hY eL_isOrdered_164 (by omega) (fun c164 => ?_) (fun c164 => ?_)
                              · refine z_aload hY eL_isOrdered_180 2 rfl ?_
                                refine z_const hY eL_isOrdered_181 ?_
                                refine z_callV (As := [z_i 4]) (rest := []) hY eL_isOrdered_182 (la_next (B := B) (κ := κ) (σ := (z_u (z_u (z_u σ4 0 0 X57) 0 0 X81) 0 0 X83)) hG (gS_X hI) (n := 4) (by omega)) ((gH_at (gS_X hI) (by decide)).trans (congrArg some lC_40)) (by decide) (Nat.le_of_ble_eq_true rfl) (by rw [hmc, hms]; omega) (fun _ _ q => q.elim) (fun vv86 hh86 q86 => ?_)
                                obtain ⟨r85, X85, rfl, hr85, hX85, rfl⟩ := q86
                                refine z_istore hY eL_isOrdered_185 (ls' := [(7, z_i r85), (6, z_i r83), (5, z_i (-1)), (0, .ref (A 40)), (1, .ref b), (2, z_i c), (3, z_i (r9 + 1)), (4, z_i t)]) rfl ?_
                                refine z_aload hY eL_isOrdered_187 3 rfl ?_
                                refine g_gf hY (gS_X hI) eL_isOrdered_188 (v := .ref (A 4)) rfl ?_
                                refine z_const hY eL_isOrdered_191 ?_
                                refine z_iload hY eL_isOrdered_192 5 rfl ?_
                                refine z_imul hY eL_isOrdered_193 ?_
                                refine z_iload hY eL_isOrdered_194 0 rfl ?_
                                refine z_iadd hY eL_isOrdered_196 ?_
                                refine z_dup2 hY eL_isOrdered_197 rfl rfl ?_
                                have hb87 := hw4.s4 (4 * c + r85)
                                refine g_ial hY (gS_X hI) eL_isOrdered_198 (j := 4) (N := 16) (x := σ4 4 (4 * c + r85)) (by decide) rfl (by omega) (Eq.trans (congrFun (z_u_ne (by decide)) _) (Eq.trans (congrFun (z_u_ne (by decide)) _) (Eq.trans (congrFun (z_u_ne (by decide)) _) (congrFun (z_u_ne (by decide)) _)))) ?_
                                refine z_iload hY eL_isOrdered_199 2 rfl ?_
                                refine z_iload hY eL_isOrdered_201 1 rfl ?_
                                refine z_imul hY eL_isOrdered_203 ?_
                                refine z_top (b := -r83) (by omega) ?_
                                refine z_iadd hY eL_isOrdered_204 ?_
                                refine z_top (b := (σ4 4 (4 * c + r85)) - r83) (by omega) ?_
                                refine g_ias hY (gS_X hI) eL_isOrdered_205 (j := 4) (N := 16) (by decide) (fun _ => rfl) (by omega) ?_
                                refine z_sub [3, 4, 5, 6, 7, 2, 1, 0] (ls' := [(0, .ref (A 40)), (1, .ref b), (2, z_i c), (3, z_i (r9 + 1)), (4, z_i t), (5, z_i (-1)), (6, z_i r83), (7, z_i r85)]) rfl ?_
                                have hq4 := h4b (4 * c + r85) (by omega) (by omega)
                                exact rest206 (-1) r83 r85 (z_u (z_u (z_u (z_u (z_u σ4 0 0 X57) 0 0 X81) 0 0 X83) 0 0 X85) 4 (4 * c + r85) ((σ4 4 (4 * c + r85)) - r83)) (by omega) (by omega) (by omega) (fun k k0 k1 k2 k3 k4 => (z_u_ne (by omega)).trans ((z_u_ne (by omega)).trans ((z_u_ne (by omega)).trans ((z_u_ne (by omega)).trans ((z_u_ne (by omega)).trans (hF4 k k0 k1 k2 k3 k4)))))) (wB_u (wB_u (wB_u (wB_u (wB_u hw4 (by show (-2147483648 : Int) ≤ _ ∧ _ ≤ (2147483647 : Int); omega)) (by show (-2147483648 : Int) ≤ _ ∧ _ ≤ (2147483647 : Int); omega)) (by show (-2147483648 : Int) ≤ _ ∧ _ ≤ (2147483647 : Int); omega)) (by show (-2147483648 : Int) ≤ _ ∧ _ ≤ (2147483647 : Int); omega)) (by show (-3996 : Int) ≤ _ ∧ _ ≤ (3996 : Int); omega)) rfl (fun i => by show z_u σ4 4 (4 * c + r85) ((σ4 4 (4 * c + r85)) - r83) 4 i = _; unfold z_up; by_cases c9 : i = 4 * c + r85; (rw [c9, if_pos rfl]; exact (congrArg (fun q => z_u σ4 4 q ((σ4 4 (4 * c + r85)) - r83) 4 (4 * c + r85)) (by omega)).trans (z_u_at.trans (by omega))); (rw [if_neg c9]; exact z_u_at' (by omega))) (by omega)
                              · refine z_iload hY eL_isOrdered_167 6 rfl ?_
                                refine z_ifne hY eL_isOrdered_169 (by omega) (fun c169 => ?_) (fun c169 => ?_)
                                · refine z_aload hY eL_isOrdered_180 2 rfl ?_
                                  refine z_const hY eL_isOrdered_181 ?_
                                  refine z_callV (As := [z_i 4]) (rest := []) hY eL_isOrdered_182 (la_next (B := B) (κ := κ) (σ := (z_u (z_u (z_u σ4 0 0 X57) 0 0 X81) 0 0 X83)) hG (gS_X hI) (n := 4) (by omega)) ((gH_at (gS_X hI) (by decide)).trans (congrArg some lC_40)) (by decide) (Nat.le_of_ble_eq_true rfl) (by rw [hmc, hms]; omega) (fun _ _ q => q.elim) (fun vv89 hh89 q89 => ?_)
                                  obtain ⟨r88, X88, rfl, hr88, hX88, rfl⟩ := q89
                                  refine z_istore hY eL_isOrdered_185 (ls' := [(7, z_i r88), (6, z_i r83), (5, z_i (-1)), (0, .ref (A 40)), (1, .ref b), (2, z_i c), (3, z_i (r9 + 1)), (4, z_i t)]) rfl ?_
                                  refine z_aload hY eL_isOrdered_187 3 rfl ?_
                                  refine g_gf hY (gS_X hI) eL_isOrdered_188 (v := .ref (A 4)) rfl ?_
                                  refine z_const hY eL_isOrdered_191 ?_
                                  refine z_iload hY eL_isOrdered_192 5 rfl ?_
                                  refine z_imul hY eL_isOrdered_193 ?_
                                  refine z_iload hY eL_isOrdered_194 0 rfl ?_
                                  refine z_iadd hY eL_isOrdered_196 ?_
                                  refine z_dup2 hY eL_isOrdered_197 rfl rfl ?_
                                  have hb90 := hw4.s4 (4 * c + r88)
                                  refine g_ial hY (gS_X hI) eL_isOrdered_198 (j := 4) (N := 16) (x := σ4 4 (4 * c + r88)) (by decide) rfl (by omega) (Eq.trans (congrFun (z_u_ne (by decide)) _) (Eq.trans (congrFun (z_u_ne (by decide)) _) (Eq.trans (congrFun (z_u_ne (by decide)) _) (congrFun (z_u_ne (by decide)) _)))) ?_
                                  refine z_iload hY eL_isOrdered_199 2 rfl ?_
                                  refine z_iload hY eL_isOrdered_201 1 rfl ?_
                                  refine z_imul hY eL_isOrdered_203 ?_
                                  refine z_top (b := -r83) (by omega) ?_
                                  refine z_iadd hY eL_isOrdered_204 ?_
                                  refine z_top (b := (σ4 4 (4 * c + r88)) - r83) (by omega) ?_
                                  refine g_ias hY (gS_X hI) eL_isOrdered_205 (j := 4) (N := 16) (by decide) (fun _ => rfl) (by omega) ?_
                                  refine z_sub [3, 4, 5, 6, 7, 2, 1, 0] (ls' := [(0, .ref (A 40)), (1, .ref b), (2, z_i c), (3, z_i (r9 + 1)), (4, z_i t), (5, z_i (-1)), (6, z_i r83), (7, z_i r88)]) rfl ?_
                                  have hq4 := h4b (4 * c + r88) (by omega) (by omega)
                                  exact rest206 (-1) r83 r88 (z_u (z_u (z_u (z_u (z_u σ4 0 0 X57) 0 0 X81) 0 0 X83) 0 0 X88) 4 (4 * c + r88) ((σ4 4 (4 * c + r88)) - r83)) (by omega) (by omega) (by omega) (fun k k0 k1 k2 k3 k4 => (z_u_ne (by omega)).trans ((z_u_ne (by omega)).trans ((z_u_ne (by omega)).trans ((z_u_ne (by omega)).trans ((z_u_ne (by omega)).trans (hF4 k k0 k1 k2 k3 k4)))))) (wB_u (wB_u (wB_u (wB_u (wB_u hw4 (by show (-2147483648 : Int) ≤ _ ∧ _ ≤ (2147483647 : Int); omega)) (by show (-2147483648 : Int) ≤ _ ∧ _ ≤ (2147483647 : Int); omega)) (by show (-2147483648 : Int) ≤ _ ∧ _ ≤ (2147483647 : Int); omega)) (by show (-2147483648 : Int) ≤ _ ∧ _ ≤ (2147483647 : Int); omega)) (by show (-3996 : Int) ≤ _ ∧ _ ≤ (3996 : Int); omega)) rfl (fun i => by show z_u σ4 4 (4 * c + r88) ((σ4 4 (4 * c + r88)) - r83) 4 i = _; unfold z_up; by_cases c9 : i = 4 * c + r88; (rw [c9, if_pos rfl]; exact (congrArg (fun q => z_u σ4 4 q ((σ4 4 (4 * c + r88)) - r83) 4 (4 * c + r88)) (by omega)).trans (z_u_at.trans (by omega))); (rw [if_neg c9]; exact z_u_at' (by omega))) (by omega)
                                · refine z_aload hY eL_isOrdered_172 2 rfl ?_
                                  refine z_const hY eL_isOrdered_173 ?_
                                  refine z_callV (As := [z_i 2]) (rest := []) hY eL_isOrdered_174 (la_next (B := B) (κ := κ) (σ := (z_u (z_u (z_u σ4 0 0 X57) 0 0 X81) 0 0 X83)) hG (gS_X hI) (n := 2) (by omega)) ((gH_at (gS_X hI) (by decide)).trans (congrArg some lC_40)) (by decide) (Nat.le_of_ble_eq_true rfl) (by rw [hmc, hms]; omega) (fun _ _ q => q.elim) (fun vv92 hh92 q92 => ?_)
                                  obtain ⟨r91, X91, rfl, hr91, hX91, rfl⟩ := q92
                                  refine z_goto hY eL_isOrdered_177 ?_
                                  refine z_istore hY eL_isOrdered_185 (ls' := [(7, z_i r91), (6, z_i r83), (5, z_i (-1)), (0, .ref (A 40)), (1, .ref b), (2, z_i c), (3, z_i (r9 + 1)), (4, z_i t)]) rfl ?_
                                  refine z_aload hY eL_isOrdered_187 3 rfl ?_
                                  refine g_gf hY (gS_X hI) eL_isOrdered_188 (v := .ref (A 4)) rfl ?_
                                  refine z_const hY eL_isOrdered_191 ?_
                                  refine z_iload hY eL_isOrdered_192 5 rfl ?_
                                  refine z_imul hY eL_isOrdered_193 ?_
                                  refine z_iload hY eL_isOrdered_194 0 rfl ?_
                                  refine z_iadd hY eL_isOrdered_196 ?_
                                  refine z_dup2 hY eL_isOrdered_197 rfl rfl ?_
                                  have hb93 := hw4.s4 (4 * c + r91)
                                  refine g_ial hY (gS_X hI) eL_isOrdered_198 (j := 4) (N := 16) (x := σ4 4 (4 * c + r91)) (by decide) rfl (by omega) (Eq.trans (congrFun (z_u_ne (by decide)) _) (Eq.trans (congrFun (z_u_ne (by decide)) _) (Eq.trans (congrFun (z_u_ne (by decide)) _) (congrFun (z_u_ne (by decide)) _)))) ?_
                                  refine z_iload hY eL_isOrdered_199 2 rfl ?_
                                  refine z_iload hY eL_isOrdered_201 1 rfl ?_
                                  refine z_imul hY eL_isOrdered_203 ?_
                                  refine z_top (b := -r83) (by omega) ?_
                                  refine z_iadd hY eL_isOrdered_204 ?_
                                  refine z_top (b := (σ4 4 (4 * c + r91)) - r83) (by omega) ?_
                                  refine g_ias hY (gS_X hI) eL_isOrdered_205 (j := 4) (N := 16) (by decide) (fun _ => rfl) (by omega) ?_
                                  refine z_sub [3, 4, 5, 6, 7, 2, 1, 0] (ls' := [(0, .ref (A 40)), (1, .ref b), (2, z_i c), (3, z_i (r9 + 1)), (4, z_i t), (5, z_i (-1)), (6, z_i r83), (7, z_i r91)]) rfl ?_
                                  have hq4 := h4b (4 * c + r91) (by omega) (by omega)
                                  exact rest206 (-1) r83 r91 (z_u (z_u (z_u (z_u (z_u σ4 0 0 X57) 0 0 X81) 0 0 X83) 0 0 X91) 4 (4 * c + r91) ((σ4 4 (4 * c + r91)) - r83)) (by omega) (by omega) (by omega) (fun k k0 k1 k2 k3 k4 => (z_u_ne (by omega)).trans ((z_u_ne (by omega)).trans ((z_u_ne (by omega)).trans ((z_u_ne (by omega)).trans ((z_u_ne (by omega)).trans (hF4 k k0 k1 k2 k3 k4)))))) (wB_u (wB_u (wB_u (wB_u (wB_u hw4 (by show (-2147483648 : Int) ≤ _ ∧ _ ≤ (2147483647 : Int); omega)) (by show (-2147483648 : Int) ≤ _ ∧ _ ≤ (2147483647 : Int); omega)) (by show (-2147483648 : Int) ≤ _ ∧ _ ≤ (2147483647 : Int); omega)) (by show (-2147483648 : Int) ≤ _ ∧ _ ≤ (2147483647 : Int); omega)) (by show (-3996 : Int) ≤ _ ∧ _ ≤ (3996 : Int); omega)) rfl (fun i => by show z_u σ4 4 (4 * c + r91) ((σ4 4 (4 * c + r91)) - r83) 4 i = _; unfold z_up; by_cases c9 : i = 4 * c + r91; (rw [c9, if_pos rfl]; exact (congrArg (fun q => z_u σ4 4 q ((σ4 4 (4 * c + r91)) - r83) 4 (4 * c + r91)) (by omega)).trans (z_u_at.trans (by omega))); (rw [if_neg c9]; exact z_u_at' (by omega))) (by omega)
                            · refine z_const hY eL_isOrdered_152 ?_
                              refine z_goto hY eL_isOrdered_153 ?_
                              refine z_istore hY eL_isOrdered_161 (ls' := [(6, z_i 1), (5, z_i (-1)), (0, .ref (A 40)), (1, .ref b), (2, z_i c), (3, z_i (r9 + 1)), (4, z_i t)]) rfl ?_
                              refine z_iload hY eL_isOrdered_163 4 rfl ?_
                              refine z_ifne hY eL_isOrdered_164 (by omega) (fun c164 => ?_) (fun c164 => ?_)
                              · refine z_aload hY eL_isOrdered_180 2 rfl ?_
                                refine z_const hY eL_isOrdered_181 ?_
                                refine z_callV (As := [z_i 4]) (rest := []) hY eL_isOrdered_182 (la_next (B := B) (κ := κ) (σ := (z_u (z_u σ4 0 0 X57) 0 0 X81)) hG (gS_X hI) (n := 4) (by omega)) ((gH_at (gS_X hI) (by decide)).trans (congrArg some lC_40)) (by decide) (Nat.le_of_ble_eq_true rfl) (by rw [hmc, hms]; omega) (fun _ _ q => q.elim) (fun vv95 hh95 q95 => ?_)
                                obtain ⟨r94, X94, rfl, hr94, hX94, rfl⟩ := q95
                                refine z_istore hY eL_isOrdered_185 (ls' := [(7, z_i r94), (6, z_i 1), (5, z_i (-1)), (0, .ref (A 40)), (1, .ref b), (2, z_i c), (3, z_i (r9 + 1)), (4, z_i t)]) rfl ?_
                                refine z_aload hY eL_isOrdered_187 3 rfl ?_
                                refine g_gf hY (gS_X hI) eL_isOrdered_188 (v := .ref (A 4)) rfl ?_
                                refine z_const hY eL_isOrdered_191 ?_
                                refine z_iload hY eL_isOrdered_192 5 rfl ?_
                                refine z_imul hY eL_isOrdered_193 ?_
                                refine z_iload hY eL_isOrdered_194 0 rfl ?_
                                refine z_iadd hY eL_isOrdered_196 ?_
                                refine z_dup2 hY eL_isOrdered_197 rfl rfl ?_
                                have hb96 := hw4.s4 (4 * c + r94)
                                refine g_ial hY (gS_X hI) eL_isOrdered_198 (j := 4) (N := 16) (x := σ4 4 (4 * c + r94)) (by decide) rfl (by omega) (Eq.trans (congrFun (z_u_ne (by decide)) _) (Eq.trans (congrFun (z_u_ne (by decide)) _) (congrFun (z_u_ne (by decide)) _))) ?_
                                refine z_iload hY eL_isOrdered_199 2 rfl ?_
                                refine z_iload hY eL_isOrdered_201 1 rfl ?_
                                refine z_imul hY eL_isOrdered_203 ?_
                                refine z_top (b := (-1)) (by omega) ?_
                                refine z_iadd hY eL_isOrdered_204 ?_
                                refine z_top (b := (σ4 4 (4 * c + r94)) - 1) (by omega) ?_
                                refine g_ias hY (gS_X hI) eL_isOrdered_205 (j := 4) (N := 16) (by decide) (fun _ => rfl) (by omega) ?_
                                refine z_sub [3, 4, 5, 6, 7, 2, 1, 0] (ls' := [(0, .ref (A 40)), (1, .ref b), (2, z_i c), (3, z_i (r9 + 1)), (4, z_i t), (5, z_i (-1)), (6, z_i 1), (7, z_i r94)]) rfl ?_
                                have hq4 := h4b (4 * c + r94) (by omega) (by omega)
                                exact rest206 (-1) 1 r94 (z_u (z_u (z_u (z_u σ4 0 0 X57) 0 0 X81) 0 0 X94) 4 (4 * c + r94) ((σ4 4 (4 * c + r94)) - 1)) (by omega) (by omega) (by omega) (fun k k0 k1 k2 k3 k4 => (z_u_ne (by omega)).trans ((z_u_ne (by omega)).trans ((z_u_ne (by omega)).trans ((z_u_ne (by omega)).trans (hF4 k k0 k1 k2 k3 k4))))) (wB_u (wB_u (wB_u (wB_u hw4 (by show (-2147483648 : Int) ≤ _ ∧ _ ≤ (2147483647 : Int); omega)) (by show (-2147483648 : Int) ≤ _ ∧ _ ≤ (2147483647 : Int); omega)) (by show (-2147483648 : Int) ≤ _ ∧ _ ≤ (2147483647 : Int); omega)) (by show (-3996 : Int) ≤ _ ∧ _ ≤ (3996 : Int); omega)) rfl (fun i => by show z_u σ4 4 (4 * c + r94) ((σ4 4 (4 * c + r94)) - 1) 4 i = _; unfold z_up; by_cases c9 : i = 4 * c + r94; (rw [c9, if_pos rfl]; exact (congrArg (fun q => z_u σ4 4 q ((σ4 4 (4 * c + r94)) - 1) 4 (4 * c + r94)) (by omega)).trans (z_u_at.trans (by omega))); (rw [if_neg c9]; exact z_u_at' (by omega))) (by omega)
                              · refine z_iload hY eL_isOrdered_167 6 rfl ?_
                                refine z_ifne hY eL_isOrdered_169 (by omega) (fun c169 => ?_) (fun c169 => ?_)
                                · refine z_aload hY eL_isOrdered_180 2 rfl ?_
                                  refine z_const hY eL_isOrdered_181 ?_
                                  refine z_callV (As := [z_i 4]) (rest := []) hY eL_isOrdered_182 (la_next (B := B) (κ := κ) (σ := (z_u (z_u σ4 0 0 X57) 0 0 X81)) hG (gS_X hI) (n := 4) (by omega)) ((gH_at (gS_X hI) (by decide)).trans (congrArg some lC_40)) (by decide) (Nat.le_of_ble_eq_true rfl) (by rw [hmc, hms]; omega) (fun _ _ q => q.elim) (fun vv98 hh98 q98 => ?_)
                                  obtain ⟨r97, X97, rfl, hr97, hX97, rfl⟩ := q98
                                  refine z_istore hY eL_isOrdered_185 (ls' := [(7, z_i r97), (6, z_i 1), (5, z_i (-1)), (0, .ref (A 40)), (1, .ref b), (2, z_i c), (3, z_i (r9 + 1)), (4, z_i t)]) rfl ?_
                                  refine z_aload hY eL_isOrdered_187 3 rfl ?_
                                  refine g_gf hY (gS_X hI) eL_isOrdered_188 (v := .ref (A 4)) rfl ?_
                                  refine z_const hY eL_isOrdered_191 ?_
                                  refine z_iload hY eL_isOrdered_192 5 rfl ?_
                                  refine z_imul hY eL_isOrdered_193 ?_
                                  refine z_iload hY eL_isOrdered_194 0 rfl ?_
                                  refine z_iadd hY eL_isOrdered_196 ?_
                                  refine z_dup2 hY eL_isOrdered_197 rfl rfl ?_
                                  have hb99 := hw4.s4 (4 * c + r97)
                                  refine g_ial hY (gS_X hI) eL_isOrdered_198 (j := 4) (N := 16) (x := σ4 4 (4 * c + r97)) (by decide) rfl (by omega) (Eq.trans (congrFun (z_u_ne (by decide)) _) (Eq.trans (congrFun (z_u_ne (by decide)) _) (congrFun (z_u_ne (by decide)) _))) ?_
                                  refine z_iload hY eL_isOrdered_199 2 rfl ?_
                                  refine z_iload hY eL_isOrdered_201 1 rfl ?_
                                  refine z_imul hY eL_isOrdered_203 ?_
                                  refine z_top (b := (-1)) (by omega) ?_
                                  refine z_iadd hY eL_isOrdered_204 ?_
                                  refine z_top (b := (σ4 4 (4 * c + r97)) - 1) (by omega) ?_
                                  refine g_ias hY (gS_X hI) eL_isOrdered_205 (j := 4) (N := 16) (by decide) (fun _ => rfl) (by omega) ?_
                                  refine z_sub [3, 4, 5, 6, 7, 2, 1, 0] (ls' := [(0, .ref (A 40)), (1, .ref b), (2, z_i c), (3, z_i (r9 + 1)), (4, z_i t), (5, z_i (-1)), (6, z_i 1), (7, z_i r97)]) rfl ?_
                                  have hq4 := h4b (4 * c + r97) (by omega) (by omega)
                                  exact rest206 (-1) 1 r97 (z_u (z_u (z_u (z_u σ4 0 0 X57) 0 0 X81) 0 0 X97) 4 (4 * c + r97) ((σ4 4 (4 * c + r97)) - 1)) (by omega) (by omega) (by omega) (fun k k0 k1 k2 k3 k4 => (z_u_ne (by omega)).trans ((z_u_ne (by omega)).trans ((z_u_ne (by omega)).trans ((z_u_ne (by omega)).trans (hF4 k k0 k1 k2 k3 k4))))) (wB_u (wB_u (wB_u (wB_u hw4 (by show (-2147483648 : Int) ≤ _ ∧ _ ≤ (2147483647 : Int); omega)) (by show (-2147483648 : Int) ≤ _ ∧ _ ≤ (2147483647 : Int); omega)) (by show (-2147483648 : Int) ≤ _ ∧ _ ≤ (2147483647 : Int); omega)) (by show (-3996 : Int) ≤ _ ∧ _ ≤ (3996 : Int); omega)) rfl (fun i => by show z_u σ4 4 (4 * c + r97) ((σ4 4 (4 * c + r97)) - 1) 4 i = _; unfold z_up; by_cases c9 : i = 4 * c + r97; (rw [c9, if_pos rfl]; exact (congrArg (fun q => z_u σ4 4 q ((σ4 4 (4 * c + r97)) - 1) 4 (4 * c + r97)) (by omega)).trans (z_u_at.trans (by omega))); (rw [if_neg c9]; exact z_u_at' (by omega))) (by omega)
                                · refine z_aload hY eL_isOrdered_172 2 rfl ?_
                                  refine z_const hY eL_isOrdered_173 ?_
                                  refine z_callV (As := [z_i 2]) (rest := []) hY eL_isOrdered_174 (la_next (B := B) (κ := κ) (σ := (z_u (z_u σ4 0 0 X57) 0 0 X81)) hG (gS_X hI) (n := 2) (by omega)) ((gH_at (gS_X hI) (by decide)).trans (congrArg some lC_40)) (by decide) (Nat.le_of_ble_eq_true rfl) (by rw [hmc, hms]; omega) (fun _ _ q => q.elim) (fun vv101 hh101 q101 => ?_)
                                  obtain ⟨r100, X100, rfl, hr100, hX100, rfl⟩ := q101
                                  refine z_goto hY eL_isOrdered_177 ?_
                                  refine z_istore hY eL_isOrdered_185 (ls' := [(7, z_i r100), (6, z_i 1), (5, z_i (-1)), (0, .ref (A 40)), (1, .ref b), (2, z_i c), (3, z_i (r9 + 1)), (4, z_i t)]) rfl ?_
                                  refine z_aload hY eL_isOrdered_187 3 rfl ?_
                                  refine g_gf hY (gS_X hI) eL_isOrdered_188 (v := .ref (A 4)) rfl ?_
                                  refine z_const hY eL_isOrdered_191 ?_
                                  refine z_iload hY eL_isOrdered_192 5 rfl ?_
                                  refine z_imul hY eL_isOrdered_193 ?_
                                  refine z_iload hY eL_isOrdered_194 0 rfl ?_
                                  refine z_iadd hY eL_isOrdered_196 ?_
                                  refine z_dup2 hY eL_isOrdered_197 rfl rfl ?_
                                  have hb102 := hw4.s4 (4 * c + r100)
                                  refine g_ial hY (gS_X hI) eL_isOrdered_198 (j := 4) (N := 16) (x := σ4 4 (4 * c + r100)) (by decide) rfl (by omega) (Eq.trans (congrFun (z_u_ne (by decide)) _) (Eq.trans (congrFun (z_u_ne (by decide)) _) (congrFun (z_u_ne (by decide)) _))) ?_
                                  refine z_iload hY eL_isOrdered_199 2 rfl ?_
                                  refine z_iload hY eL_isOrdered_201 1 rfl ?_
                                  refine z_imul hY eL_isOrdered_203 ?_
                                  refine z_top (b := (-1)) (by omega) ?_
                                  refine z_iadd hY eL_isOrdered_204 ?_
                                  refine z_top (b := (σ4 4 (4 * c + r100)) - 1) (by omega) ?_
                                  refine g_ias hY (gS_X hI) eL_isOrdered_205 (j := 4) (N := 16) (by decide) (fun _ => rfl) (by omega) ?_
                                  refine z_sub [3, 4, 5, 6, 7, 2, 1, 0] (ls' := [(0, .ref (A 40)), (1, .ref b), (2, z_i c), (3, z_i (r9 + 1)), (4, z_i t), (5, z_i (-1)), (6, z_i 1), (7, z_i r100)]) rfl ?_
                                  have hq4 := h4b (4 * c + r100) (by omega) (by omega)
                                  exact rest206 (-1) 1 r100 (z_u (z_u (z_u (z_u σ4 0 0 X57) 0 0 X81) 0 0 X100) 4 (4 * c + r100) ((σ4 4 (4 * c + r100)) - 1)) (by omega) (by omega) (by omega) (fun k k0 k1 k2 k3 k4 => (z_u_ne (by omega)).trans ((z_u_ne (by omega)).trans ((z_u_ne (by omega)).trans ((z_u_ne (by omega)).trans (hF4 k k0 k1 k2 k3 k4))))) (wB_u (wB_u (wB_u (wB_u hw4 (by show (-2147483648 : Int) ≤ _ ∧ _ ≤ (2147483647 : Int); omega)) (by show (-2147483648 : Int) ≤ _ ∧ _ ≤ (2147483647 : Int); omega)) (by show (-2147483648 : Int) ≤ _ ∧ _ ≤ (2147483647 : Int); omega)) (by show (-3996 : Int) ≤ _ ∧ _ ≤ (3996 : Int); omega)) rfl (fun i => by show z_u σ4 4 (4 * c + r100) ((σ4 4 (4 * c + r100)) - 1) 4 i = _; unfold z_up; by_cases c9 : i = 4 * c + r100; (rw [c9, if_pos rfl]; exact (congrArg (fun q => z_u σ4 4 q ((σ4 4 (4 * c + r100)) - 1) 4 (4 * c + r100)) (by omega)).trans (z_u_at.trans (by omega))); (rw [if_neg c9]; exact z_u_at' (by omega))) (by omega)
                  refine z_widen (k' := (10 + 40 * c.toNat + 4 + 10 * (0 : Int).toNat)) (n' := (100 + 9000 * c.toNat + 1000 + 2600 * (0 : Int).toNat)) (by omega) (by omega) ?_
                  exact lp118 _ 0 ((n + 2) + 1) (sbC (sbC f n (fun i => if i = 0 then 59 else 32)) (n + 2) (fun _ => 60)) a8 (z_u σ2 0 0 X9) hh8 (Nat.lt_succ_self _) (by omega) (fun k k0 k1 k2 k3 k4 => (z_u_ne (by omega)).trans (hF2 k k0 k1 k2 k3 k4)) (wB_u hw2 (by show (-2147483648 : Int) ≤ _ ∧ _ ≤ (2147483647 : Int); omega)) rfl (fun i i0 i1 => h42 i i0 i1) (fun i i0 i1 => by have z : (z_u σ2 0 0 X9) 4 i = 0 := h40 i i0 (by omega); rw [z]; omega) hsb8 hxa8 (by omega) hfbD (Or.inl ⟨rfl, hiD⟩)
                · refine z_ldcS hY hSB eL_isOrdered_77 kO_81 (fun s103 hk103 => ?_)
                  refine z_goto hY eL_isOrdered_79 ?_
                  have hup104 := sbS_up (D := D) (σ := σ2) hsb hxb hxa
                  refine z_callV (As := [.ref s103]) (rest := []) hY eL_isOrdered_84 (sb_appS (w := 0) (g := (fun _ => 0)) hG hSB hup104 (sbT_c hk103 (by decide) (fun i hi => absurd hi (by omega))) (by omega)) (show gH D B κ A σ2 h1 b = some (z_ob 10 _) from hup104.choose_spec.choose_spec.choose_spec.1) (by decide) (Nat.le_of_ble_eq_true rfl) (by rw [hmc, hms]; omega) (fun _ _ q => q.elim) (fun vv104 hh104 q104 => ?_)
                  obtain ⟨a104, rfl, hsb104, hor104, hfr104⟩ := q104
                  have hgh104 := gH_fr (gS_J hI) (gS_X hI) hxb hxa hfr104
                  have hxa104 := sbX_or (gS_J hI) (gS_X hI) hxa hor104
                  refine z_heq hgh104.symm ?_
                  refine z_aload hY eL_isOrdered_87 0 rfl ?_
                  refine g_gf hY (gS_X hI) eL_isOrdered_88 (v := .ref (A 8)) rfl ?_
                  refine z_iload hY eL_isOrdered_91 2 rfl ?_
                  refine g_bal hY (gS_X hI) eL_isOrdered_92 (j := 8) (N := 4) (x := 0) (by decide) rfl (by omega) ((congrFun hs8 c).trans z_u_at) ?_
                  refine z_ifeq hY eL_isOrdered_93 (by omega) (fun _ => ?_) (fun c => absurd c (by omega))
                  refine z_const hY eL_isOrdered_101 ?_
                  have hup105 := sbS_up (D := D) (σ := σ2) hsb104 hxb hxa104
                  refine z_callV (As := [z_i 60]) (rest := []) hY eL_isOrdered_103 (sb_appC (c := 60) hG hSB hup105 (by omega) (by omega)) (show gH D B κ A σ2 hh104 b = some (z_ob 10 _) from hup105.choose_spec.choose_spec.choose_spec.1) (by decide) (Nat.le_of_ble_eq_true rfl) (by rw [hmc, hms]; omega) (fun _ _ q => q.elim) (fun vv105 hh105 q105 => ?_)
                  obtain ⟨a105, rfl, hsb105, hor105, hfr105⟩ := q105
                  have hgh105 := gH_fr (gS_J hI) (gS_X hI) hxb hxa104 hfr105
                  have hxa105 := sbX_or (gS_J hI) (gS_X hI) hxa104 hor105
                  refine z_heq hgh105.symm ?_
                  refine z_pop hY eL_isOrdered_106 rfl ?_
                  refine z_const hY eL_isOrdered_107 ?_
                  refine z_aload hY eL_isOrdered_108 0 rfl ?_
                  refine z_const hY eL_isOrdered_109 ?_
                  refine z_callV (As := [z_i 3]) (rest := [z_i 1]) hY eL_isOrdered_110 (la_next (B := B) (κ := κ) (σ := σ2) hG (gS_X hI) (n := 3) (by omega)) ((gH_at (gS_X hI) (by decide)).trans (congrArg some lC_40)) (by decide) (Nat.le_of_ble_eq_true rfl) (by rw [hmc, hms]; omega) (fun _ _ q => q.elim) (fun vv107 hh107 q107 => ?_)
                  obtain ⟨r106, X106, rfl, hr106, hX106, rfl⟩ := q107
                  refine z_iadd hY eL_isOrdered_113 ?_
                  refine z_top (b := r106 + 1) (by omega) ?_
                  refine z_istore hY eL_isOrdered_114 (ls' := [(3, z_i (r106 + 1)), (0, .ref (A 40)), (1, .ref b), (2, z_i c)]) rfl ?_
                  refine z_const hY eL_isOrdered_115 ?_
                  refine z_istore hY eL_isOrdered_116 (ls' := [(4, z_i 0), (3, z_i (r106 + 1)), (0, .ref (A 40)), (1, .ref b), (2, z_i c)]) rfl ?_
                  have hdd := sb_d0 (f := f) (n := n) (d := 60) (g := fun _ => 0)
                  have hiD : iD (sbC (sbC f n (fun _ => 0)) (n + 0) (fun _ => 60)) ((n + 0) + 1) c ((z_u σ2 0 0 X106) 4) ((z_u σ2 0 0 X106) 8) := iC_d (g := 0) hiC (by omega) (by omega) (by omega) (by rw [if_pos (by omega)]; omega) hdd.1 (by rw [if_pos (by omega)]; exact hdd.2) (fun i i0 i1 => h40 i i0 (by omega)) (fun i i0 i1 => h42 i i0 i1) (fun j j0 j1 => (congrFun hs8 j).trans (z_u_at' (by omega))) ((congrFun hs8 c).trans z_u_at)
                  have hfbD : ∀ i, 0 ≤ i → i < ((n + 0) + 1) → 1 ≤ (sbC (sbC f n (fun _ => 0)) (n + 0) (fun _ => 60)) i ∧ (sbC (sbC f n (fun _ => 0)) (n + 0) (fun _ => 60)) i ≤ 127 := sb_bd (sb_bd hfb (fun i i0 i1 => by omega)) (fun i i0 i1 => by show 1 ≤ (60 : Int) ∧ (60 : Int) ≤ 127; omega)
                  refine z_sub [2, 3, 4, 1, 0] (ls' := [(0, .ref (A 40)), (1, .ref b), (2, z_i c), (3, z_i (r106 + 1)), (4, z_i 0)]) rfl ?_
                  have lp118 : ∀ (fu : Nat) (t : Int) (n4 : Int) (f4 : Int → Int) (a4 : Nat) (σ4 : z_S) (h4 : z_H), ((r106 + 1) - t).toNat < fu → (0 ≤ t ∧ t ≤ (r106 + 1)) → (∀ k, k ≠ 0 → k ≠ 6 → k ≠ 20 → k ≠ 4 → k ≠ 8 → σ4 k = σ3 k) → (wB σ4) → (σ4 8 = (z_u σ2 0 0 X106) 8) → (∀ i, 0 ≤ i → i < 4 * c → σ4 4 i = σ1 4 i) → (∀ i, 4 * c ≤ i → i < 4 * c + 4 → -(4 * t) ≤ σ4 4 i ∧ σ4 4 i ≤ 4 * t) → (sbS h4 b a4 n4 f4) → (sbX B κ A a4) → (0 ≤ n4 ∧ n4 ≤ 18 * c + 3 + 5 * t) → (∀ i, 0 ≤ i → i < n4 → 1 ≤ f4 i ∧ f4 i ≤ 127) → ((t = 0 ∧ iD f4 n4 c (σ4 4) (σ4 8)) ∨ (1 ≤ t ∧ iT f4 n4 c t (σ4 4) (σ4 8))) → z_W Y 118 [(0, .ref (A 40)), (1, .ref b), (2, z_i c), (3, z_i (r106 + 1)), (4, z_i t)] [] (gH D B κ A σ4 h4) (10 + 40 * c.toNat + 4 + 10 * t.toNat) (100 + 9000 * c.toNat + 1000 + 2600 * t.toNat) := by
                    intro fu
                    induction fu with
                    | zero => intro t n4 f4 a4 σ4 h4 hf; exact absurd hf (Nat.not_lt_zero _)
                    | succ fu ih118 =>
                      intro t n4 f4 a4 σ4 h4 hf ht hF4 hw4 hs84 h4lt h4b hsb4 hxa4 hn4 hfb4 hiT
                      have rest206 : ∀ (s x k : Int) (σ5 : z_S), ((t = 0 ∧ s = 1) ∨ (1 ≤ t ∧ (s = 1 ∨ s = -1))) → (0 ≤ x ∧ x ≤ 4) → (0 ≤ k ∧ k ≤ 3) → (∀ k, k ≠ 0 → k ≠ 6 → k ≠ 20 → k ≠ 4 → k ≠ 8 → σ5 k = σ3 k) → (wB σ5) → (σ5 8 = σ4 8) → (∀ i, σ5 4 i = z_up (σ4 4) (4 * c + k) (σ4 4 (4 * c + k) + s * x) i) → (t < (r106 + 1)) → z_W Y 206 [(0, .ref (A 40)), (1, .ref b), (2, z_i c), (3, z_i (r106 + 1)), (4, z_i t), (5, z_i s), (6, z_i x), (7, z_i k)] [] (gH D B κ A σ5 h4) (10 + 40 * c.toNat + 4 + 10 * t.toNat) (100 + 9000 * c.toNat + 1000 + 2600 * t.toNat) := by
                        intro s x k σ5 hsx hxx hkk hF5 hw5 h58 h54 htT
                        have hsm := m_pr (a := s) (b := x) (F := 1) (S := 4) (by omega) (by omega) (by omega) (by omega)
                        refine z_aload hY eL_isOrdered_206 1 rfl ?_
                        refine z_iload hY eL_isOrdered_207 4 rfl ?_
                        refine z_ifne hY eL_isOrdered_209 (by omega) (fun c209 => ?_) (fun c209 => ?_)
                        · refine z_iload hY eL_isOrdered_217 5 rfl ?_
                          refine z_ifge hY eL_isOrdered_219 (by omega) (fun c219 => ?_) (fun c219 => ?_)
                          · refine z_ldcS hY hSB eL_isOrdered_227 kO_94 (fun s108 hk108 => ?_)
                            have hup109 := sbS_up (D := D) (σ := σ5) hsb4 hxb hxa4
                            refine z_callV (As := [.ref s108]) (rest := []) hY eL_isOrdered_229 (sb_appS (w := 1) (g := (fun _ => 43)) hG hSB hup109 (sbT_c hk108 (by decide) (fun i hi => by rcases (show i = 0 by omega) with rfl; rfl)) (by omega)) (show gH D B κ A σ5 h4 b = some (z_ob 10 _) from hup109.choose_spec.choose_spec.choose_spec.1) (by decide) (Nat.le_of_ble_eq_true rfl) (by rw [hmc, hms]; omega) (fun _ _ q => q.elim) (fun vv109 hh109 q109 => ?_)
                            obtain ⟨a109, rfl, hsb109, hor109, hfr109⟩ := q109
                            have hgh109 := gH_fr (gS_J hI) (gS_X hI) hxb hxa4 hfr109
                            have hxa109 := sbX_or (gS_J hI) (gS_X hI) hxa4 hor109
                            refine z_heq hgh109.symm ?_
                            refine z_iload hY eL_isOrdered_232 6 rfl ?_
                            refine z_const hY eL_isOrdered_234 ?_
                            refine z_icmpne hY eL_isOrdered_235 (by omega) (fun c235 => ?_) (fun c235 => ?_)
                            · refine sb_temp hY hG hSB (q := 6) rfl (by omega) (Nat.le_of_ble_eq_true rfl) (by rw [hmc, hms]; omega) (fun s9 H9 hT9 hF9 => ?_)
                              have hgq := gH_mono (gS_J hI) (gS_X hI) hF9
                              have hsq := sbS_mono (sbS_up (D := D) (σ := σ5) hsb109 hxb hxa109) hF9
                              refine z_heq hgq.symm ?_
                              have hup111 := sbS_up (D := D) (σ := σ5) hsq hxb hxa109
                              refine z_callV (As := [.ref s9]) (rest := []) hY eL_isOrdered_263 (sb_appS (w := 3) (g := (sbC (sbC (fun _ => 0) 0 (fun _ => 48 + x)) 1 (fun i => if i = 0 then 32 else 42))) hG hSB hup111 (by rw [hgq]; exact hT9) (by omega)) (show gH D B κ A σ5 H9 b = some (z_ob 10 _) from hup111.choose_spec.choose_spec.choose_spec.1) (by decide) (Nat.le_of_ble_eq_true rfl) (by rw [hmc, hms]; omega) (fun _ _ q => q.elim) (fun vv111 hh111 q111 => ?_)
                              obtain ⟨a111, rfl, hsb111, hor111, hfr111⟩ := q111
                              have hgh111 := gH_fr (gS_J hI) (gS_X hI) hxb hxa109 hfr111
                              have hxa111 := sbX_or (gS_J hI) (gS_X hI) hxa109 hor111
                              refine z_heq hgh111.symm ?_
                              refine z_const hY eL_isOrdered_266 ?_
                              refine z_iload hY eL_isOrdered_268 7 rfl ?_
                              refine z_iadd hY eL_isOrdered_270 ?_
                              refine z_top (b := k + 97) (by omega) ?_
                              refine z_i2c hY eL_isOrdered_271 (by omega) ?_
                              have hup112 := sbS_up (D := D) (σ := σ5) hsb111 hxb hxa111
                              refine z_callV (As := [z_i (k + 97)]) (rest := []) hY eL_isOrdered_272 (sb_appC (c := (k + 97)) hG hSB hup112 (by omega) (by omega)) (show gH D B κ A σ5 hh111 b = some (z_ob 10 _) from hup112.choose_spec.choose_spec.choose_spec.1) (by decide) (Nat.le_of_ble_eq_true rfl) (by rw [hmc, hms]; omega) (fun _ _ q => q.elim) (fun vv112 hh112 q112 => ?_)
                              obtain ⟨a112, rfl, hsb112, hor112, hfr112⟩ := q112
                              have hgh112 := gH_fr (gS_J hI) (gS_X hI) hxb hxa111 hfr112
                              have hxa112 := sbX_or (gS_J hI) (gS_X hI) hxa111 hor112
                              refine z_heq hgh112.symm ?_
                              refine z_pop hY eL_isOrdered_275 rfl ?_
                              refine z_iinc hY eL_isOrdered_276 4 rfl (ls' := [(4, z_i (t + 1)), (0, .ref (A 40)), (1, .ref b), (2, z_i c), (3, z_i (r106 + 1)), (5, z_i s), (6, z_i x), (7, z_i k)]) rfl ?_
                              refine z_goto hY eL_isOrdered_279 ?_
                              have h3 := sb3 (f := f4) (g1 := (fun _ => 43)) (g2 := (sbC (sbC (fun _ => 0) 0 (fun _ => 48 + x)) 1 (fun i => if i = 0 then 32 else 42))) (n := n4) (w1 := 1) (w2 := 3) (d := k + 97) (by decide) (by decide)
                              have hxw : x ≠ 1 := by omega
                              have hlt5 : ∀ i, 0 ≤ i → i < 4 * c → σ5 4 i = σ1 4 i := fun i i0 i1 => (h54 i).trans ((if_neg (by omega)).trans (h4lt i i0 i1))
                              have hb5 : ∀ i, 4 * c ≤ i → i < 4 * c + 4 → -(4 * (t + 1)) ≤ σ5 4 i ∧ σ5 4 i ≤ 4 * (t + 1) := fun i i0 i1 => by rw [h54 i]; unfold z_up; have z9 := h4b i i0 i1; split; (have z8 := h4b (4 * c + k) (by omega) (by omega); omega); omega
                              have hfb5 : ∀ i, 0 ≤ i → i < (((n4 + 1) + 3) + 1) → 1 ≤ (sbC (sbC (sbC f4 n4 (fun _ => 43)) (n4 + 1) (sbC (sbC (fun _ => 0) 0 (fun _ => 48 + x)) 1 (fun i => if i = 0 then 32 else 42))) ((n4 + 1) + 3) (fun _ => (k + 97))) i ∧ (sbC (sbC (sbC f4 n4 (fun _ => 43)) (n4 + 1) (sbC (sbC (fun _ => 0) 0 (fun _ => 48 + x)) 1 (fun i => if i = 0 then 32 else 42))) ((n4 + 1) + 3) (fun _ => (k + 97))) i ≤ 127 := sb_bd (sb_bd (sb_bd hfb4 (fun i i0 i1 => by first | omega | (show 1 ≤ (45 : Int) ∧ (45 : Int) ≤ 127; omega) | (show 1 ≤ (43 : Int) ∧ (43 : Int) ≤ 127; omega))) (fun i i0 i1 => by first | omega | (rcases (show i = 0 ∨ i = 1 ∨ i = 2 by omega) with rfl | rfl | rfl; (show 1 ≤ 48 + x ∧ 48 + x ≤ 127; omega); (show 1 ≤ (32 : Int) ∧ (32 : Int) ≤ 127; omega); (show 1 ≤ (42 : Int) ∧ (42 : Int) ≤ 127; omega)))) (fun i i0 i1 => by show 1 ≤ k + 97 ∧ k + 97 ≤ 127; omega)
                              have htr : trT (sbC (sbC (sbC f4 n4 (fun _ => 43)) (n4 + 1) (sbC (sbC (fun _ => 0) 0 (fun _ => 48 + x)) 1 (fun i => if i = 0 then 32 else 42))) ((n4 + 1) + 3) (fun _ => (k + 97))) (n4 + 1) x k := by unfold trT; rw [if_neg hxw]; exact ⟨(congrArg (sbC (sbC (sbC f4 n4 (fun _ => 43)) (n4 + 1) (sbC (sbC (fun _ => 0) 0 (fun _ => 48 + x)) 1 (fun i => if i = 0 then 32 else 42))) ((n4 + 1) + 3) (fun _ => (k + 97))) (show n4 + 1 = n4 + 1 + 0 by omega)).trans (h3.2.2.1 0 (by omega) (by omega)), h3.2.2.1 1 (by omega) (by omega), h3.2.2.1 2 (by omega) (by omega), h3.2.2.2.trans (by omega)⟩
                              have htl : trL x = 4 := by unfold trL; exact if_neg hxw
                              have hiT4 := iT_t (s := s) (hiT.resolve_left (by omega)).2 (by omega) (by omega) (by omega) (by omega) hxx hkk (fun i i0 i1 => h3.1 i i0 i1) ((congrArg (sbC (sbC (sbC f4 n4 (fun _ => 43)) (n4 + 1) (sbC (sbC (fun _ => 0) 0 (fun _ => 48 + x)) 1 (fun i => if i = 0 then 32 else 42))) ((n4 + 1) + 3) (fun _ => (k + 97))) (show n4 = n4 + 0 by omega)).trans ((h3.2.1 0 (by omega) (by omega)).trans (by first | omega | (show (45 : Int) = _; omega) | (show (43 : Int) = _; omega)))) htr
                              have hiT5 : iT (sbC (sbC (sbC f4 n4 (fun _ => 43)) (n4 + 1) (sbC (sbC (fun _ => 0) 0 (fun _ => 48 + x)) 1 (fun i => if i = 0 then 32 else 42))) ((n4 + 1) + 3) (fun _ => (k + 97))) (((n4 + 1) + 3) + 1) c (t + 1) (σ5 4) (σ5 8) := by rw [h58, show (((n4 + 1) + 3) + 1) = n4 + 1 + trL x by omega]; exact iT_f hiT4 (fun i i0 i1 => h54 i)
                              refine z_sub [1, 2, 3, 4, 0] (ls' := [(0, .ref (A 40)), (1, .ref b), (2, z_i c), (3, z_i (r106 + 1)), (4, z_i (t + 1))]) rfl ?_
                              refine z_widen (k' := (10 + 40 * c.toNat + 4 + 10 * (t + 1).toNat)) (n' := (100 + 9000 * c.toNat + 1000 + 2600 * (t + 1).toNat)) (by omega) (by omega) ?_
                              exact ih118 (t + 1) (((n4 + 1) + 3) + 1) (sbC (sbC (sbC f4 n4 (fun _ => 43)) (n4 + 1) (sbC (sbC (fun _ => 0) 0 (fun _ => 48 + x)) 1 (fun i => if i = 0 then 32 else 42))) ((n4 + 1) + 3) (fun _ => (k + 97))) a112 σ5 hh112 (by omega) (by omega) hF5 hw5 (h58.trans hs84) hlt5 hb5 hsb112 hxa112 (by omega) hfb5 (Or.inr ⟨by omega, hiT5⟩)
                            · refine z_ldcS hY hSB eL_isOrdered_238 kO_81 (fun s113 hk113 => ?_)
                              refine z_goto hY eL_isOrdered_240 ?_
                              have hup114 := sbS_up (D := D) (σ := σ5) hsb109 hxb hxa109
                              refine z_callV (As := [.ref s113]) (rest := []) hY eL_isOrdered_263 (sb_appS (w := 0) (g := (fun _ => 0)) hG hSB hup114 (sbT_c hk113 (by decide) (fun i hi => absurd hi (by omega))) (by omega)) (show gH D B κ A σ5 hh109 b = some (z_ob 10 _) from hup114.choose_spec.choose_spec.choose_spec.1) (by decide) (Nat.le_of_ble_eq_true rfl) (by rw [hmc, hms]; omega) (fun _ _ q => q.elim) (fun vv114 hh114 q114 => ?_)
                              obtain ⟨a114, rfl, hsb114, hor114, hfr114⟩ := q114
                              have hgh114 := gH_fr (gS_J hI) (gS_X hI) hxb hxa109 hfr114
                              have hxa114 := sbX_or (gS_J hI) (gS_X hI) hxa109 hor114
                              refine z_heq hgh114.symm ?_
                              refine z_const hY eL_isOrdered_266 ?_
                              refine z_iload hY eL_isOrdered_268 7 rfl ?_
                              refine z_iadd hY eL_isOrdered_270 ?_
                              refine z_top (b := k + 97) (by omega) ?_
                              refine z_i2c hY eL_isOrdered_271 (by omega) ?_
                              have hup115 := sbS_up (D := D) (σ := σ5) hsb114 hxb hxa114
                              refine z_callV (As := [z_i (k + 97)]) (rest := []) hY eL_isOrdered_272 (sb_appC (c := (k + 97)) hG hSB hup115 (by omega) (by omega)) (show gH D B κ A σ5 hh114 b = some (z_ob 10 _) from hup115.choose_spec.choose_spec.choose_spec.1) (by decide) (Nat.le_of_ble_eq_true rfl) (by rw [hmc, hms]; omega) (fun _ _ q => q.elim) (fun vv115 hh115 q115 => ?_)
                              obtain ⟨a115, rfl, hsb115, hor115, hfr115⟩ := q115
                              have hgh115 := gH_fr (gS_J hI) (gS_X hI) hxb hxa114 hfr115
                              have hxa115 := sbX_or (gS_J hI) (gS_X hI) hxa114 hor115
                              refine z_heq hgh115.symm ?_
                              refine z_pop hY eL_isOrdered_275 rfl ?_
                              refine z_iinc hY eL_isOrdered_276 4 rfl (ls' := [(4, z_i (t + 1)), (0, .ref (A 40)), (1, .ref b), (2, z_i c), (3, z_i (r106 + 1)), (5, z_i s), (6, z_i x), (7, z_i k)]) rfl ?_
                              refine z_goto hY eL_isOrdered_279 ?_
                              have h3 := sb3 (f := f4) (g1 := (fun _ => 43)) (g2 := (fun _ => 0)) (n := n4) (w1 := 1) (w2 := 0) (d := k + 97) (by decide) (by decide)
                              have hxw : x = 1 := by omega
                              have hlt5 : ∀ i, 0 ≤ i → i < 4 * c → σ5 4 i = σ1 4 i := fun i i0 i1 => (h54 i).trans ((if_neg (by omega)).trans (h4lt i i0 i1))
                              have hb5 : ∀ i, 4 * c ≤ i → i < 4 * c + 4 → -(4 * (t + 1)) ≤ σ5 4 i ∧ σ5 4 i ≤ 4 * (t + 1) := fun i i0 i1 => by rw [h54 i]; unfold z_up; have z9 := h4b i i0 i1; split; (have z8 := h4b (4 * c + k) (by omega) (by omega); omega); omega
                              have hfb5 : ∀ i, 0 ≤ i → i < (((n4 + 1) + 0) + 1) → 1 ≤ (sbC (sbC (sbC f4 n4 (fun _ => 43)) (n4 + 1) (fun _ => 0)) ((n4 + 1) + 0) (fun _ => (k + 97))) i ∧ (sbC (sbC (sbC f4 n4 (fun _ => 43)) (n4 + 1) (fun _ => 0)) ((n4 + 1) + 0) (fun _ => (k + 97))) i ≤ 127 := sb_bd (sb_bd (sb_bd hfb4 (fun i i0 i1 => by first | omega | (show 1 ≤ (45 : Int) ∧ (45 : Int) ≤ 127; omega) | (show 1 ≤ (43 : Int) ∧ (43 : Int) ≤ 127; omega))) (fun i i0 i1 => by first | omega | (rcases (show i = 0 ∨ i = 1 ∨ i = 2 by omega) with rfl | rfl | rfl; (show 1 ≤ 48 + x ∧ 48 + x ≤ 127; omega); (show 1 ≤ (32 : Int) ∧ (32 : Int) ≤ 127; omega); (show 1 ≤ (42 : Int) ∧ (42 : Int) ≤ 127; omega)))) (fun i i0 i1 => by show 1 ≤ k + 97 ∧ k + 97 ≤ 127; omega)
                              have htr : trT (sbC (sbC (sbC f4 n4 (fun _ => 43)) (n4 + 1) (fun _ => 0)) ((n4 + 1) + 0) (fun _ => (k + 97))) (n4 + 1) x k := by unfold trT; rw [if_pos hxw]; exact (congrArg (sbC (sbC (sbC f4 n4 (fun _ => 43)) (n4 + 1) (fun _ => 0)) ((n4 + 1) + 0) (fun _ => (k + 97))) (show n4 + 1 = n4 + 1 + 0 by omega)).trans (h3.2.2.2.trans (by omega))
                              have htl : trL x = 1 := by unfold trL; exact if_pos hxw
                              have hiT4 := iT_t (s := s) (hiT.resolve_left (by omega)).2 (by omega) (by omega) (by omega) (by omega) hxx hkk (fun i i0 i1 => h3.1 i i0 i1) ((congrArg (sbC (sbC (sbC f4 n4 (fun _ => 43)) (n4 + 1) (fun _ => 0)) ((n4 + 1) + 0) (fun _ => (k + 97))) (show n4 = n4 + 0 by omega)).trans ((h3.2.1 0 (by omega) (by omega)).trans (by first | omega | (show (45 : Int) = _; omega) | (show (43 : Int) = _; omega)))) htr
                              have hiT5 : iT (sbC (sbC (sbC f4 n4 (fun _ => 43)) (n4 + 1) (fun _ => 0)) ((n4 + 1) + 0) (fun _ => (k + 97))) (((n4 + 1) + 0) + 1) c (t + 1) (σ5 4) (σ5 8) := by rw [h58, show (((n4 + 1) + 0) + 1) = n4 + 1 + trL x by omega]; exact iT_f hiT4 (fun i i0 i1 => h54 i)
                              refine z_sub [1, 2, 3, 4, 0] (ls' := [(0, .ref (A 40)), (1, .ref b), (2, z_i c), (3, z_i (r106 + 1)), (4, z_i (t + 1))]) rfl ?_
                              refine z_widen (k' := (10 + 40 * c.toNat + 4 + 10 * (t + 1).toNat)) (n' := (100 + 9000 * c.toNat + 1000 + 2600 * (t + 1).toNat)) (by omega) (by omega) ?_
                              exact ih118 (t + 1) (((n4 + 1) + 0) + 1) (sbC (sbC (sbC f4 n4 (fun _ => 43)) (n4 + 1) (fun _ => 0)) ((n4 + 1) + 0) (fun _ => (k + 97))) a115 σ5 hh115 (by omega) (by omega) hF5 hw5 (h58.trans hs84) hlt5 hb5 hsb115 hxa115 (by omega) hfb5 (Or.inr ⟨by omega, hiT5⟩)
                          · refine z_ldcS hY hSB eL_isOrdered_222 kO_92 (fun s116 hk116 => ?_)
                            refine z_goto hY eL_isOrdered_224 ?_
                            have hup117 := sbS_up (D := D) (σ := σ5) hsb4 hxb hxa4
                            refine z_callV (As := [.ref s116]) (rest := []) hY eL_isOrdered_229 (sb_appS (w := 1) (g := (fun _ => 45)) hG hSB hup117 (sbT_c hk116 (by decide) (fun i hi => by rcases (show i = 0 by omega) with rfl; rfl)) (by omega)) (show gH D B κ A σ5 h4 b = some (z_ob 10 _) from hup117.choose_spec.choose_spec.choose_spec.1) (by decide) (Nat.le_of_ble_eq_true rfl) (by rw [hmc, hms]; omega) (fun _ _ q => q.elim) (fun vv117 hh117 q117 => ?_)
                            obtain ⟨a117, rfl, hsb117, hor117, hfr117⟩ := q117
                            have hgh117 := gH_fr (gS_J hI) (gS_X hI) hxb hxa4 hfr117
                            have hxa117 := sbX_or (gS_J hI) (gS_X hI) hxa4 hor117
                            refine z_heq hgh117.symm ?_
                            refine z_iload hY eL_isOrdered_232 6 rfl ?_
                            refine z_const hY eL_isOrdered_234 ?_
                            refine z_icmpne hY eL_isOrdered_235 (by omega) (fun c235 => ?_) (fun c235 => ?_)
                            · refine sb_temp hY hG hSB (q := 6) rfl (by omega) (Nat.le_of_ble_eq_true rfl) (by rw [hmc, hms]; omega) (fun s9 H9 hT9 hF9 => ?_)
                              have hgq := gH_mono (gS_J hI) (gS_X hI) hF9
                              have hsq := sbS_mono (sbS_up (D := D) (σ := σ5) hsb117 hxb hxa117) hF9
                              refine z_heq hgq.symm ?_
                              have hup119 := sbS_up (D := D) (σ := σ5) hsq hxb hxa117
                              refine z_callV (As := [.ref s9]) (rest := []) hY eL_isOrdered_263 (sb_appS (w := 3) (g := (sbC (sbC (fun _ => 0) 0 (fun _ => 48 + x)) 1 (fun i => if i = 0 then 32 else 42))) hG hSB hup119 (by rw [hgq]; exact hT9) (by omega)) (show gH D B κ A σ5 H9 b = some (z_ob 10 _) from hup119.choose_spec.choose_spec.choose_spec.1) (by decide) (Nat.le_of_ble_eq_true rfl) (by rw [hmc, hms]; omega) (fun _ _ q => q.elim) (fun vv119 hh119 q119 => ?_)
                              obtain ⟨a119, rfl, hsb119, hor119, hfr119⟩ := q119
                              have hgh119 := gH_fr (gS_J hI) (gS_X hI) hxb hxa117 hfr119
                              have hxa119 := sbX_or (gS_J hI) (gS_X hI) hxa117 hor119
                              refine z_heq hgh119.symm ?_
                              refine z_const hY eL_isOrdered_266 ?_
                              refine z_iload hY eL_isOrdered_268 7 rfl ?_
                              refine z_iadd hY eL_isOrdered_270 ?_
                              refine z_top (b := k + 97) (by omega) ?_
                              refine z_i2c hY eL_isOrdered_271 (by omega) ?_
                              have hup120 := sbS_up (D := D) (σ := σ5) hsb119 hxb hxa119
                              refine z_callV (As := [z_i (k + 97)]) (rest := []) hY eL_isOrdered_272 (sb_appC (c := (k + 97)) hG hSB hup120 (by omega) (by omega)) (show gH D B κ A σ5 hh119 b = some (z_ob 10 _) from hup120.choose_spec.choose_spec.choose_spec.1) (by decide) (Nat.le_of_ble_eq_true rfl) (by rw [hmc, hms]; omega) (fun _ _ q => q.elim) (fun vv120 hh120 q120 => ?_)
                              obtain ⟨a120, rfl, hsb120, hor120, hfr120⟩ := q120
                              have hgh120 := gH_fr (gS_J hI) (gS_X hI) hxb hxa119 hfr120
                              have hxa120 := sbX_or (gS_J hI) (gS_X hI) hxa119 hor120
                              refine z_heq hgh120.symm ?_
                              refine z_pop hY eL_isOrdered_275 rfl ?_
                              refine z_iinc hY eL_isOrdered_276 4 rfl (ls' := [(4, z_i (t + 1)), (0, .ref (A 40)), (1, .ref b), (2, z_i c), (3, z_i (r106 + 1)), (5, z_i s), (6, z_i x), (7, z_i k)]) rfl ?_
                              refine z_goto hY eL_isOrdered_279 ?_
                              have h3 := sb3 (f := f4) (g1 := (fun _ => 45)) (g2 := (sbC (sbC (fun _ => 0) 0 (fun _ => 48 + x)) 1 (fun i => if i = 0 then 32 else 42))) (n := n4) (w1 := 1) (w2 := 3) (d := k + 97) (by decide) (by decide)
                              have hxw : x ≠ 1 := by omega
                              have hlt5 : ∀ i, 0 ≤ i → i < 4 * c → σ5 4 i = σ1 4 i := fun i i0 i1 => (h54 i).trans ((if_neg (by omega)).trans (h4lt i i0 i1))
                              have hb5 : ∀ i, 4 * c ≤ i → i < 4 * c + 4 → -(4 * (t + 1)) ≤ σ5 4 i ∧ σ5 4 i ≤ 4 * (t + 1) := fun i i0 i1 => by rw [h54 i]; unfold z_up; have z9 := h4b i i0 i1; split; (have z8 := h4b (4 * c + k) (by omega) (by omega); omega); omega
                              have hfb5 : ∀ i, 0 ≤ i → i < (((n4 + 1) + 3) + 1) → 1 ≤ (sbC (sbC (sbC f4 n4 (fun _ => 45)) (n4 + 1) (sbC (sbC (fun _ => 0) 0 (fun _ => 48 + x)) 1 (fun i => if i = 0 then 32 else 42))) ((n4 + 1) + 3) (fun _ => (k + 97))) i ∧ (sbC (sbC (sbC f4 n4 (fun _ => 45)) (n4 + 1) (sbC (sbC (fun _ => 0) 0 (fun _ => 48 + x)) 1 (fun i => if i = 0 then 32 else 42))) ((n4 + 1) + 3) (fun _ => (k + 97))) i ≤ 127 := sb_bd (sb_bd (sb_bd hfb4 (fun i i0 i1 => by first | omega | (show 1 ≤ (45 : Int) ∧ (45 : Int) ≤ 127; omega) | (show 1 ≤ (43 : Int) ∧ (43 : Int) ≤ 127; omega))) (fun i i0 i1 => by first | omega | (rcases (show i = 0 ∨ i = 1 ∨ i = 2 by omega) with rfl | rfl | rfl; (show 1 ≤ 48 + x ∧ 48 + x ≤ 127; omega); (show 1 ≤ (32 : Int) ∧ (32 : Int) ≤ 127; omega); (show 1 ≤ (42 : Int) ∧ (42 : Int) ≤ 127; omega)))) (fun i i0 i1 => by show 1 ≤ k + 97 ∧ k + 97 ≤ 127; omega)
                              have htr : trT (sbC (sbC (sbC f4 n4 (fun _ => 45)) (n4 + 1) (sbC (sbC (fun _ => 0) 0 (fun _ => 48 + x)) 1 (fun i => if i = 0 then 32 else 42))) ((n4 + 1) + 3) (fun _ => (k + 97))) (n4 + 1) x k := by unfold trT; rw [if_neg hxw]; exact ⟨(congrArg (sbC (sbC (sbC f4 n4 (fun _ => 45)) (n4 + 1) (sbC (sbC (fun _ => 0) 0 (fun _ => 48 + x)) 1 (fun i => if i = 0 then 32 else 42))) ((n4 + 1) + 3) (fun _ => (k + 97))) (show n4 + 1 = n4 + 1 + 0 by omega)).trans (h3.2.2.1 0 (by omega) (by omega)), h3.2.2.1 1 (by omega) (by omega), h3.2.2.1 2 (by omega) (by omega), h3.2.2.2.trans (by omega)⟩
                              have htl : trL x = 4 := by unfold trL; exact if_neg hxw
                              have hiT4 := iT_t (s := s) (hiT.resolve_left (by omega)).2 (by omega) (by omega) (by omega) (by omega) hxx hkk (fun i i0 i1 => h3.1 i i0 i1) ((congrArg (sbC (sbC (sbC f4 n4 (fun _ => 45)) (n4 + 1) (sbC (sbC (fun _ => 0) 0 (fun _ => 48 + x)) 1 (fun i => if i = 0 then 32 else 42))) ((n4 + 1) + 3) (fun _ => (k + 97))) (show n4 = n4 + 0 by omega)).trans ((h3.2.1 0 (by omega) (by omega)).trans (by first | omega | (show (45 : Int) = _; omega) | (show (43 : Int) = _; omega)))) htr
                              have hiT5 : iT (sbC (sbC (sbC f4 n4 (fun _ => 45)) (n4 + 1) (sbC (sbC (fun _ => 0) 0 (fun _ => 48 + x)) 1 (fun i => if i = 0 then 32 else 42))) ((n4 + 1) + 3) (fun _ => (k + 97))) (((n4 + 1) + 3) + 1) c (t + 1) (σ5 4) (σ5 8) := by rw [h58, show (((n4 + 1) + 3) + 1) = n4 + 1 + trL x by omega]; exact iT_f hiT4 (fun i i0 i1 => h54 i)
                              refine z_sub [1, 2, 3, 4, 0] (ls' := [(0, .ref (A 40)), (1, .ref b), (2, z_i c), (3, z_i (r106 + 1)), (4, z_i (t + 1))]) rfl ?_
                              refine z_widen (k' := (10 + 40 * c.toNat + 4 + 10 * (t + 1).toNat)) (n' := (100 + 9000 * c.toNat + 1000 + 2600 * (t + 1).toNat)) (by omega) (by omega) ?_
                              exact ih118 (t + 1) (((n4 + 1) + 3) + 1) (sbC (sbC (sbC f4 n4 (fun _ => 45)) (n4 + 1) (sbC (sbC (fun _ => 0) 0 (fun _ => 48 + x)) 1 (fun i => if i = 0 then 32 else 42))) ((n4 + 1) + 3) (fun _ => (k + 97))) a120 σ5 hh120 (by omega) (by omega) hF5 hw5 (h58.trans hs84) hlt5 hb5 hsb120 hxa120 (by omega) hfb5 (Or.inr ⟨by omega, hiT5⟩)
                            · refine z_ldcS hY hSB eL_isOrdered_238 kO_81 (fun s121 hk121 => ?_)
                              refine z_goto hY eL_isOrdered_240 ?_
                              have hup122 := sbS_up (D := D) (σ := σ5) hsb117 hxb hxa117
                              refine z_callV (As := [.ref s121]) (rest := []) hY eL_isOrdered_263 (sb_appS (w := 0) (g := (fun _ => 0)) hG hSB hup122 (sbT_c hk121 (by decide) (fun i hi => absurd hi (by omega))) (by omega)) (show gH D B κ A σ5 hh117 b = some (z_ob 10 _) from hup122.choose_spec.choose_spec.choose_spec.1) (by decide) (Nat.le_of_ble_eq_true rfl) (by rw [hmc, hms]; omega) (fun _ _ q => q.elim) (fun vv122 hh122 q122 => ?_)
                              obtain ⟨a122, rfl, hsb122, hor122, hfr122⟩ := q122
                              have hgh122 := gH_fr (gS_J hI) (gS_X hI) hxb hxa117 hfr122
                              have hxa122 := sbX_or (gS_J hI) (gS_X hI) hxa117 hor122
                              refine z_heq hgh122.symm ?_
                              refine z_const hY eL_isOrdered_266 ?_
                              refine z_iload hY eL_isOrdered_268 7 rfl ?_
                              refine z_iadd hY eL_isOrdered_270 ?_
                              refine z_top (b := k + 97) (by omega) ?_
                              refine z_i2c hY eL_isOrdered_271 (by omega) ?_
                              have hup123 := sbS_up (D := D) (σ := σ5) hsb122 hxb hxa122
                              refine z_callV (As := [z_i (k + 97)]) (rest := []) hY eL_isOrdered_272 (sb_appC (c := (k + 97)) hG hSB hup123 (by omega) (by omega)) (show gH D B κ A σ5 hh122 b = some (z_ob 10 _) from hup123.choose_spec.choose_spec.choose_spec.1) (by decide) (Nat.le_of_ble_eq_true rfl) (by rw [hmc, hms]; omega) (fun _ _ q => q.elim) (fun vv123 hh123 q123 => ?_)
                              obtain ⟨a123, rfl, hsb123, hor123, hfr123⟩ := q123
                              have hgh123 := gH_fr (gS_J hI) (gS_X hI) hxb hxa122 hfr123
                              have hxa123 := sbX_or (gS_J hI) (gS_X hI) hxa122 hor123
                              refine z_heq hgh123.symm ?_
                              refine z_pop hY eL_isOrdered_275 rfl ?_
                              refine z_iinc hY eL_isOrdered_276 4 rfl (ls' := [(4, z_i (t + 1)), (0, .ref (A 40)), (1, .ref b), (2, z_i c), (3, z_i (r106 + 1)), (5, z_i s), (6, z_i x), (7, z_i k)]) rfl ?_
                              refine z_goto hY eL_isOrdered_279 ?_
                              have h3 := sb3 (f := f4) (g1 := (fun _ => 45)) (g2 := (fun _ => 0)) (n := n4) (w1 := 1) (w2 := 0) (d := k + 97) (by decide) (by decide)
                              have hxw : x = 1 := by omega
                              have hlt5 : ∀ i, 0 ≤ i → i < 4 * c → σ5 4 i = σ1 4 i := fun i i0 i1 => (h54 i).trans ((if_neg (by omega)).trans (h4lt i i0 i1))
                              have hb5 : ∀ i, 4 * c ≤ i → i < 4 * c + 4 → -(4 * (t + 1)) ≤ σ5 4 i ∧ σ5 4 i ≤ 4 * (t + 1) := fun i i0 i1 => by rw [h54 i]; unfold z_up; have z9 := h4b i i0 i1; split; (have z8 := h4b (4 * c + k) (by omega) (by omega); omega); omega
                              have hfb5 : ∀ i, 0 ≤ i → i < (((n4 + 1) + 0) + 1) → 1 ≤ (sbC (sbC (sbC f4 n4 (fun _ => 45)) (n4 + 1) (fun _ => 0)) ((n4 + 1) + 0) (fun _ => (k + 97))) i ∧ (sbC (sbC (sbC f4 n4 (fun _ => 45)) (n4 + 1) (fun _ => 0)) ((n4 + 1) + 0) (fun _ => (k + 97))) i ≤ 127 := sb_bd (sb_bd (sb_bd hfb4 (fun i i0 i1 => by first | omega | (show 1 ≤ (45 : Int) ∧ (45 : Int) ≤ 127; omega) | (show 1 ≤ (43 : Int) ∧ (43 : Int) ≤ 127; omega))) (fun i i0 i1 => by first | omega | (rcases (show i = 0 ∨ i = 1 ∨ i = 2 by omega) with rfl | rfl | rfl; (show 1 ≤ 48 + x ∧ 48 + x ≤ 127; omega); (show 1 ≤ (32 : Int) ∧ (32 : Int) ≤ 127; omega); (show 1 ≤ (42 : Int) ∧ (42 : Int) ≤ 127; omega)))) (fun i i0 i1 => by show 1 ≤ k + 97 ∧ k + 97 ≤ 127; omega)
                              have htr : trT (sbC (sbC (sbC f4 n4 (fun _ => 45)) (n4 + 1) (fun _ => 0)) ((n4 + 1) + 0) (fun _ => (k + 97))) (n4 + 1) x k := by unfold trT; rw [if_pos hxw]; exact (congrArg (sbC (sbC (sbC f4 n4 (fun _ => 45)) (n4 + 1) (fun _ => 0)) ((n4 + 1) + 0) (fun _ => (k + 97))) (show n4 + 1 = n4 + 1 + 0 by omega)).trans (h3.2.2.2.trans (by omega))
                              have htl : trL x = 1 := by unfold trL; exact if_pos hxw
                              have hiT4 := iT_t (s := s) (hiT.resolve_left (by omega)).2 (by omega) (by omega) (by omega) (by omega) hxx hkk (fun i i0 i1 => h3.1 i i0 i1) ((congrArg (sbC (sbC (sbC f4 n4 (fun _ => 45)) (n4 + 1) (fun _ => 0)) ((n4 + 1) + 0) (fun _ => (k + 97))) (show n4 = n4 + 0 by omega)).trans ((h3.2.1 0 (by omega) (by omega)).trans (by first | omega | (show (45 : Int) = _; omega) | (show (43 : Int) = _; omega)))) htr
                              have hiT5 : iT (sbC (sbC (sbC f4 n4 (fun _ => 45)) (n4 + 1) (fun _ => 0)) ((n4 + 1) + 0) (fun _ => (k + 97))) (((n4 + 1) + 0) + 1) c (t + 1) (σ5 4) (σ5 8) := by rw [h58, show (((n4 + 1) + 0) + 1) = n4 + 1 + trL x by omega]; exact iT_f hiT4 (fun i i0 i1 => h54 i)
                              refine z_sub [1, 2, 3, 4, 0] (ls' := [(0, .ref (A 40)), (1, .ref b), (2, z_i c), (3, z_i (r106 + 1)), (4, z_i (t + 1))]) rfl ?_
                              refine z_widen (k' := (10 + 40 * c.toNat + 4 + 10 * (t + 1).toNat)) (n' := (100 + 9000 * c.toNat + 1000 + 2600 * (t + 1).toNat)) (by omega) (by omega) ?_
                              exact ih118 (t + 1) (((n4 + 1) + 0) + 1) (sbC (sbC (sbC f4 n4 (fun _ => 45)) (n4 + 1) (fun _ => 0)) ((n4 + 1) + 0) (fun _ => (k + 97))) a123 σ5 hh123 (by omega) (by omega) hF5 hw5 (h58.trans hs84) hlt5 hb5 hsb123 hxa123 (by omega) hfb5 (Or.inr ⟨by omega, hiT5⟩)
                        · refine z_ldcS hY hSB eL_isOrdered_212 kO_81 (fun s124 hk124 => ?_)
                          refine z_goto hY eL_isOrdered_214 ?_
                          have hup125 := sbS_up (D := D) (σ := σ5) hsb4 hxb hxa4
                          refine z_callV (As := [.ref s124]) (rest := []) hY eL_isOrdered_229 (sb_appS (w := 0) (g := (fun _ => 0)) hG hSB hup125 (sbT_c hk124 (by decide) (fun i hi => absurd hi (by omega))) (by omega)) (show gH D B κ A σ5 h4 b = some (z_ob 10 _) from hup125.choose_spec.choose_spec.choose_spec.1) (by decide) (Nat.le_of_ble_eq_true rfl) (by rw [hmc, hms]; omega) (fun _ _ q => q.elim) (fun vv125 hh125 q125 => ?_)
                          obtain ⟨a125, rfl, hsb125, hor125, hfr125⟩ := q125
                          have hgh125 := gH_fr (gS_J hI) (gS_X hI) hxb hxa4 hfr125
                          have hxa125 := sbX_or (gS_J hI) (gS_X hI) hxa4 hor125
                          refine z_heq hgh125.symm ?_
                          refine z_iload hY eL_isOrdered_232 6 rfl ?_
                          refine z_const hY eL_isOrdered_234 ?_
                          refine z_icmpne hY eL_isOrdered_235 (by omega) (fun c235 => ?_) (fun c235 => ?_)
                          · refine sb_temp hY hG hSB (q := 6) rfl (by omega) (Nat.le_of_ble_eq_true rfl) (by rw [hmc, hms]; omega) (fun s9 H9 hT9 hF9 => ?_)
                            have hgq := gH_mono (gS_J hI) (gS_X hI) hF9
                            have hsq := sbS_mono (sbS_up (D := D) (σ := σ5) hsb125 hxb hxa125) hF9
                            refine z_heq hgq.symm ?_
                            have hup127 := sbS_up (D := D) (σ := σ5) hsq hxb hxa125
                            refine z_callV (As := [.ref s9]) (rest := []) hY eL_isOrdered_263 (sb_appS (w := 3) (g := (sbC (sbC (fun _ => 0) 0 (fun _ => 48 + x)) 1 (fun i => if i = 0 then 32 else 42))) hG hSB hup127 (by rw [hgq]; exact hT9) (by omega)) (show gH D B κ A σ5 H9 b = some (z_ob 10 _) from hup127.choose_spec.choose_spec.choose_spec.1) (by decide) (Nat.le_of_ble_eq_true rfl) (by rw [hmc, hms]; omega) (fun _ _ q => q.elim) (fun vv127 hh127 q127 => ?_)
                            obtain ⟨a127, rfl, hsb127, hor127, hfr127⟩ := q127
                            have hgh127 := gH_fr (gS_J hI) (gS_X hI) hxb hxa125 hfr127
                            have hxa127 := sbX_or (gS_J hI) (gS_X hI) hxa125 hor127
                            refine z_heq hgh127.symm ?_
                            refine z_const hY eL_isOrdered_266 ?_
                            refine z_iload hY eL_isOrdered_268 7 rfl ?_
                            refine z_iadd hY eL_isOrdered_270 ?_
                            refine z_top (b := k + 97) (by omega) ?_
                            refine z_i2c hY eL_isOrdered_271 (by omega) ?_
                            have hup128 := sbS_up (D := D) (σ := σ5) hsb127 hxb hxa127
                            refine z_callV (As := [z_i (k + 97)]) (rest := []) hY eL_isOrdered_272 (sb_appC (c := (k + 97)) hG hSB hup128 (by omega) (by omega)) (show gH D B κ A σ5 hh127 b = some (z_ob 10 _) from hup128.choose_spec.choose_spec.choose_spec.1) (by decide) (Nat.le_of_ble_eq_true rfl) (by rw [hmc, hms]; omega) (fun _ _ q => q.elim) (fun vv128 hh128 q128 => ?_)
                            obtain ⟨a128, rfl, hsb128, hor128, hfr128⟩ := q128
                            have hgh128 := gH_fr (gS_J hI) (gS_X hI) hxb hxa127 hfr128
                            have hxa128 := sbX_or (gS_J hI) (gS_X hI) hxa127 hor128
                            refine z_heq hgh128.symm ?_
                            refine z_pop hY eL_isOrdered_275 rfl ?_
                            refine z_iinc hY eL_isOrdered_276 4 rfl (ls' := [(4, z_i (t + 1)), (0, .ref (A 40)), (1, .ref b), (2, z_i c), (3, z_i (r106 + 1)), (5, z_i s), (6, z_i x), (7, z_i k)]) rfl ?_
                            refine z_goto hY eL_isOrdered_279 ?_
                            have h3 := sb3 (f := f4) (g1 := (fun _ => 0)) (g2 := (sbC (sbC (fun _ => 0) 0 (fun _ => 48 + x)) 1 (fun i => if i = 0 then 32 else 42))) (n := n4) (w1 := 0) (w2 := 3) (d := k + 97) (by decide) (by decide)
                            have hxw : x ≠ 1 := by omega
                            have hlt5 : ∀ i, 0 ≤ i → i < 4 * c → σ5 4 i = σ1 4 i := fun i i0 i1 => (h54 i).trans ((if_neg (by omega)).trans (h4lt i i0 i1))
                            have hb5 : ∀ i, 4 * c ≤ i → i < 4 * c + 4 → -(4 * (t + 1)) ≤ σ5 4 i ∧ σ5 4 i ≤ 4 * (t + 1) := fun i i0 i1 => by rw [h54 i]; unfold z_up; have z9 := h4b i i0 i1; split; (have z8 := h4b (4 * c + k) (by omega) (by omega); omega); omega
                            have hfb5 : ∀ i, 0 ≤ i → i < (((n4 + 0) + 3) + 1) → 1 ≤ (sbC (sbC (sbC f4 n4 (fun _ => 0)) (n4 + 0) (sbC (sbC (fun _ => 0) 0 (fun _ => 48 + x)) 1 (fun i => if i = 0 then 32 else 42))) ((n4 + 0) + 3) (fun _ => (k + 97))) i ∧ (sbC (sbC (sbC f4 n4 (fun _ => 0)) (n4 + 0) (sbC (sbC (fun _ => 0) 0 (fun _ => 48 + x)) 1 (fun i => if i = 0 then 32 else 42))) ((n4 + 0) + 3) (fun _ => (k + 97))) i ≤ 127 := sb_bd (sb_bd (sb_bd hfb4 (fun i i0 i1 => by first | omega | (show 1 ≤ (45 : Int) ∧ (45 : Int) ≤ 127; omega) | (show 1 ≤ (43 : Int) ∧ (43 : Int) ≤ 127; omega))) (fun i i0 i1 => by first | omega | (rcases (show i = 0 ∨ i = 1 ∨ i = 2 by omega) with rfl | rfl | rfl; (show 1 ≤ 48 + x ∧ 48 + x ≤ 127; omega); (show 1 ≤ (32 : Int) ∧ (32 : Int) ≤ 127; omega); (show 1 ≤ (42 : Int) ∧ (42 : Int) ≤ 127; omega)))) (fun i i0 i1 => by show 1 ≤ k + 97 ∧ k + 97 ≤ 127; omega)
                            have htr : trT (sbC (sbC (sbC f4 n4 (fun _ => 0)) (n4 + 0) (sbC (sbC (fun _ => 0) 0 (fun _ => 48 + x)) 1 (fun i => if i = 0 then 32 else 42))) ((n4 + 0) + 3) (fun _ => (k + 97))) (n4 + 0) x k := by unfold trT; rw [if_neg hxw]; exact ⟨(congrArg (sbC (sbC (sbC f4 n4 (fun _ => 0)) (n4 + 0) (sbC (sbC (fun _ => 0) 0 (fun _ => 48 + x)) 1 (fun i => if i = 0 then 32 else 42))) ((n4 + 0) + 3) (fun _ => (k + 97))) (show n4 + 0 = n4 + 0 + 0 by omega)).trans (h3.2.2.1 0 (by omega) (by omega)), h3.2.2.1 1 (by omega) (by omega), h3.2.2.1 2 (by omega) (by omega), h3.2.2.2.trans (by omega)⟩
                            have htl : trL x = 4 := by unfold trL; exact if_neg hxw
                            have hiT4 := iD_t (hiT.resolve_right (by omega)).2 (by omega) (by omega) hxx hkk (fun i i0 i1 => h3.1 i i0 i1) (trT_c htr (by omega))
                            have hiT5 : iT (sbC (sbC (sbC f4 n4 (fun _ => 0)) (n4 + 0) (sbC (sbC (fun _ => 0) 0 (fun _ => 48 + x)) 1 (fun i => if i = 0 then 32 else 42))) ((n4 + 0) + 3) (fun _ => (k + 97))) (((n4 + 0) + 3) + 1) c (t + 1) (σ5 4) (σ5 8) := by rw [h58, show (((n4 + 0) + 3) + 1) = n4 + trL x by omega, show t + 1 = 1 by omega]; exact iT_f hiT4 (fun i i0 i1 => by rw [h54 i, show s = 1 by omega])
                            refine z_sub [1, 2, 3, 4, 0] (ls' := [(0, .ref (A 40)), (1, .ref b), (2, z_i c), (3, z_i (r106 + 1)), (4, z_i (t + 1))]) rfl ?_
                            refine z_widen (k' := (10 + 40 * c.toNat + 4 + 10 * (t + 1).toNat)) (n' := (100 + 9000 * c.toNat + 1000 + 2600 * (t + 1).toNat)) (by omega) (by omega) ?_
                            exact ih118 (t + 1) (((n4 + 0) + 3) + 1) (sbC (sbC (sbC f4 n4 (fun _ => 0)) (n4 + 0) (sbC (sbC (fun _ => 0) 0 (fun _ => 48 + x)) 1 (fun i => if i = 0 then 32 else 42))) ((n4 + 0) + 3) (fun _ => (k + 97))) a128 σ5 hh128 (by omega) (by omega) hF5 hw5 (h58.trans hs84) hlt5 hb5 hsb128 hxa128 (by omega) hfb5 (Or.inr ⟨by omega, hiT5⟩)
                          · refine z_ldcS hY hSB eL_isOrdered_238 kO_81 (fun s129 hk129 => ?_)
                            refine z_goto hY eL_isOrdered_240 ?_
                            have hup130 := sbS_up (D := D) (σ := σ5) hsb125 hxb hxa125
                            refine z_callV (As := [.ref s129]) (rest := []) hY eL_isOrdered_263 (sb_appS (w := 0) (g := (fun _ => 0)) hG hSB hup130 (sbT_c hk129 (by decide) (fun i hi => absurd hi (by omega))) (by omega)) (show gH D B κ A σ5 hh125 b = some (z_ob 10 _) from hup130.choose_spec.choose_spec.choose_spec.1) (by decide) (Nat.le_of_ble_eq_true rfl) (by rw [hmc, hms]; omega) (fun _ _ q => q.elim) (fun vv130 hh130 q130 => ?_)
                            obtain ⟨a130, rfl, hsb130, hor130, hfr130⟩ := q130
                            have hgh130 := gH_fr (gS_J hI) (gS_X hI) hxb hxa125 hfr130
                            have hxa130 := sbX_or (gS_J hI) (gS_X hI) hxa125 hor130
                            refine z_heq hgh130.symm ?_
                            refine z_const hY eL_isOrdered_266 ?_
                            refine z_iload hY eL_isOrdered_268 7 rfl ?_
                            refine z_iadd hY eL_isOrdered_270 ?_
                            refine z_top (b := k + 97) (by omega) ?_
                            refine z_i2c hY eL_isOrdered_271 (by omega) ?_
                            have hup131 := sbS_up (D := D) (σ := σ5) hsb130 hxb hxa130
                            refine z_callV (As := [z_i (k + 97)]) (rest := []) hY eL_isOrdered_272 (sb_appC (c := (k + 97)) hG hSB hup131 (by omega) (by omega)) (show gH D B κ A σ5 hh130 b = some (z_ob 10 _) from hup131.choose_spec.choose_spec.choose_spec.1) (by decide) (Nat.le_of_ble_eq_true rfl) (by rw [hmc, hms]; omega) (fun _ _ q => q.elim) (fun vv131 hh131 q131 => ?_)
                            obtain ⟨a131, rfl, hsb131, hor131, hfr131⟩ := q131
                            have hgh131 := gH_fr (gS_J hI) (gS_X hI) hxb hxa130 hfr131
                            have hxa131 := sbX_or (gS_J hI) (gS_X hI) hxa130 hor131
                            refine z_heq hgh131.symm ?_
                            refine z_pop hY eL_isOrdered_275 rfl ?_
                            refine z_iinc hY eL_isOrdered_276 4 rfl (ls' := [(4, z_i (t + 1)), (0, .ref (A 40)), (1, .ref b), (2, z_i c), (3, z_i (r106 + 1)), (5, z_i s), (6, z_i x), (7, z_i k)]) rfl ?_
                            refine z_goto hY eL_isOrdered_279 ?_
                            have h3 := sb3 (f := f4) (g1 := (fun _ => 0)) (g2 := (fun _ => 0)) (n := n4) (w1 := 0) (w2 := 0) (d := k + 97) (by decide) (by decide)
                            have hxw : x = 1 := by omega
                            have hlt5 : ∀ i, 0 ≤ i → i < 4 * c → σ5 4 i = σ1 4 i := fun i i0 i1 => (h54 i).trans ((if_neg (by omega)).trans (h4lt i i0 i1))
                            have hb5 : ∀ i, 4 * c ≤ i → i < 4 * c + 4 → -(4 * (t + 1)) ≤ σ5 4 i ∧ σ5 4 i ≤ 4 * (t + 1) := fun i i0 i1 => by rw [h54 i]; unfold z_up; have z9 := h4b i i0 i1; split; (have z8 := h4b (4 * c + k) (by omega) (by omega); omega); omega
                            have hfb5 : ∀ i, 0 ≤ i → i < (((n4 + 0) + 0) + 1) → 1 ≤ (sbC (sbC (sbC f4 n4 (fun _ => 0)) (n4 + 0) (fun _ => 0)) ((n4 + 0) + 0) (fun _ => (k + 97))) i ∧ (sbC (sbC (sbC f4 n4 (fun _ => 0)) (n4 + 0) (fun _ => 0)) ((n4 + 0) + 0) (fun _ => (k + 97))) i ≤ 127 := sb_bd (sb_bd (sb_bd hfb4 (fun i i0 i1 => by first | omega | (show 1 ≤ (45 : Int) ∧ (45 : Int) ≤ 127; omega) | (show 1 ≤ (43 : Int) ∧ (43 : Int) ≤ 127; omega))) (fun i i0 i1 => by first | omega | (rcases (show i = 0 ∨ i = 1 ∨ i = 2 by omega) with rfl | rfl | rfl; (show 1 ≤ 48 + x ∧ 48 + x ≤ 127; omega); (show 1 ≤ (32 : Int) ∧ (32 : Int) ≤ 127; omega); (show 1 ≤ (42 : Int) ∧ (42 : Int) ≤ 127; omega)))) (fun i i0 i1 => by show 1 ≤ k + 97 ∧ k + 97 ≤ 127; omega)
                            have htr : trT (sbC (sbC (sbC f4 n4 (fun _ => 0)) (n4 + 0) (fun _ => 0)) ((n4 + 0) + 0) (fun _ => (k + 97))) (n4 + 0) x k := by unfold trT; rw [if_pos hxw]; exact (congrArg (sbC (sbC (sbC f4 n4 (fun _ => 0)) (n4 + 0) (fun _ => 0)) ((n4 + 0) + 0) (fun _ => (k + 97))) (show n4 + 0 = n4 + 0 + 0 by omega)).trans (h3.2.2.2.trans (by omega))
                            have htl : trL x = 1 := by unfold trL; exact if_pos hxw
                            have hiT4 := iD_t (hiT.resolve_right (by omega)).2 (by omega) (by omega) hxx hkk (fun i i0 i1 => h3.1 i i0 i1) (trT_c htr (by omega))
                            have hiT5 : iT (sbC (sbC (sbC f4 n4 (fun _ => 0)) (n4 + 0) (fun _ => 0)) ((n4 + 0) + 0) (fun _ => (k + 97))) (((n4 + 0) + 0) + 1) c (t + 1) (σ5 4) (σ5 8) := by rw [h58, show (((n4 + 0) + 0) + 1) = n4 + trL x by omega, show t + 1 = 1 by omega]; exact iT_f hiT4 (fun i i0 i1 => by rw [h54 i, show s = 1 by omega])
                            refine z_sub [1, 2, 3, 4, 0] (ls' := [(0, .ref (A 40)), (1, .ref b), (2, z_i c), (3, z_i (r106 + 1)), (4, z_i (t + 1))]) rfl ?_
                            refine z_widen (k' := (10 + 40 * c.toNat + 4 + 10 * (t + 1).toNat)) (n' := (100 + 9000 * c.toNat + 1000 + 2600 * (t + 1).toNat)) (by omega) (by omega) ?_
                            exact ih118 (t + 1) (((n4 + 0) + 0) + 1) (sbC (sbC (sbC f4 n4 (fun _ => 0)) (n4 + 0) (fun _ => 0)) ((n4 + 0) + 0) (fun _ => (k + 97))) a131 σ5 hh131 (by omega) (by omega) hF5 hw5 (h58.trans hs84) hlt5 hb5 hsb131 hxa131 (by omega) hfb5 (Or.inr ⟨by omega, hiT5⟩)
                      refine z_iload hY eL_isOrdered_118 4 rfl ?_
                      refine z_iload hY eL_isOrdered_120 3 rfl ?_
                      refine z_icmpge hY eL_isOrdered_121 (by omega) (fun c121 => ?_) (fun c121 => ?_)
                      · refine z_iinc hY eL_isOrdered_282 2 rfl (ls' := [(2, z_i (c + 1)), (0, .ref (A 40)), (1, .ref b), (3, z_i (r106 + 1)), (4, z_i t)]) rfl ?_
                        refine z_goto hY eL_isOrdered_285 ?_
                        have hiE := iT_e (hiT.resolve_left (by omega)).2 (by omega) (by omega)
                        refine z_sub [1, 2, 0] (ls' := [(0, .ref (A 40)), (1, .ref b), (2, z_i (c + 1))]) rfl ?_
                        refine z_widen (k' := (10 + 40 * (c + 1).toNat)) (n' := (100 + 9000 * (c + 1).toNat)) (by omega) (by omega) ?_
                        exact ih21 (c + 1) n4 f4 a4 σ4 h4 (by omega) (by omega) (fun k k0 k1 k2 k3 k4 => hF4 k k0 k1 k2 k3 k4) hw4 hsb4 hxa4 (by omega) hfb4 hiE
                      · refine z_iload hY eL_isOrdered_124 4 rfl ?_
                        refine z_ifle hY eL_isOrdered_126 (by omega) (fun c126 => ?_) (fun c126 => ?_)
                        · refine z_const hY eL_isOrdered_141 ?_
                          refine z_istore hY eL_isOrdered_142 (ls' := [(5, z_i 1), (0, .ref (A 40)), (1, .ref b), (2, z_i c), (3, z_i (r106 + 1)), (4, z_i t)]) rfl ?_
                          refine z_aload hY eL_isOrdered_144 1 rfl ?_
                          refine z_const hY eL_isOrdered_145 ?_
                          refine z_callV (As := [z_i 2]) (rest := []) hY eL_isOrdered_146 (la_next (B := B) (κ := κ) (σ := σ4) hG (gS_X hI) (n := 2) (by omega)) ((gH_at (gS_X hI) (by decide)).trans (congrArg some lC_40)) (by decide) (Nat.le_of_ble_eq_true rfl) (by rw [hmc, hms]; omega) (fun _ _ q => q.elim) (fun vv133 hh133 q133 => ?_)
                          obtain ⟨r132, X132, rfl, hr132, hX132, rfl⟩ := q133
                          refine z_ifne hY eL_isOrdered_149 (by omega) (fun c149 => ?_) (fun c149 => ?_)
                          · refine z_aload hY eL_isOrdered_156 1 rfl ?_
                            refine z_const hY eL_isOrdered_157 ?_
                            refine z_callV (As := [z_i 5]) (rest := []) hY eL_isOrdered_158 (la_next (B := B) (κ := κ) (σ := (z_u σ4 0 0 X132)) hG (gS_X hI) (n := 5) (by omega)) ((gH_at (gS_X hI) (by decide)).trans (congrArg some lC_40)) (by decide) (Nat.le_of_ble_eq_true rfl) (by rw [hmc, hms]; omega) (fun _ _ q => q.elim) (fun vv135 hh135 q135 => ?_)
                            obtain ⟨r134, X134, rfl, hr134, hX134, rfl⟩ := q135
                            refine z_istore hY eL_isOrdered_161 (ls' := [(6, z_i r134), (5, z_i 1), (0, .ref (A 40)), (1, .ref b), (2, z_i c), (3, z_i (r106 + 1)), (4, z_i t)]) rfl ?_
                            refine z_iload hY eL_isOrdered_163 4 rfl ?_
                            refine z_ifne hY eL_isOrdered_164 (by omega) (fun c164 => ?_) (fun c164 => ?_)
                            · refine z_aload hY eL_isOrdered_180 2 rfl ?_
                              refine z_const hY eL_isOrdered_181 ?_
                              refine z_callV (As := [z_i 4]) (rest := []) hY eL_isOrdered_182 (la_next (B := B) (κ := κ) (σ := (z_u (z_u σ4 0 0 X132) 0 0 X134)) hG (gS_X hI) (n := 4) (by omega)) ((gH_at (gS_X hI) (by decide)).trans (congrArg some lC_40)) (by decide) (Nat.le_of_ble_eq_true rfl) (by rw [hmc, hms]; omega) (fun _ _ q => q.elim) (fun vv137 hh137 q137 => ?_)
                              obtain ⟨r136, X136, rfl, hr136, hX136, rfl⟩ := q137
                              refine z_istore hY eL_isOrdered_185 (ls' := [(7, z_i r136), (6, z_i r134), (5, z_i 1), (0, .ref (A 40)), (1, .ref b), (2, z_i c), (3, z_i (r106 + 1)), (4, z_i t)]) rfl ?_
                              refine z_aload hY eL_isOrdered_187 3 rfl ?_
                              refine g_gf hY (gS_X hI) eL_isOrdered_188 (v := .ref (A 4)) rfl ?_
                              refine z_const hY eL_isOrdered_191 ?_
                              refine z_iload hY eL_isOrdered_192 5 rfl ?_
                              refine z_imul hY eL_isOrdered_193 ?_
                              refine z_iload hY eL_isOrdered_194 0 rfl ?_
                              refine z_iadd hY eL_isOrdered_196 ?_
                              refine z_dup2 hY eL_isOrdered_197 rfl rfl ?_
                              have hb138 := hw4.s4 (4 * c + r136)
                              refine g_ial hY (gS_X hI) eL_isOrdered_198 (j := 4) (N := 16) (x := σ4 4 (4 * c + r136)) (by decide) rfl (by omega) (Eq.trans (congrFun (z_u_ne (by decide)) _) (Eq.trans (congrFun (z_u_ne (by decide)) _) (congrFun (z_u_ne (by decide)) _))) ?_
                              refine z_iload hY eL_isOrdered_199 2 rfl ?_
                              refine z_iload hY eL_isOrdered_201 1 rfl ?_
                              refine z_imul hY eL_isOrdered_203 ?_
                              refine z_top (b := r134) (by omega) ?_
                              refine z_iadd hY eL_isOrdered_204 ?_
                              refine g_ias hY (gS_X hI) eL_isOrdered_205 (j := 4) (N := 16) (by decide) (fun _ => rfl) (by omega) ?_
                              refine z_sub [3, 4, 5, 6, 7, 2, 1, 0] (ls' := [(0, .ref (A 40)), (1, .ref b), (2, z_i c), (3, z_i (r106 + 1)), (4, z_i t), (5, z_i 1), (6, z_i r134), (7, z_i r136)]) rfl ?_
                              have hq4 := h4b (4 * c + r136) (by omega) (by omega)
                              exact rest206 1 r134 r136 (z_u (z_u (z_u (z_u σ4 0 0 X132) 0 0 X134) 0 0 X136) 4 (4 * c + r136) ((σ4 4 (4 * c + r136)) + r134)) (by omega) (by omega) (by omega) (fun k k0 k1 k2 k3 k4 => (z_u_ne (by omega)).trans ((z_u_ne (by omega)).trans ((z_u_ne (by omega)).trans ((z_u_ne (by omega)).trans (hF4 k k0 k1 k2 k3 k4))))) (wB_u (wB_u (wB_u (wB_u hw4 (by show (-2147483648 : Int) ≤ _ ∧ _ ≤ (2147483647 : Int); omega)) (by show (-2147483648 : Int) ≤ _ ∧ _ ≤ (2147483647 : Int); omega)) (by show (-2147483648 : Int) ≤ _ ∧ _ ≤ (2147483647 : Int); omega)) (by show (-3996 : Int) ≤ _ ∧ _ ≤ (3996 : Int); omega)) rfl (fun i => by show z_u σ4 4 (4 * c + r136) ((σ4 4 (4 * c + r136)) + r134) 4 i = _; unfold z_up; by_cases c9 : i = 4 * c + r136; (rw [c9, if_pos rfl]; exact (congrArg (fun q => z_u σ4 4 q ((σ4 4 (4 * c + r136)) + r134) 4 (4 * c + r136)) (by omega)).trans (z_u_at.trans (by omega))); (rw [if_neg c9]; exact z_u_at' (by omega))) (by omega)
                            · refine z_iload hY eL_isOrdered_167 6 rfl ?_
                              refine z_ifne hY eL_isOrdered_169 (by omega) (fun c169 => ?_) (fun c169 => ?_)
                              · refine z_aload hY eL_isOrdered_180 2 rfl ?_
                                refine z_const hY eL_isOrdered_181 ?_
                                refine z_callV (As := [z_i 4]) (rest := []) hY eL_isOrdered_182 (la_next (B := B) (κ := κ) (σ := (z_u (z_u σ4 0 0 X132) 0 0 X134)) hG (gS_X hI) (n := 4) (by omega)) ((gH_at (gS_X hI) (by decide)).trans (congrArg some lC_40)) (by decide) (Nat.le_of_ble_eq_true rfl) (by rw [hmc, hms]; omega) (fun _ _ q => q.elim) (fun vv140 hh140 q140 => ?_)
                                obtain ⟨r139, X139, rfl, hr139, hX139, rfl⟩ := q140
                                refine z_istore hY eL_isOrdered_185 (ls' := [(7, z_i r139), (6, z_i r134), (5, z_i 1), (0, .ref (A 40)), (1, .ref b), (2, z_i c), (3, z_i (r106 + 1)), (4, z_i t)]) rfl ?_
                                refine z_aload hY eL_isOrdered_187 3 rfl ?_
                                refine g_gf hY (gS_X hI) eL_isOrdered_188 (v := .ref (A 4)) rfl ?_
                                refine z_const hY eL_isOrdered_191 ?_
                                refine z_iload hY eL_isOrdered_192 5 rfl ?_
                                refine z_imul hY eL_isOrdered_193 ?_
                                refine z_iload hY eL_isOrdered_194 0 rfl ?_
                                refine z_iadd hY eL_isOrdered_196 ?_
                                refine z_dup2 hY eL_isOrdered_197 rfl rfl ?_
                                have hb141 := hw4.s4 (4 * c + r139)
                                refine g_ial hY (gS_X hI) eL_isOrdered_198 (j := 4) (N := 16) (x := σ4 4 (4 * c + r139)) (by decide) rfl (by omega) (Eq.trans (congrFun (z_u_ne (by decide)) _) (Eq.trans (congrFun (z_u_ne (by decide)) _) (congrFun (z_u_ne (by decide)) _))) ?_
                                refine z_iload hY eL_isOrdered_199 2 rfl ?_
                                refine z_iload hY eL_isOrdered_201 1 rfl ?_
                                refine z_imul hY eL_isOrdered_203 ?_
                                refine z_top (b := r134) (by omega) ?_
                                refine z_iadd hY eL_isOrdered_204 ?_
                                refine g_ias hY (gS_X hI) eL_isOrdered_205 (j := 4) (N := 16) (by decide) (fun _ => rfl) (by omega) ?_
                                refine z_sub [3, 4, 5, 6, 7, 2, 1, 0] (ls' := [(0, .ref (A 40)), (1, .ref b), (2, z_i c), (3, z_i (r106 + 1)), (4, z_i t), (5, z_i 1), (6, z_i r134), (7, z_i r139)]) rfl ?_
                                have hq4 := h4b (4 * c + r139) (by omega) (by omega)
                                exact rest206 1 r134 r139 (z_u (z_u (z_u (z_u σ4 0 0 X132) 0 0 X134) 0 0 X139) 4 (4 * c + r139) ((σ4 4 (4 * c + r139)) + r134)) (by omega) (by omega) (by omega) (fun k k0 k1 k2 k3 k4 => (z_u_ne (by omega)).trans ((z_u_ne (by omega)).trans ((z_u_ne (by omega)).trans ((z_u_ne (by omega)).trans (hF4 k k0 k1 k2 k3 k4))))) (wB_u (wB_u (wB_u (wB_u hw4 (by show (-2147483648 : Int) ≤ _ ∧ _ ≤ (2147483647 : Int); omega)) (by show (-2147483648 : Int) ≤ _ ∧ _ ≤ (2147483647 : Int); omega)) (by show (-2147483648 : Int) ≤ _ ∧ _ ≤ (2147483647 : Int); omega)) (by show (-3996 : Int) ≤ _ ∧ _ ≤ (3996 : Int); omega)) rfl (fun i => by show z_u σ4 4 (4 * c + r139) ((σ4 4 (4 * c + r139)) + r134) 4 i = _; unfold z_up; by_cases c9 : i = 4 * c + r139; (rw [c9, if_pos rfl]; exact (congrArg (fun q => z_u σ4 4 q ((σ4 4 (4 * c + r139)) + r134) 4 (4 * c + r139)) (by omega)).trans (z_u_at.trans (by omega))); (rw [if_neg c9]; exact z_u_at' (by omega))) (by omega)
                              · refine z_aload hY eL_isOrdered_172 2 rfl ?_
                                refine z_const hY eL_isOrdered_173 ?_
                                refine z_callV (As := [z_i 2]) (rest := []) hY eL_isOrdered_174 (la_next (B := B) (κ := κ) (σ := (z_u (z_u σ4 0 0 X132) 0 0 X134)) hG (gS_X hI) (n := 2) (by omega)) ((gH_at (gS_X hI) (by decide)).trans (congrArg some lC_40)) (by decide) (Nat.le_of_ble_eq_true rfl) (by rw [hmc, hms]; omega) (fun _ _ q => q.elim) (fun vv143 hh143 q143 => ?_)
                                obtain ⟨r142, X142, rfl, hr142, hX142, rfl⟩ := q143
                                refine z_goto hY eL_isOrdered_177 ?_
                                refine z_istore hY eL_isOrdered_185 (ls' := [(7, z_i r142), (6, z_i r134), (5, z_i 1), (0, .ref (A 40)), (1, .ref b), (2, z_i c), (3, z_i (r106 + 1)), (4, z_i t)]) rfl ?_
                                refine z_aload hY eL_isOrdered_187 3 rfl ?_
                                refine g_gf hY (gS_X hI) eL_isOrdered_188 (v := .ref (A 4)) rfl ?_
                                refine z_const hY eL_isOrdered_191 ?_
                                refine z_iload hY eL_isOrdered_192 5 rfl ?_
                                refine z_imul hY eL_isOrdered_193 ?_
                                refine z_iload hY eL_isOrdered_194 0 rfl ?_
                                refine z_iadd hY eL_isOrdered_196 ?_
                                refine z_dup2 hY eL_isOrdered_197 rfl rfl ?_
                                have hb144 := hw4.s4 (4 * c + r142)
                                refine g_ial hY (gS_X hI) eL_isOrdered_198 (j := 4) (N := 16) (x := σ4 4 (4 * c + r142)) (by decide) rfl (by omega) (Eq.trans (congrFun (z_u_ne (by decide)) _) (Eq.trans (congrFun (z_u_ne (by decide)) _) (congrFun (z_u_ne (by decide)) _))) ?_
                                refine z_iload hY eL_isOrdered_199 2 rfl ?_
                                refine z_iload hY eL_isOrdered_201 1 rfl ?_
                                refine z_imul hY eL_isOrdered_203 ?_
                                refine z_top (b := r134) (by omega) ?_
                                refine z_iadd hY eL_isOrdered_204 ?_
                                refine g_ias hY (gS_X hI) eL_isOrdered_205 (j := 4) (N := 16) (by decide) (fun _ => rfl) (by omega) ?_
                                refine z_sub [3, 4, 5, 6, 7, 2, 1, 0] (ls' := [(0, .ref (A 40)), (1, .ref b), (2, z_i c), (3, z_i (r106 + 1)), (4, z_i t), (5, z_i 1), (6, z_i r134), (7, z_i r142)]) rfl ?_
                                have hq4 := h4b (4 * c + r142) (by omega) (by omega)
                                exact rest206 1 r134 r142 (z_u (z_u (z_u (z_u σ4 0 0 X132) 0 0 X134) 0 0 X142) 4 (4 * c + r142) ((σ4 4 (4 * c + r142)) + r134)) (by omega) (by omega) (by omega) (fun k k0 k1 k2 k3 k4 => (z_u_ne (by omega)).trans ((z_u_ne (by omega)).trans ((z_u_ne (by omega)).trans ((z_u_ne (by omega)).trans (hF4 k k0 k1 k2 k3 k4))))) (wB_u (wB_u (wB_u (wB_u hw4 (by show (-2147483648 : Int) ≤ _ ∧ _ ≤ (2147483647 : Int); omega)) (by show (-2147483648 : Int) ≤ _ ∧ _ ≤ (2147483647 : Int); omega)) (by show (-2147483648 : Int) ≤ _ ∧ _ ≤ (2147483647 : Int); omega)) (by show (-3996 : Int) ≤ _ ∧ _ ≤ (3996 : Int); omega)) rfl (fun i => by show z_u σ4 4 (4 * c + r142) ((σ4 4 (4 * c + r142)) + r134) 4 i = _; unfold z_up; by_cases c9 : i = 4 * c + r142; (rw [c9, if_pos rfl]; exact (congrArg (fun q => z_u σ4 4 q ((σ4 4 (4 * c + r142)) + r134) 4 (4 * c + r142)) (by omega)).trans (z_u_at.trans (by omega))); (rw [if_neg c9]; exact z_u_at' (by omega))) (by omega)
                          · refine z_const hY eL_isOrdered_152 ?_
                            refine z_goto hY eL_isOrdered_153 ?_
                            refine z_istore hY eL_isOrdered_161 (ls' := [(6, z_i 1), (5, z_i 1), (0, .ref (A 40)), (1, .ref b), (2, z_i c), (3, z_i (r106 + 1)), (4, z_i t)]) rfl ?_
                            refine z_iload hY eL_isOrdered_163 4 rfl ?_
                            refine z_ifne hY eL_isOrdered_164 (by omega) (fun c164 => ?_) (fun c164 => ?_)
                            · refine z_aload hY eL_isOrdered_180 2 rfl ?_
                              refine z_const hY eL_isOrdered_181 ?_
                              refine z_callV (As := [z_i 4]) (rest := []) hY eL_isOrdered_182 (la_next (B := B) (κ := κ) (σ := (z_u σ4 0 0 X132)) hG (gS_X hI) (n := 4) (by omega)) ((gH_at (gS_X hI) (by decide)).trans (congrArg some lC_40)) (by decide) (Nat.le_of_ble_eq_true rfl) (by rw [hmc, hms]; omega) (fun _ _ q => q.elim) (fun vv146 hh146 q146 => ?_)
                              obtain ⟨r145, X145, rfl, hr145, hX145, rfl⟩ := q146
                              refine z_istore hY eL_isOrdered_185 (ls' := [(7, z_i r145), (6, z_i 1), (5, z_i 1), (0, .ref (A 40)), (1, .ref b), (2, z_i c), (3, z_i (r106 + 1)), (4, z_i t)]) rfl ?_
                              refine z_aload hY eL_isOrdered_187 3 rfl ?_
                              refine g_gf hY (gS_X hI) eL_isOrdered_188 (v := .ref (A 4)) rfl ?_
                              refine z_const hY eL_isOrdered_191 ?_
                              refine z_iload hY eL_isOrdered_192 5 rfl ?_
                              refine z_imul hY eL_isOrdered_193 ?_
                              refine z_iload hY eL_isOrdered_194 0 rfl ?_
                              refine z_iadd hY eL_isOrdered_196 ?_
                              refine z_dup2 hY eL_isOrdered_197 rfl rfl ?_
                              have hb147 := hw4.s4 (4 * c + r145)
                              refine g_ial hY (gS_X hI) eL_isOrdered_198 (j := 4) (N := 16) (x := σ4 4 (4 * c + r145)) (by decide) rfl (by omega) (Eq.trans (congrFun (z_u_ne (by decide)) _) (congrFun (z_u_ne (by decide)) _)) ?_
                              refine z_iload hY eL_isOrdered_199 2 rfl ?_
                              refine z_iload hY eL_isOrdered_201 1 rfl ?_
                              refine z_imul hY eL_isOrdered_203 ?_
                              refine z_top (b := 1) (by omega) ?_
                              refine z_iadd hY eL_isOrdered_204 ?_
                              refine g_ias hY (gS_X hI) eL_isOrdered_205 (j := 4) (N := 16) (by decide) (fun _ => rfl) (by omega) ?_
                              refine z_sub [3, 4, 5, 6, 7, 2, 1, 0] (ls' := [(0, .ref (A 40)), (1, .ref b), (2, z_i c), (3, z_i (r106 + 1)), (4, z_i t), (5, z_i 1), (6, z_i 1), (7, z_i r145)]) rfl ?_
                              have hq4 := h4b (4 * c + r145) (by omega) (by omega)
                              exact rest206 1 1 r145 (z_u (z_u (z_u σ4 0 0 X132) 0 0 X145) 4 (4 * c + r145) ((σ4 4 (4 * c + r145)) + 1)) (by omega) (by omega) (by omega) (fun k k0 k1 k2 k3 k4 => (z_u_ne (by omega)).trans ((z_u_ne (by omega)).trans ((z_u_ne (by omega)).trans (hF4 k k0 k1 k2 k3 k4)))) (wB_u (wB_u (wB_u hw4 (by show (-2147483648 : Int) ≤ _ ∧ _ ≤ (2147483647 : Int); omega)) (by show (-2147483648 : Int) ≤ _ ∧ _ ≤ (2147483647 : Int); omega)) (by show (-3996 : Int) ≤ _ ∧ _ ≤ (3996 : Int); omega)) rfl (fun i => by show z_u σ4 4 (4 * c + r145) ((σ4 4 (4 * c + r145)) + 1) 4 i = _; unfold z_up; by_cases c9 : i = 4 * c + r145; (rw [c9, if_pos rfl]; exact (congrArg (fun q => z_u σ4 4 q ((σ4 4 (4 * c + r145)) + 1) 4 (4 * c + r145)) (by omega)).trans (z_u_at.trans (by omega))); (rw [if_neg c9]; exact z_u_at' (by omega))) (by omega)
                            · refine z_iload hY eL_isOrdered_167 6 rfl ?_
                              refine z_ifne hY eL_isOrdered_169 (by omega) (fun c169 => ?_) (fun c169 => ?_)
                              · refine z_aload hY eL_isOrdered_180 2 rfl ?_
                                refine z_const hY eL_isOrdered_181 ?_
                                refine z_callV (As := [z_i 4]) (rest := []) hY eL_isOrdered_182 (la_next (B := B) (κ := κ) (σ := (z_u σ4 0 0 X132)) hG (gS_X hI) (n := 4) (by omega)) ((gH_at (gS_X hI) (by decide)).trans (congrArg some lC_40)) (by decide) (Nat.le_of_ble_eq_true rfl) (by rw [hmc, hms]; omega) (fun _ _ q => q.elim) (fun vv149 hh149 q149 => ?_)
                                obtain ⟨r148, X148, rfl, hr148, hX148, rfl⟩ := q149
                                refine z_istore hY eL_isOrdered_185 (ls' := [(7, z_i r148), (6, z_i 1), (5, z_i 1), (0, .ref (A 40)), (1, .ref b), (2, z_i c), (3, z_i (r106 + 1)), (4, z_i t)]) rfl ?_
                                refine z_aload hY eL_isOrdered_187 3 rfl ?_
                                refine g_gf hY (gS_X hI) eL_isOrdered_188 (v := .ref (A 4)) rfl ?_
                                refine z_const hY eL_isOrdered_191 ?_
                                refine z_iload hY eL_isOrdered_192 5 rfl ?_
                                refine z_imul hY eL_isOrdered_193 ?_
                                refine z_iload hY eL_isOrdered_194 0 rfl ?_
                                refine z_iadd hY eL_isOrdered_196 ?_
                                refine z_dup2 hY eL_isOrdered_197 rfl rfl ?_
                                have hb150 := hw4.s4 (4 * c + r148)
                                refine g_ial hY (gS_X hI) eL_isOrdered_198 (j := 4) (N := 16) (x := σ4 4 (4 * c + r148)) (by decide) rfl (by omega) (Eq.trans (congrFun (z_u_ne (by decide)) _) (congrFun (z_u_ne (by decide)) _)) ?_
                                refine z_iload hY eL_isOrdered_199 2 rfl ?_
                                refine z_iload hY eL_isOrdered_201 1 rfl ?_
                                refine z_imul hY eL_isOrdered_203 ?_
                                refine z_top (b := 1) (by omega) ?_
                                refine z_iadd hY eL_isOrdered_204 ?_
                                refine g_ias hY (gS_X hI) eL_isOrdered_205 (j := 4) (N := 16) (by decide) (fun _ => rfl) (by omega) ?_
                                refine z_sub [3, 4, 5, 6, 7, 2, 1, 0] (ls' := [(0, .ref (A 40)), (1, .ref b), (2, z_i c), (3, z_i (r106 + 1)), (4, z_i t), (5, z_i 1), (6, z_i 1), (7, z_i r148)]) rfl ?_
                                have hq4 := h4b (4 * c + r148) (by omega) (by omega)
                                exact rest206 1 1 r148 (z_u (z_u (z_u σ4 0 0 X132) 0 0 X148) 4 (4 * c + r148) ((σ4 4 (4 * c + r148)) + 1)) (by omega) (by omega) (by omega) (fun k k0 k1 k2 k3 k4 => (z_u_ne (by omega)).trans ((z_u_ne (by omega)).trans ((z_u_ne (by omega)).trans (hF4 k k0 k1 k2 k3 k4)))) (wB_u (wB_u (wB_u hw4 (by show (-2147483648 : Int) ≤ _ ∧ _ ≤ (2147483647 : Int); omega)) (by show (-2147483648 : Int) ≤ _ ∧ _ ≤ (2147483647 : Int); omega)) (by show (-3996 : Int) ≤ _ ∧ _ ≤ (3996 : Int); omega)) rfl (fun i => by show z_u σ4 4 (4 * c + r148) ((σ4 4 (4 * c + r148)) + 1) 4 i = _; unfold z_up; by_cases c9 : i = 4 * c + r148; (rw [c9, if_pos rfl]; exact (congrArg (fun q => z_u σ4 4 q ((σ4 4 (4 * c + r148)) + 1) 4 (4 * c + r148)) (by omega)).trans (z_u_at.trans (by omega))); (rw [if_neg c9]; exact z_u_at' (by omega))) (by omega)
                              · refine z_aload hY eL_isOrdered_172 2 rfl ?_
                                refine z_const hY eL_isOrdered_173 ?_
                                refine z_callV (As := [z_i 2]) (rest := []) hY eL_isOrdered_174 (la_next (B := B) (κ := κ) (σ := (z_u σ4 0 0 X132)) hG (gS_X hI) (n := 2) (by omega)) ((gH_at (gS_X hI) (by decide)).trans (congrArg some lC_40)) (by decide) (Nat.le_of_ble_eq_true rfl) (by rw [hmc, hms]; omega) (fun _ _ q => q.elim) (fun vv152 hh152 q152 => ?_)
                                obtain ⟨r151, X151, rfl, hr151, hX151, rfl⟩ := q152
                                refine z_goto hY eL_isOrdered_177 ?_
                                refine z_istore hY eL_isOrdered_185 (ls' := [(7, z_i r151), (6, z_i 1), (5, z_i 1), (0, .ref (A 40)), (1, .ref b), (2, z_i c), (3, z_i (r106 + 1)), (4, z_i t)]) rfl ?_
                                refine z_aload hY eL_isOrdered_187 3 rfl ?_
                                refine g_gf hY (gS_X hI) eL_isOrdered_188 (v := .ref (A 4)) rfl ?_
                                refine z_const hY eL_isOrdered_191 ?_
                                refine z_iload hY eL_isOrdered_192 5 rfl ?_
                                refine z_imul hY eL_isOrdered_193 ?_
                                refine z_iload hY eL_isOrdered_194 0 rfl ?_
                                refine z_iadd hY eL_isOrdered_196 ?_
                                refine z_dup2 hY eL_isOrdered_197 rfl rfl ?_
                                have hb153 := hw4.s4 (4 * c + r151)
                                refine g_ial hY (gS_X hI) eL_isOrdered_198 (j := 4) (N := 16) (x := σ4 4 (4 * c + r151)) (by decide) rfl (by omega) (Eq.trans (congrFun (z_u_ne (by decide)) _) (congrFun (z_u_ne (by decide)) _)) ?_
                                refine z_iload hY eL_isOrdered_199 2 rfl ?_
                                refine z_iload hY eL_isOrdered_201 1 rfl ?_
                                refine z_imul hY eL_isOrdered_203 ?_
                                refine z_top (b := 1) (by omega) ?_
                                refine z_iadd hY eL_isOrdered_204 ?_
                                refine g_ias hY (gS_X hI) eL_isOrdered_205 (j := 4) (N := 16) (by decide) (fun _ => rfl) (by omega) ?_
                                refine z_sub [3, 4, 5, 6, 7, 2, 1, 0] (ls' := [(0, .ref (A 40)), (1, .ref b), (2, z_i c), (3, z_i (r106 + 1)), (4, z_i t), (5, z_i 1), (6, z_i 1), (7, z_i r151)]) rfl ?_
                                have hq4 := h4b (4 * c + r151) (by omega) (by omega)
                                exact rest206 1 1 r151 (z_u (z_u (z_u σ4 0 0 X132) 0 0 X151) 4 (4 * c + r151) ((σ4 4 (4 * c + r151)) + 1)) (by omega) (by omega) (by omega) (fun k k0 k1 k2 k3 k4 => (z_u_ne (by omega)).trans ((z_u_ne (by omega)).trans ((z_u_ne (by omega)).trans (hF4 k k0 k1 k2 k3 k4)))) (wB_u (wB_u (wB_u hw4 (by show (-2147483648 : Int) ≤ _ ∧ _ ≤ (2147483647 : Int); omega)) (by show (-2147483648 : Int) ≤ _ ∧ _ ≤ (2147483647 : Int); omega)) (by show (-3996 : Int) ≤ _ ∧ _ ≤ (3996 : Int); omega)) rfl (fun i => by show z_u σ4 4 (4 * c + r151) ((σ4 4 (4 * c + r151)) + 1) 4 i = _; unfold z_up; by_cases c9 : i = 4 * c + r151; (rw [c9, if_pos rfl]; exact (congrArg (fun q => z_u σ4 4 q ((σ4 4 (4 * c + r151)) + 1) 4 (4 * c + r151)) (by omega)).trans (z_u_at.trans (by omega))); (rw [if_neg c9]; exact z_u_at' (by omega))) (by omega)
                        · refine z_aload hY eL_isOrdered_129 0 rfl ?_
                          refine z_const hY eL_isOrdered_130 ?_
                          refine z_callV (As := [z_i 2]) (rest := []) hY eL_isOrdered_131 (la_next (B := B) (κ := κ) (σ := σ4) hG (gS_X hI) (n := 2) (by omega)) ((gH_at (gS_X hI) (by decide)).trans (congrArg some lC_40)) (by decide) (Nat.le_of_ble_eq_true rfl) (by rw [hmc, hms]; omega) (fun _ _ q => q.elim) (fun vv155 hh155 q155 => ?_)
                          obtain ⟨r154, X154, rfl, hr154, hX154, rfl⟩ := q155
                          refine z_ifne hY eL_isOrdered_134 (by omega) (fun c134 => ?_) (fun c134 => ?_)
                          · refine z_const hY eL_isOrdered_141 ?_
                            refine z_istore hY eL_isOrdered_142 (ls' := [(5, z_i 1), (0, .ref (A 40)), (1, .ref b), (2, z_i c), (3, z_i (r106 + 1)), (4, z_i t)]) rfl ?_
                            refine z_aload hY eL_isOrdered_144 1 rfl ?_
                            refine z_const hY eL_isOrdered_145 ?_
                            refine z_callV (As := [z_i 2]) (rest := []) hY eL_isOrdered_146 (la_next (B := B) (κ := κ) (σ := (z_u σ4 0 0 X154)) hG (gS_X hI) (n := 2) (by omega)) ((gH_at (gS_X hI) (by decide)).trans (congrArg some lC_40)) (by decide) (Nat.le_of_ble_eq_true rfl) (by rw [hmc, hms]; omega) (fun _ _ q => q.elim) (fun vv157 hh157 q157 => ?_)
                            obtain ⟨r156, X156, rfl, hr156, hX156, rfl⟩ := q157
                            refine z_ifne hY eL_isOrdered_149 (by omega) (fun c149 => ?_) (fun c149 => ?_)
                            · refine z_aload hY eL_isOrdered_156 1 rfl ?_
                              refine z_const hY eL_isOrdered_157 ?_
                              refine z_callV (As := [z_i 5]) (rest := []) hY eL_isOrdered_158 (la_next (B := B) (κ := κ) (σ := (z_u (z_u σ4 0 0 X154) 0 0 X156)) hG (gS_X hI) (n := 5) (by omega)) ((gH_at (gS_X hI) (by decide)).trans (congrArg some lC_40)) (by decide) (Nat.le_of_ble_eq_true rfl) (by rw [hmc, hms]; omega) (fun _ _ q => q.elim) (fun vv159 hh159 q159 => ?_)
                              obtain ⟨r158, X158, rfl, hr158, hX158, rfl⟩ := q159
                              refine z_istore hY eL_isOrdered_161 (ls' := [(6, z_i r158), (5, z_i 1), (0, .ref (A 40)), (1, .ref b), (2, z_i c), (3, z_i (r106 + 1)), (4, z_i t)]) rfl ?_
                              refine z_iload hY eL_isOrdered_163 4 rfl ?_
                              refine z_ifne hY eL_isOrdered_164 (by omega) (fun c164 => ?_) (fun c164 => ?_)
                              · refine z_aload hY eL_isOrdered_180 2 rfl ?_
                                refine z_const hY eL_isOrdered_181 ?_
                                refine z_callV (As := [z_i 4]) (rest := []) hY eL_isOrdered_182 (la_next (B := B) (κ := κ) (σ := (z_u (z_u (z_u σ4 0 0 X154) 0 0 X156) 0 0 X158)) hG (gS_X hI) (n := 4) (by omega)) ((gH_at (gS_X hI) (by decide)).trans (congrArg some lC_40)) (by decide) (Nat.le_of_ble_eq_true rfl) (by rw [hmc, hms]; omega) (fun _ _ q => q.elim) (fun vv161 hh161 q161 => ?_)
                                obtain ⟨r160, X160, rfl, hr160, hX160, rfl⟩ := q161
                                refine z_istore hY eL_isOrdered_185 (ls' := [(7, z_i r160), (6, z_i r158), (5, z_i 1), (0, .ref (A 40)), (1, .ref b), (2, z_i c), (3, z_i (r106 + 1)), (4, z_i t)]) rfl ?_
                                refine z_aload hY eL_isOrdered_187 3 rfl ?_
                                refine g_gf hY (gS_X hI) eL_isOrdered_188 (v := .ref (A 4)) rfl ?_
                                refine z_const hY eL_isOrdered_191 ?_
                                refine z_iload hY eL_isOrdered_192 5 rfl ?_
                                refine z_imul hY eL_isOrdered_193 ?_
                                refine z_iload hY eL_isOrdered_194 0 rfl ?_
                                refine z_iadd hY eL_isOrdered_196 ?_
                                refine z_dup2 hY eL_isOrdered_197 rfl rfl ?_
                                have hb162 := hw4.s4 (4 * c + r160)
                                refine g_ial hY (gS_X hI) eL_isOrdered_198 (j := 4) (N := 16) (x := σ4 4 (4 * c + r160)) (by decide) rfl (by omega) (Eq.trans (congrFun (z_u_ne (by decide)) _) (Eq.trans (congrFun (z_u_ne (by decide)) _) (Eq.trans (congrFun (z_u_ne (by decide)) _) (congrFun (z_u_ne (by decide)) _)))) ?_
                                refine z_iload hY eL_isOrdered_199 2 rfl ?_
                                refine z_iload hY eL_isOrdered_201 1 rfl ?_
                                refine z_imul hY eL_isOrdered_203 ?_
                                refine z_top (b := r158) (by omega) ?_
                                refine z_iadd hY eL_isOrdered_204 ?_
                                refine g_ias hY (gS_X hI) eL_isOrdered_205 (j := 4) (N := 16) (by decide) (fun _ => rfl) (by omega) ?_
                                refine z_sub [3, 4, 5, 6, 7, 2, 1, 0] (ls' := [(0, .ref (A 40)), (1, .ref b), (2, z_i c), (3, z_i (r106 + 1)), (4, z_i t), (5, z_i 1), (6, z_i r158), (7, z_i r160)]) rfl ?_
                                have hq4 := h4b (4 * c + r160) (by omega) (by omega)
                                exact rest206 1 r158 r160 (z_u (z_u (z_u (z_u (z_u σ4 0 0 X154) 0 0 X156) 0 0 X158) 0 0 X160) 4 (4 * c + r160) ((σ4 4 (4 * c + r160)) + r158)) (by omega) (by omega) (by omega) (fun k k0 k1 k2 k3 k4 => (z_u_ne (by omega)).trans ((z_u_ne (by omega)).trans ((z_u_ne (by omega)).trans ((z_u_ne (by omega)).trans ((z_u_ne (by omega)).trans (hF4 k k0 k1 k2 k3 k4)))))) (wB_u (wB_u (wB_u (wB_u (wB_u hw4 (by show (-2147483648 : Int) ≤ _ ∧ _ ≤ (2147483647 : Int); omega)) (by show (-2147483648 : Int) ≤ _ ∧ _ ≤ (2147483647 : Int); omega)) (by show (-2147483648 : Int) ≤ _ ∧ _ ≤ (2147483647 : Int); omega)) (by show (-2147483648 : Int) ≤ _ ∧ _ ≤ (2147483647 : Int); omega)) (by show (-3996 : Int) ≤ _ ∧ _ ≤ (3996 : Int); omega)) rfl (fun i => by show z_u σ4 4 (4 * c + r160) ((σ4 4 (4 * c + r160)) + r158) 4 i = _; unfold z_up; by_cases c9 : i = 4 * c + r160; (rw [c9, if_pos rfl]; exact (congrArg (fun q => z_u σ4 4 q ((σ4 4 (4 * c + r160)) + r158) 4 (4 * c + r160)) (by omega)).trans (z_u_at.trans (by omega))); (rw [if_neg c9]; exact z_u_at' (by omega))) (by omega)
                              · refine z_iload hY eL_isOrdered_167 6 rfl ?_
                                refine z_ifne hY eL_isOrdered_169 (by omega) (fun c169 => ?_) (fun c169 => ?_)
                                · refine z_aload hY eL_isOrdered_180 2 rfl ?_
                                  refine z_const hY eL_isOrdered_181 ?_
                                  refine z_callV (As := [z_i 4]) (rest := []) hY eL_isOrdered_182 (la_next (B := B) (κ := κ) (σ := (z_u (z_u (z_u σ4 0 0 X154) 0 0 X156) 0 0 X158)) hG (gS_X hI) (n := 4) (by omega)) ((gH_at (gS_X hI) (by decide)).trans (congrArg some lC_40)) (by decide) (Nat.le_of_ble_eq_true rfl) (by rw [hmc, hms]; omega) (fun _ _ q => q.elim) (fun vv164 hh164 q164 => ?_)
                                  obtain ⟨r163, X163, rfl, hr163, hX163, rfl⟩ := q164
                                  refine z_istore hY eL_isOrdered_185 (ls' := [(7, z_i r163), (6, z_i r158), (5, z_i 1), (0, .ref (A 40)), (1, .ref b), (2, z_i c), (3, z_i (r106 + 1)), (4, z_i t)]) rfl ?_
                                  refine z_aload hY eL_isOrdered_187 3 rfl ?_
                                  refine g_gf hY (gS_X hI) eL_isOrdered_188 (v := .ref (A 4)) rfl ?_
                                  refine z_const hY eL_isOrdered_191 ?_
                                  refine z_iload hY eL_isOrdered_192 5 rfl ?_
                                  refine z_imul hY eL_isOrdered_193 ?_
                                  refine z_iload hY eL_isOrdered_194 0 rfl ?_
                                  refine z_iadd hY eL_isOrdered_196 ?_
                                  refine z_dup2 hY eL_isOrdered_197 rfl rfl ?_
                                  have hb165 := hw4.s4 (4 * c + r163)
                                  refine g_ial hY (gS_X hI) eL_isOrdered_198 (j := 4) (N := 16) (x := σ4 4 (4 * c + r163)) (by decide) rfl (by omega) (Eq.trans (congrFun (z_u_ne (by decide)) _) (Eq.trans (congrFun (z_u_ne (by decide)) _) (Eq.trans (congrFun (z_u_ne (by decide)) _) (congrFun (z_u_ne (by decide)) _)))) ?_
                                  refine z_iload hY eL_isOrdered_199 2 rfl ?_
                                  refine z_iload hY eL_isOrdered_201 1 rfl ?_
                                  refine z_imul hY eL_isOrdered_203 ?_
                                  refine z_top (b := r158) (by omega) ?_
                                  refine z_iadd hY eL_isOrdered_204 ?_
                                  refine g_ias hY (gS_X hI) eL_isOrdered_205 (j := 4) (N := 16) (by decide) (fun _ => rfl) (by omega) ?_
                                  refine z_sub [3, 4, 5, 6, 7, 2, 1, 0] (ls' := [(0, .ref (A 40)), (1, .ref b), (2, z_i c), (3, z_i (r106 + 1)), (4, z_i t), (5, z_i 1), (6, z_i r158), (7, z_i r163)]) rfl ?_
                                  have hq4 := h4b (4 * c + r163) (by omega) (by omega)
                                  exact rest206 1 r158 r163 (z_u (z_u (z_u (z_u (z_u σ4 0 0 X154) 0 0 X156) 0 0 X158) 0 0 X163) 4 (4 * c + r163) ((σ4 4 (4 * c + r163)) + r158)) (by omega) (by omega) (by omega) (fun k k0 k1 k2 k3 k4 => (z_u_ne (by omega)).trans ((z_u_ne (by omega)).trans ((z_u_ne (by omega)).trans ((z_u_ne (by omega)).trans ((z_u_ne (by omega)).trans (hF4 k k0 k1 k2 k3 k4)))))) (wB_u (wB_u (wB_u (wB_u (wB_u hw4 (by show (-2147483648 : Int) ≤ _ ∧ _ ≤ (2147483647 : Int); omega)) (by show (-2147483648 : Int) ≤ _ ∧ _ ≤ (2147483647 : Int); omega)) (by show (-2147483648 : Int) ≤ _ ∧ _ ≤ (2147483647 : Int); omega)) (by show (-2147483648 : Int) ≤ _ ∧ _ ≤ (2147483647 : Int); omega)) (by show (-3996 : Int) ≤ _ ∧ _ ≤ (3996 : Int); omega)) rfl (fun i => by show z_u σ4 4 (4 * c + r163) ((σ4 4 (4 * c + r163)) + r158) 4 i = _; unfold z_up; by_cases c9 : i = 4 * c + r163; (rw [c9, if_pos rfl]; exact (congrArg (fun q => z_u σ4 4 q ((σ4 4 (4 * c + r163)) + r158) 4 (4 * c + r163)) (by omega)).trans (z_u_at.trans (by omega))); (rw [if_neg c9]; exact z_u_at' (by omega))) (by omega)
                                · refine z_aload hY eL_isOrdered_172 2 rfl ?_
                                  refine z_const hY eL_isOrdered_173 ?_
                                  refine z_callV (As := [z_i 2]) (rest := []) hY eL_isOrdered_174 (la_next (B := B) (κ := κ) (σ := (z_u (z_u (z_u σ4 0 0 X154) 0 0 X156) 0 0 X158)) hG (gS_X hI) (n := 2) (by omega)) ((gH_at (gS_X hI) (by decide)).trans (congrArg some lC_40)) (by decide) (Nat.le_of_ble_eq_true rfl) (by rw [hmc, hms]; omega) (fun _ _ q => q.elim) (fun vv167 hh167 q167 => ?_)
                                  obtain ⟨r166, X166, rfl, hr166, hX166, rfl⟩ := q167
                                  refine z_goto hY eL_isOrdered_177 ?_
                                  refine z_istore hY eL_isOrdered_185 (ls' := [(7, z_i r166), (6, z_i r158), (5, z_i 1), (0, .ref (A 40)), (1, .ref b), (2, z_i c), (3, z_i (r106 + 1)), (4, z_i t)]) rfl ?_
                                  refine z_aload hY eL_isOrdered_187 3 rfl ?_
                                  refine g_gf hY (gS_X hI) eL_isOrdered_188 (v := .ref (A 4)) rfl ?_
                                  refine z_const hY eL_isOrdered_191 ?_
                                  refine z_iload hY eL_isOrdered_192 5 rfl ?_
                                  refine z_imul hY eL_isOrdered_193 ?_
                                  refine z_iload hY eL_isOrdered_194 0 rfl ?_
                                  refine z_iadd hY eL_isOrdered_196 ?_
                                  refine z_dup2 hY eL_isOrdered_197 rfl rfl ?_
                                  have hb168 := hw4.s4 (4 * c + r166)
                                  refine g_ial hY (gS_X hI) eL_isOrdered_198 (j := 4) (N := 16) (x := σ4 4 (4 * c + r166)) (by decide) rfl (by omega) (Eq.trans (congrFun (z_u_ne (by decide)) _) (Eq.trans (congrFun (z_u_ne (by decide)) _) (Eq.trans (congrFun (z_u_ne (by decide)) _) (congrFun (z_u_ne (by decide)) _)))) ?_
                                  refine z_iload hY eL_isOrdered_199 2 rfl ?_
                                  refine z_iload hY eL_isOrdered_201 1 rfl ?_
                                  refine z_imul hY eL_isOrdered_203 ?_
                                  refine z_top (b := r158) (by omega) ?_
                                  refine z_iadd hY eL_isOrdered_204 ?_
                                  refine g_ias hY (gS_X hI) eL_isOrdered_205 (j := 4) (N := 16) (by decide) (fun _ => rfl) (by omega) ?_
                                  refine z_sub [3, 4, 5, 6, 7, 2, 1, 0] (ls' := [(0, .ref (A 40)), (1, .ref b), (2, z_i c), (3, z_i (r106 + 1)), (4, z_i t), (5, z_i 1), (6, z_i r158), (7, z_i r166)]) rfl ?_
                                  have hq4 := h4b (4 * c + r166) (by omega) (by omega)
                                  exact rest206 1 r158 r166 (z_u (z_u (z_u (z_u (z_u σ4 0 0 X154) 0 0 X156) 0 0 X158) 0 0 X166) 4 (4 * c + r166) ((σ4 4 (4 * c + r166)) + r158)) (by omega) (by omega) (by omega) (fun k k0 k1 k2 k3 k4 => (z_u_ne (by omega)).trans ((z_u_ne (by omega)).trans ((z_u_ne (by omega)).trans ((z_u_ne (by omega)).trans ((z_u_ne (by omega)).trans (hF4 k k0 k1 k2 k3 k4)))))) (wB_u (wB_u (wB_u (wB_u (wB_u hw4 (by show (-2147483648 : Int) ≤ _ ∧ _ ≤ (2147483647 : Int); omega)) (by show (-2147483648 : Int) ≤ _ ∧ _ ≤ (2147483647 : Int); omega)) (by show (-2147483648 : Int) ≤ _ ∧ _ ≤ (2147483647 : Int); omega)) (by show (-2147483648 : Int) ≤ _ ∧ _ ≤ (2147483647 : Int); omega)) (by show (-3996 : Int) ≤ _ ∧ _ ≤ (3996 : Int); omega)) rfl (fun i => by show z_u σ4 4 (4 * c + r166) ((σ4 4 (4 * c + r166)) + r158) 4 i = _; unfold z_up; by_cases c9 : i = 4 * c + r166; (rw [c9, if_pos rfl]; exact (congrArg (fun q => z_u σ4 4 q ((σ4 4 (4 * c + r166)) + r158) 4 (4 * c + r166)) (by omega)).trans (z_u_at.trans (by omega))); (rw [if_neg c9]; exact z_u_at' (by omega))) (by omega)
                            · refine z_const hY eL_isOrdered_152 ?_
                              refine z_goto hY eL_isOrdered_153 ?_
                              refine z_istore hY eL_isOrdered_161 (ls' := [(6, z_i 1), (5, z_i 1), (0, .ref (A 40)), (1, .ref b), (2, z_i c), (3, z_i (r106 + 1)), (4, z_i t)]) rfl ?_
                              refine z_iload hY eL_isOrdered_163 4 rfl ?_
                              refine z_ifne hY eL_isOrdered_164 (by omega) (fun c164 => ?_) (fun c164 => ?_)
                              · refine z_aload hY eL_isOrdered_180 2 rfl ?_
                                refine z_const hY eL_isOrdered_181 ?_
                                refine z_callV (As := [z_i 4]) (rest := []) hY eL_isOrdered_182 (la_next (B := B) (κ := κ) (σ := (z_u (z_u σ4 0 0 X154) 0 0 X156)) hG (gS_X hI) (n := 4) (by omega)) ((gH_at (gS_X hI) (by decide)).trans (congrArg some lC_40)) (by decide) (Nat.le_of_ble_eq_true rfl) (by rw [hmc, hms]; omega) (fun _ _ q => q.elim) (fun vv170 hh170 q170 => ?_)
                                obtain ⟨r169, X169, rfl, hr169, hX169, rfl⟩ := q170
                                refine z_istore hY eL_isOrdered_185 (ls' := [(7, z_i r169), (6, z_i 1), (5, z_i 1), (0, .ref (A 40)), (1, .ref b), (2, z_i c), (3, z_i (r106 + 1)), (4, z_i t)]) rfl ?_
                                refine z_aload hY eL_isOrdered_187 3 rfl ?_
                                refine g_gf hY (gS_X hI) eL_isOrdered_188 (v := .ref (A 4)) rfl ?_
                                refine z_const hY eL_isOrdered_191 ?_
                                refine z_iload hY eL_isOrdered_192 5 rfl ?_
                                refine z_imul hY eL_isOrdered_193 ?_
                                refine z_iload hY eL_isOrdered_194 0 rfl ?_
                                refine z_iadd hY eL_isOrdered_196 ?_
                                refine z_dup2 hY eL_isOrdered_197 rfl rfl ?_
                                have hb171 := hw4.s4 (4 * c + r169)
                                refine g_ial hY (gS_X hI) eL_isOrdered_198 (j := 4) (N := 16) (x := σ4 4 (4 * c + r169)) (by decide) rfl (by omega) (Eq.trans (congrFun (z_u_ne (by decide)) _) (Eq.trans (congrFun (z_u_ne (by decide)) _) (congrFun (z_u_ne (by decide)) _))) ?_
                                refine z_iload hY eL_isOrdered_199 2 rfl ?_
                                refine z_iload hY eL_isOrdered_201 1 rfl ?_
                                refine z_imul hY eL_isOrdered_203 ?_
                                refine z_top (b := 1) (by omega) ?_
                                refine z_iadd hY eL_isOrdered_204 ?_
                                refine g_ias hY (gS_X hI) eL_isOrdered_205 (j := 4) (N := 16) (by decide) (fun _ => rfl) (by omega) ?_
                                refine z_sub [3, 4, 5, 6, 7, 2, 1, 0] (ls' := [(0, .ref (A 40)), (1, .ref b), (2, z_i c), (3, z_i (r106 + 1)), (4, z_i t), (5, z_i 1), (6, z_i 1), (7, z_i r169)]) rfl ?_
                                have hq4 := h4b (4 * c + r169) (by omega) (by omega)
                                exact rest206 1 1 r169 (z_u (z_u (z_u (z_u σ4 0 0 X154) 0 0 X156) 0 0 X169) 4 (4 * c + r169) ((σ4 4 (4 * c + r169)) + 1)) (by omega) (by omega) (by omega) (fun k k0 k1 k2 k3 k4 => (z_u_ne (by omega)).trans ((z_u_ne (by omega)).trans ((z_u_ne (by omega)).trans ((z_u_ne (by omega)).trans (hF4 k k0 k1 k2 k3 k4))))) (wB_u (wB_u (wB_u (wB_u hw4 (by show (-2147483648 : Int) ≤ _ ∧ _ ≤ (2147483647 : Int); omega)) (by show (-2147483648 : Int) ≤ _ ∧ _ ≤ (2147483647 : Int); omega)) (by show (-2147483648 : Int) ≤ _ ∧ _ ≤ (2147483647 : Int); omega)) (by show (-3996 : Int) ≤ _ ∧ _ ≤ (3996 : Int); omega)) rfl (fun i => by show z_u σ4 4 (4 * c + r169) ((σ4 4 (4 * c + r169)) + 1) 4 i = _; unfold z_up; by_cases c9 : i = 4 * c + r169; (rw [c9, if_pos rfl]; exact (congrArg (fun q => z_u σ4 4 q ((σ4 4 (4 * c + r169)) + 1) 4 (4 * c + r169)) (by omega)).trans (z_u_at.trans (by omega))); (rw [if_neg c9]; exact z_u_at' (by omega))) (by omega)
                              · refine z_iload hY eL_isOrdered_167 6 rfl ?_
                                refine z_ifne hY eL_isOrdered_169 (by omega) (fun c169 => ?_) (fun c169 => ?_)
                                · refine z_aload hY eL_isOrdered_180 2 rfl ?_
                                  refine z_const hY eL_isOrdered_181 ?_
                                  refine z_callV (As := [z_i 4]) (rest := []) hY eL_isOrdered_182 (la_next (B := B) (κ := κ) (σ := (z_u (z_u σ4 0 0 X154) 0 0 X156)) hG (gS_X hI) (n := 4) (by omega)) ((gH_at (gS_X hI) (by decide)).trans (congrArg some lC_40)) (by decide) (Nat.le_of_ble_eq_true rfl) (by rw [hmc, hms]; omega) (fun _ _ q => q.elim) (fun vv173 hh173 q173 => ?_)
                                  obtain ⟨r172, X172, rfl, hr172, hX172, rfl⟩ := q173
                                  refine z_istore hY eL_isOrdered_185 (ls' := [(7, z_i r172), (6, z_i 1), (5, z_i 1), (0, .ref (A 40)), (1, .ref b), (2, z_i c), (3, z_i (r106 + 1)), (4, z_i t)]) rfl ?_
                                  refine z_aload hY eL_isOrdered_187 3 rfl ?_
                                  refine g_gf hY (gS_X hI) eL_isOrdered_188 (v := .ref (A 4)) rfl ?_
                                  refine z_const hY eL_isOrdered_191 ?_
                                  refine z_iload hY eL_isOrdered_192 5 rfl ?_
                                  refine z_imul hY eL_isOrdered_193 ?_
                                  refine z_iload hY eL_isOrdered_194 0 rfl ?_
                                  refine z_iadd hY eL_isOrdered_196 ?_
                                  refine z_dup2 hY eL_isOrdered_197 rfl rfl ?_
                                  have hb174 := hw4.s4 (4 * c + r172)
                                  refine g_ial hY (gS_X hI) eL_isOrdered_198 (j := 4) (N := 16) (x := σ4 4 (4 * c + r172)) (by decide) rfl (by omega) (Eq.trans (congrFun (z_u_ne (by decide)) _) (Eq.trans (congrFun (z_u_ne (by decide)) _) (congrFun (z_u_ne (by decide)) _))) ?_
                                  refine z_iload hY eL_isOrdered_199 2 rfl ?_
                                  refine z_iload hY eL_isOrdered_201 1 rfl ?_
                                  refine z_imul hY eL_isOrdered_203 ?_
                                  refine z_top (b := 1) (by omega) ?_
                                  refine z_iadd hY eL_isOrdered_204 ?_
                                  refine g_ias hY (gS_X hI) eL_isOrdered_205 (j := 4) (N := 16) (by decide) (fun _ => rfl) (by omega) ?_
                                  refine z_sub [3, 4, 5, 6, 7, 2, 1, 0] (ls' := [(0, .ref (A 40)), (1, .ref b), (2, z_i c), (3, z_i (r106 + 1)), (4, z_i t), (5, z_i 1), (6, z_i 1), (7, z_i r172)]) rfl ?_
                                  have hq4 := h4b (4 * c + r172) (by omega) (by omega)
                                  exact rest206 1 1 r172 (z_u (z_u (z_u (z_u σ4 0 0 X154) 0 0 X156) 0 0 X172) 4 (4 * c + r172) ((σ4 4 (4 * c + r172)) + 1)) (by omega) (by omega) (by omega) (fun k k0 k1 k2 k3 k4 => (z_u_ne (by omega)).trans ((z_u_ne (by omega)).trans ((z_u_ne (by omega)).trans ((z_u_ne (by omega)).trans (hF4 k k0 k1 k2 k3 k4))))) (wB_u (wB_u (wB_u (wB_u hw4 (by show (-2147483648 : Int) ≤ _ ∧ _ ≤ (2147483647 : Int); omega)) (by show (-2147483648 : Int) ≤ _ ∧ _ ≤ (2147483647 : Int); omega)) (by show (-2147483648 : Int) ≤ _ ∧ _ ≤ (2147483647 : Int); omega)) (by show (-3996 : Int) ≤ _ ∧ _ ≤ (3996 : Int); omega)) rfl (fun i => by show z_u σ4 4 (4 * c + r172) ((σ4 4 (4 * c + r172)) + 1) 4 i = _; unfold z_up; by_cases c9 : i = 4 * c + r172; (rw [c9, if_pos rfl]; exact (congrArg (fun q => z_u σ4 4 q ((σ4 4 (4 * c + r172)) + 1) 4 (4 * c + r172)) (by omega)).trans (z_u_at.trans (by omega))); (rw [if_neg c9]; exact z_u_at' (by omega))) (by omega)
                                · refine z_aload hY eL_isOrdered_172 2 rfl ?_
                                  refine z_const hY eL_isOrdered_173 ?_
                                  refine z_callV (As := [z_i 2]) (rest := []) hY eL_isOrdered_174 (la_next (B := B) (κ := κ) (σ := (z_u (z_u σ4 0 0 X154) 0 0 X156)) hG (gS_X hI) (n := 2) (by omega)) ((gH_at (gS_X hI) (by decide)).trans (congrArg some lC_40)) (by decide) (Nat.le_of_ble_eq_true rfl) (by rw [hmc, hms]; omega) (fun _ _ q => q.elim) (fun vv176 hh176 q176 => ?_)
                                  obtain ⟨r175, X175, rfl, hr175, hX175, rfl⟩ := q176
                                  refine z_goto hY eL_isOrdered_177 ?_
                                  refine z_istore hY eL_isOrdered_185 (ls' := [(7, z_i r175), (6, z_i 1), (5, z_i 1), (0, .ref (A 40)), (1, .ref b), (2, z_i c), (3, z_i (r106 + 1)), (4, z_i t)]) rfl ?_
                                  refine z_aload hY eL_isOrdered_187 3 rfl ?_
                                  refine g_gf hY (gS_X hI) eL_isOrdered_188 (v := .ref (A 4)) rfl ?_
                                  refine z_const hY eL_isOrdered_191 ?_
                                  refine z_iload hY eL_isOrdered_192 5 rfl ?_
                                  refine z_imul hY eL_isOrdered_193 ?_
                                  refine z_iload hY eL_isOrdered_194 0 rfl ?_
                                  refine z_iadd hY eL_isOrdered_196 ?_
                                  refine z_dup2 hY eL_isOrdered_197 rfl rfl ?_
                                  have hb177 := hw4.s4 (4 * c + r175)
                                  refine g_ial hY (gS_X hI) eL_isOrdered_198 (j := 4) (N := 16) (x := σ4 4 (4 * c + r175)) (by decide) rfl (by omega) (Eq.trans (congrFun (z_u_ne (by decide)) _) (Eq.trans (congrFun (z_u_ne (by decide)) _) (congrFun (z_u_ne (by decide)) _))) ?_
                                  refine z_iload hY eL_isOrdered_199 2 rfl ?_
                                  refine z_iload hY eL_isOrdered_201 1 rfl ?_
                                  refine z_imul hY eL_isOrdered_203 ?_
                                  refine z_top (b := 1) (by omega) ?_
                                  refine z_iadd hY eL_isOrdered_204 ?_
                                  refine g_ias hY (gS_X hI) eL_isOrdered_205 (j := 4) (N := 16) (by decide) (fun _ => rfl) (by omega) ?_
                                  refine z_sub [3, 4, 5, 6, 7, 2, 1, 0] (ls' := [(0, .ref (A 40)), (1, .ref b), (2, z_i c), (3, z_i (r106 + 1)), (4, z_i t), (5, z_i 1), (6, z_i 1), (7, z_i r175)]) rfl ?_
                                  have hq4 := h4b (4 * c + r175) (by omega) (by omega)
                                  exact rest206 1 1 r175 (z_u (z_u (z_u (z_u σ4 0 0 X154) 0 0 X156) 0 0 X175) 4 (4 * c + r175) ((σ4 4 (4 * c + r175)) + 1)) (by omega) (by omega) (by omega) (fun k k0 k1 k2 k3 k4 => (z_u_ne (by omega)).trans ((z_u_ne (by omega)).trans ((z_u_ne (by omega)).trans ((z_u_ne (by omega)).trans (hF4 k k0 k1 k2 k3 k4))))) (wB_u (wB_u (wB_u (wB_u hw4 (by show (-2147483648 : Int) ≤ _ ∧ _ ≤ (2147483647 : Int); omega)) (by show (-2147483648 : Int) ≤ _ ∧ _ ≤ (2147483647 : Int); omega)) (by show (-2147483648 : Int) ≤ _ ∧ _ ≤ (2147483647 : Int); omega)) (by show (-3996 : Int) ≤ _ ∧ _ ≤ (3996 : Int); omega)) rfl (fun i => by show z_u σ4 4 (4 * c + r175) ((σ4 4 (4 * c + r175)) + 1) 4 i = _; unfold z_up; by_cases c9 : i = 4 * c + r175; (rw [c9, if_pos rfl]; exact (congrArg (fun q => z_u σ4 4 q ((σ4 4 (4 * c + r175)) + 1) 4 (4 * c + r175)) (by omega)).trans (z_u_at.trans (by omega))); (rw [if_neg c9]; exact z_u_at' (by omega))) (by omega)
                          · refine z_const hY eL_isOrdered_137 ?_
                            refine z_goto hY eL_isOrdered_138 ?_
                            refine z_istore hY eL_isOrdered_142 (ls' := [(5, z_i (-1)), (0, .ref (A 40)), (1, .ref b), (2, z_i c), (3, z_i (r106 + 1)), (4, z_i t)]) rfl ?_
                            refine z_aload hY eL_isOrdered_144 1 rfl ?_
                            refine z_const hY eL_isOrdered_145 ?_
                            refine z_callV (As := [z_i 2]) (rest := []) hY eL_isOrdered_146 (la_next (B := B) (κ := κ) (σ := (z_u σ4 0 0 X154)) hG (gS_X hI) (n := 2) (by omega)) ((gH_at (gS_X hI) (by decide)).trans (congrArg some lC_40)) (by decide) (Nat.le_of_ble_eq_true rfl) (by rw [hmc, hms]; omega) (fun _ _ q => q.elim) (fun vv179 hh179 q179 => ?_)
                            obtain ⟨r178, X178, rfl, hr178, hX178, rfl⟩ := q179
                            refine z_ifne hY eL_isOrdered_149 (by omega) (fun c149 => ?_) (fun c149 => ?_)
                            · refine z_aload hY eL_isOrdered_156 1 rfl ?_
                              refine z_const hY eL_isOrdered_157 ?_
                              refine z_callV (As := [z_i 5]) (rest := []) hY eL_isOrdered_158 (la_next (B := B) (κ := κ) (σ := (z_u (z_u σ4 0 0 X154) 0 0 X178)) hG (gS_X hI) (n := 5) (by omega)) ((gH_at (gS_X hI) (by decide)).trans (congrArg some lC_40)) (by decide) (Nat.le_of_ble_eq_true rfl) (by rw [hmc, hms]; omega) (fun _ _ q => q.elim) (fun vv181 hh181 q181 => ?_)
                              obtain ⟨r180, X180, rfl, hr180, hX180, rfl⟩ := q181
                              refine z_istore hY eL_isOrdered_161 (ls' := [(6, z_i r180), (5, z_i (-1)), (0, .ref (A 40)), (1, .ref b), (2, z_i c), (3, z_i (r106 + 1)), (4, z_i t)]) rfl ?_
                              refine z_iload hY eL_isOrdered_163 4 rfl ?_
                              refine z_ifne hY eL_isOrdered_164 (by omega) (fun c164 => ?_) (fun c164 => ?_)
                              · refine z_aload hY eL_isOrdered_180 2 rfl ?_
                                refine z_const hY eL_isOrdered_181 ?_
                                refine z_callV (As := [z_i 4]) (rest := []) hY eL_isOrdered_182 (la_next (B := B) (κ := κ) (σ := (z_u (z_u (z_u σ4 0 0 X154) 0 0 X178) 0 0 X180)) hG (gS_X hI) (n := 4) (by omega)) ((gH_at (gS_X hI) (by decide)).trans (congrArg some lC_40)) (by decide) (Nat.le_of_ble_eq_true rfl) (by rw [hmc, hms]; omega) (fun _ _ q => q.elim) (fun vv183 hh183 q183 => ?_)
                                obtain ⟨r182, X182, rfl, hr182, hX182, rfl⟩ := q183
                                refine z_istore hY eL_isOrdered_185 (ls' := [(7, z_i r182), (6, z_i r180), (5, z_i (-1)), (0, .ref (A 40)), (1, .ref b), (2, z_i c), (3, z_i (r106 + 1)), (4, z_i t)]) rfl ?_
                                refine z_aload hY eL_isOrdered_187 3 rfl ?_
                                refine g_gf hY (gS_X hI) eL_isOrdered_188 (v := .ref (A 4)) rfl ?_
                                refine z_const hY eL_isOrdered_191 ?_
                                refine z_iload hY eL_isOrdered_192 5 rfl ?_
                                refine z_imul hY eL_isOrdered_193 ?_
                                refine z_iload hY eL_isOrdered_194 0 rfl ?_
                                refine z_iadd hY eL_isOrdered_196 ?_
                                refine z_dup2 hY eL_isOrdered_197 rfl rfl ?_
                                have hb184 := hw4.s4 (4 * c + r182)
                                refine g_ial hY (gS_X hI) eL_isOrdered_198 (j := 4) (N := 16) (x := σ4 4 (4 * c + r182)) (by decide) rfl (by omega) (Eq.trans (congrFun (z_u_ne (by decide)) _) (Eq.trans (congrFun (z_u_ne (by decide)) _) (Eq.trans (congrFun (z_u_ne (by decide)) _) (congrFun (z_u_ne (by decide)) _)))) ?_
                                refine z_iload hY eL_isOrdered_199 2 rfl ?_
                                refine z_iload hY eL_isOrdered_201 1 rfl ?_
                                refine z_imul hY eL_isOrdered_203 ?_
                                refine z_top (b := -r180) (by omega) ?_
                                refine z_iadd hY eL_isOrdered_204 ?_
                                refine z_top (b := (σ4 4 (4 * c + r182)) - r180) (by omega) ?_
                                refine g_ias hY (gS_X hI) eL_isOrdered_205 (j := 4) (N := 16) (by decide) (fun _ => rfl) (by omega) ?_
                                refine z_sub [3, 4, 5, 6, 7, 2, 1, 0] (ls' := [(0, .ref (A 40)), (1, .ref b), (2, z_i c), (3, z_i (r106 + 1)), (4, z_i t), (5, z_i (-1)), (6, z_i r180), (7, z_i r182)]) rfl ?_
                                have hq4 := h4b (4 * c + r182) (by omega) (by omega)
                                exact rest206 (-1) r180 r182 (z_u (z_u (z_u (z_u (z_u σ4 0 0 X154) 0 0 X178) 0 0 X180) 0 0 X182) 4 (4 * c + r182) ((σ4 4 (4 * c + r182)) - r180)) (by omega) (by omega) (by omega) (fun k k0 k1 k2 k3 k4 => (z_u_ne (by omega)).trans ((z_u_ne (by omega)).trans ((z_u_ne (by omega)).trans ((z_u_ne (by omega)).trans ((z_u_ne (by omega)).trans (hF4 k k0 k1 k2 k3 k4)))))) (wB_u (wB_u (wB_u (wB_u (wB_u hw4 (by show (-2147483648 : Int) ≤ _ ∧ _ ≤ (2147483647 : Int); omega)) (by show (-2147483648 : Int) ≤ _ ∧ _ ≤ (2147483647 : Int); omega)) (by show (-2147483648 : Int) ≤ _ ∧ _ ≤ (2147483647 : Int); omega)) (by show (-2147483648 : Int) ≤ _ ∧ _ ≤ (2147483647 : Int); omega)) (by show (-3996 : Int) ≤ _ ∧ _ ≤ (3996 : Int); omega)) rfl (fun i => by show z_u σ4 4 (4 * c + r182) ((σ4 4 (4 * c + r182)) - r180) 4 i = _; unfold z_up; by_cases c9 : i = 4 * c + r182; (rw [c9, if_pos rfl]; exact (congrArg (fun q => z_u σ4 4 q ((σ4 4 (4 * c + r182)) - r180) 4 (4 * c + r182)) (by omega)).trans (z_u_at.trans (by omega))); (rw [if_neg c9]; exact z_u_at' (by omega))) (by omega)
                              · refine z_iload hY eL_isOrdered_167 6 rfl ?_
                                refine z_ifne hY eL_isOrdered_169 (by omega) (fun c169 => ?_) (fun c169 => ?_)
                                · refine z_aload hY eL_isOrdered_180 2 rfl ?_
                                  refine z_const hY eL_isOrdered_181 ?_
                                  refine z_callV (As := [z_i 4]) (rest := []) hY eL_isOrdered_182 (la_next (B := B) (κ := κ) (σ := (z_u (z_u (z_u σ4 0 0 X154) 0 0 X178) 0 0 X180)) hG (gS_X hI) (n := 4) (by omega)) ((gH_at (gS_X hI) (by decide)).trans (congrArg some lC_40)) (by decide) (Nat.le_of_ble_eq_true rfl) (by rw [hmc, hms]; omega) (fun _ _ q => q.elim) (fun vv186 hh186 q186 => ?_)
                                  obtain ⟨r185, X185, rfl, hr185, hX185, rfl⟩ := q186
                                  refine z_istore hY eL_isOrdered_185 (ls' := [(7, z_i r185), (6, z_i r180), (5, z_i (-1)), (0, .ref (A 40)), (1, .ref b), (2, z_i c), (3, z_i (r106 + 1)), (4, z_i t)]) rfl ?_
                                  refine z_aload hY eL_isOrdered_187 3 rfl ?_
                                  refine g_gf hY (gS_X hI) eL_isOrdered_188 (v := .ref (A 4)) rfl ?_
                                  refine z_const hY eL_isOrdered_191 ?_
                                  refine z_iload hY eL_isOrdered_192 5 rfl ?_
                                  refine z_imul hY eL_isOrdered_193 ?_
                                  refine z_iload hY eL_isOrdered_194 0 rfl ?_
                                  refine z_iadd hY eL_isOrdered_196 ?_
                                  refine z_dup2 hY eL_isOrdered_197 rfl rfl ?_
                                  have hb187 := hw4.s4 (4 * c + r185)
                                  refine g_ial hY (gS_X hI) eL_isOrdered_198 (j := 4) (N := 16) (x := σ4 4 (4 * c + r185)) (by decide) rfl (by omega) (Eq.trans (congrFun (z_u_ne (by decide)) _) (Eq.trans (congrFun (z_u_ne (by decide)) _) (Eq.trans (congrFun (z_u_ne (by decide)) _) (congrFun (z_u_ne (by decide)) _)))) ?_
                                  refine z_iload hY eL_isOrdered_199 2 rfl ?_
                                  refine z_iload hY eL_isOrdered_201 1 rfl ?_
                                  refine z_imul hY eL_isOrdered_203 ?_
                                  refine z_top (b := -r180) (by omega) ?_
                                  refine z_iadd hY eL_isOrdered_204 ?_
                                  refine z_top (b := (σ4 4 (4 * c + r185)) - r180) (by omega) ?_
                                  refine g_ias hY (gS_X hI) eL_isOrdered_205 (j := 4) (N := 16) (by decide) (fun _ => rfl) (by omega) ?_
                                  refine z_sub [3, 4, 5, 6, 7, 2, 1, 0] (ls' := [(0, .ref (A 40)), (1, .ref b), (2, z_i c), (3, z_i (r106 + 1)), (4, z_i t), (5, z_i (-1)), (6, z_i r180), (7, z_i r185)]) rfl ?_
                                  have hq4 := h4b (4 * c + r185) (by omega) (by omega)
                                  exact rest206 (-1) r180 r185 (z_u (z_u (z_u (z_u (z_u σ4 0 0 X154) 0 0 X178) 0 0 X180) 0 0 X185) 4 (4 * c + r185) ((σ4 4 (4 * c + r185)) - r180)) (by omega) (by omega) (by omega) (fun k k0 k1 k2 k3 k4 => (z_u_ne (by omega)).trans ((z_u_ne (by omega)).trans ((z_u_ne (by omega)).trans ((z_u_ne (by omega)).trans ((z_u_ne (by omega)).trans (hF4 k k0 k1 k2 k3 k4)))))) (wB_u (wB_u (wB_u (wB_u (wB_u hw4 (by show (-2147483648 : Int) ≤ _ ∧ _ ≤ (2147483647 : Int); omega)) (by show (-2147483648 : Int) ≤ _ ∧ _ ≤ (2147483647 : Int); omega)) (by show (-2147483648 : Int) ≤ _ ∧ _ ≤ (2147483647 : Int); omega)) (by show (-2147483648 : Int) ≤ _ ∧ _ ≤ (2147483647 : Int); omega)) (by show (-3996 : Int) ≤ _ ∧ _ ≤ (3996 : Int); omega)) rfl (fun i => by show z_u σ4 4 (4 * c + r185) ((σ4 4 (4 * c + r185)) - r180) 4 i = _; unfold z_up; by_cases c9 : i = 4 * c + r185; (rw [c9, if_pos rfl]; exact (congrArg (fun q => z_u σ4 4 q ((σ4 4 (4 * c + r185)) - r180) 4 (4 * c + r185)) (by omega)).trans (z_u_at.trans (by omega))); (rw [if_neg c9]; exact z_u_at' (by omega))) (by omega)
                                · refine z_aload hY eL_isOrdered_172 2 rfl ?_
                                  refine z_const hY eL_isOrdered_173 ?_
                                  refine z_callV (As := [z_i 2]) (rest := []) hY eL_isOrdered_174 (la_next (B := B) (κ := κ) (σ := (z_u (z_u (z_u σ4 0 0 X154) 0 0 X178) 0 0 X180)) hG (gS_X hI) (n := 2) (by omega)) ((gH_at (gS_X hI) (by decide)).trans (congrArg some lC_40)) (by decide) (Nat.le_of_ble_eq_true rfl) (by rw [hmc, hms]; omega) (fun _ _ q => q.elim) (fun vv189 hh189 q189 => ?_)
                                  obtain ⟨r188, X188, rfl, hr188, hX188, rfl⟩ := q189
                                  refine z_goto hY eL_isOrdered_177 ?_
                                  refine z_istore hY eL_isOrdered_185 (ls' := [(7, z_i r188), (6, z_i r180), (5, z_i (-1)), (0, .ref (A 40)), (1, .ref b), (2, z_i c), (3, z_i (r106 + 1)), (4, z_i t)]) rfl ?_
                                  refine z_aload hY eL_isOrdered_187 3 rfl ?_
                                  refine g_gf hY (gS_X hI) eL_isOrdered_188 (v := .ref (A 4)) rfl ?_
                                  refine z_const hY eL_isOrdered_191 ?_
                                  refine z_iload hY eL_isOrdered_192 5 rfl ?_
                                  refine z_imul hY eL_isOrdered_193 ?_
                                  refine z_iload hY eL_isOrdered_194 0 rfl ?_
                                  refine z_iadd hY eL_isOrdered_196 ?_
                                  refine z_dup2 hY eL_isOrdered_197 rfl rfl ?_
                                  have hb190 := hw4.s4 (4 * c + r188)
                                  refine g_ial hY (gS_X hI) eL_isOrdered_198 (j := 4) (N := 16) (x := σ4 4 (4 * c + r188)) (by decide) rfl (by omega) (Eq.trans (congrFun (z_u_ne (by decide)) _) (Eq.trans (congrFun (z_u_ne (by decide)) _) (Eq.trans (congrFun (z_u_ne (by decide)) _) (congrFun (z_u_ne (by decide)) _)))) ?_
                                  refine z_iload hY eL_isOrdered_199 2 rfl ?_
                                  refine z_iload hY eL_isOrdered_201 1 rfl ?_
                                  refine z_imul hY eL_isOrdered_203 ?_
                                  refine z_top (b := -r180) (by omega) ?_
                                  refine z_iadd hY eL_isOrdered_204 ?_
                                  refine z_top (b := (σ4 4 (4 * c + r188)) - r180) (by omega) ?_
                                  refine g_ias hY (gS_X hI) eL_isOrdered_205 (j := 4) (N := 16) (by decide) (fun _ => rfl) (by omega) ?_
                                  refine z_sub [3, 4, 5, 6, 7, 2, 1, 0] (ls' := [(0, .ref (A 40)), (1, .ref b), (2, z_i c), (3, z_i (r106 + 1)), (4, z_i t), (5, z_i (-1)), (6, z_i r180), (7, z_i r188)]) rfl ?_
                                  have hq4 := h4b (4 * c + r188) (by omega) (by omega)
                                  exact rest206 (-1) r180 r188 (z_u (z_u (z_u (z_u (z_u σ4 0 0 X154) 0 0 X178) 0 0 X180) 0 0 X188) 4 (4 * c + r188) ((σ4 4 (4 * c + r188)) - r180)) (by omega) (by omega) (by omega) (fun k k0 k1 k2 k3 k4 => (z_u_ne (by omega)).trans ((z_u_ne (by omega)).trans ((z_u_ne (by omega)).trans ((z_u_ne (by omega)).trans ((z_u_ne (by omega)).trans (hF4 k k0 k1 k2 k3 k4)))))) (wB_u (wB_u (wB_u (wB_u (wB_u hw4 (by show (-2147483648 : Int) ≤ _ ∧ _ ≤ (2147483647 : Int); omega)) (by show (-2147483648 : Int) ≤ _ ∧ _ ≤ (2147483647 : Int); omega)) (by show (-2147483648 : Int) ≤ _ ∧ _ ≤ (2147483647 : Int); omega)) (by show (-2147483648 : Int) ≤ _ ∧ _ ≤ (2147483647 : Int); omega)) (by show (-3996 : Int) ≤ _ ∧ _ ≤ (3996 : Int); omega)) rfl (fun i => by show z_u σ4 4 (4 * c + r188) ((σ4 4 (4 * c + r188)) - r180) 4 i = _; unfold z_up; by_cases c9 : i = 4 * c + r188; (rw [c9, if_pos rfl]; exact (congrArg (fun q => z_u σ4 4 q ((σ4 4 (4 * c + r188)) - r180) 4 (4 * c + r188)) (by omega)).trans (z_u_at.trans (by omega))); (rw [if_neg c9]; exact z_u_at' (by omega))) (by omega)
                            · refine z_const hY eL_isOrdered_152 ?_
                              refine z_goto hY eL_isOrdered_153 ?_
                              refine z_istore hY eL_isOrdered_161 (ls' := [(6, z_i 1), (5, z_i (-1)), (0, .ref (A 40)), (1, .ref b), (2, z_i c), (3, z_i (r106 + 1)), (4, z_i t)]) rfl ?_
                              refine z_iload hY eL_isOrdered_163 4 rfl ?_
                              refine z_ifne hY eL_isOrdered_164 (by omega) (fun c164 => ?_) (fun c164 => ?_)
                              · refine z_aload hY eL_isOrdered_180 2 rfl ?_
                                refine z_const hY eL_isOrdered_181 ?_
                                refine z_callV (As := [z_i 4]) (rest := []) hY eL_isOrdered_182 (la_next (B := B) (κ := κ) (σ := (z_u (z_u σ4 0 0 X154) 0 0 X178)) hG (gS_X hI) (n := 4) (by omega)) ((gH_at (gS_X hI) (by decide)).trans (congrArg some lC_40)) (by decide) (Nat.le_of_ble_eq_true rfl) (by rw [hmc, hms]; omega) (fun _ _ q => q.elim) (fun vv192 hh192 q192 => ?_)
                                obtain ⟨r191, X191, rfl, hr191, hX191, rfl⟩ := q192
                                refine z_istore hY eL_isOrdered_185 (ls' := [(7, z_i r191), (6, z_i 1), (5, z_i (-1)), (0, .ref (A 40)), (1, .ref b), (2, z_i c), (3, z_i (r106 + 1)), (4, z_i t)]) rfl ?_
                                refine z_aload hY eL_isOrdered_187 3 rfl ?_
                                refine g_gf hY (gS_X hI) eL_isOrdered_188 (v := .ref (A 4)) rfl ?_
                                refine z_const hY eL_isOrdered_191 ?_
                                refine z_iload hY eL_isOrdered_192 5 rfl ?_
                                refine z_imul hY eL_isOrdered_193 ?_
                                refine z_iload hY eL_isOrdered_194 0 rfl ?_
                                refine z_iadd hY eL_isOrdered_196 ?_
                                refine z_dup2 hY eL_isOrdered_197 rfl rfl ?_
                                have hb193 := hw4.s4 (4 * c + r191)
                                refine g_ial hY (gS_X hI) eL_isOrdered_198 (j := 4) (N := 16) (x := σ4 4 (4 * c + r191)) (by decide) rfl (by omega) (Eq.trans (congrFun (z_u_ne (by decide)) _) (Eq.trans (congrFun (z_u_ne (by decide)) _) (congrFun (z_u_ne (by decide)) _))) ?_
                                refine z_iload hY eL_isOrdered_199 2 rfl ?_
                                refine z_iload hY eL_isOrdered_201 1 rfl ?_
                                refine z_imul hY eL_isOrdered_203 ?_
                                refine z_top (b := (-1)) (by omega) ?_
                                refine z_iadd hY eL_isOrdered_204 ?_
                                refine z_top (b := (σ4 4 (4 * c + r191)) - 1) (by omega) ?_
                                refine g_ias hY (gS_X hI) eL_isOrdered_205 (j := 4) (N := 16) (by decide) (fun _ => rfl) (by omega) ?_
                                refine z_sub [3, 4, 5, 6, 7, 2, 1, 0] (ls' := [(0, .ref (A 40)), (1, .ref b), (2, z_i c), (3, z_i (r106 + 1)), (4, z_i t), (5, z_i (-1)), (6, z_i 1), (7, z_i r191)]) rfl ?_
                                have hq4 := h4b (4 * c + r191) (by omega) (by omega)
                                exact rest206 (-1) 1 r191 (z_u (z_u (z_u (z_u σ4 0 0 X154) 0 0 X178) 0 0 X191) 4 (4 * c + r191) ((σ4 4 (4 * c + r191)) - 1)) (by omega) (by omega) (by omega) (fun k k0 k1 k2 k3 k4 => (z_u_ne (by omega)).trans ((z_u_ne (by omega)).trans ((z_u_ne (by omega)).trans ((z_u_ne (by omega)).trans (hF4 k k0 k1 k2 k3 k4))))) (wB_u (wB_u (wB_u (wB_u hw4 (by show (-2147483648 : Int) ≤ _ ∧ _ ≤ (2147483647 : Int); omega)) (by show (-2147483648 : Int) ≤ _ ∧ _ ≤ (2147483647 : Int); omega)) (by show (-2147483648 : Int) ≤ _ ∧ _ ≤ (2147483647 : Int); omega)) (by show (-3996 : Int) ≤ _ ∧ _ ≤ (3996 : Int); omega)) rfl (fun i => by show z_u σ4 4 (4 * c + r191) ((σ4 4 (4 * c + r191)) - 1) 4 i = _; unfold z_up; by_cases c9 : i = 4 * c + r191; (rw [c9, if_pos rfl]; exact (congrArg (fun q => z_u σ4 4 q ((σ4 4 (4 * c + r191)) - 1) 4 (4 * c + r191)) (by omega)).trans (z_u_at.trans (by omega))); (rw [if_neg c9]; exact z_u_at' (by omega))) (by omega)
                              · refine z_iload hY eL_isOrdered_167 6 rfl ?_
                                refine z_ifne hY eL_isOrdered_169 (by omega) (fun c169 => ?_) (fun c169 => ?_)
                                · refine z_aload hY eL_isOrdered_180 2 rfl ?_
                                  refine z_const hY eL_isOrdered_181 ?_
                                  refine z_callV (As := [z_i 4]) (rest := []) hY eL_isOrdered_182 (la_next (B := B) (κ := κ) (σ := (z_u (z_u σ4 0 0 X154) 0 0 X178)) hG (gS_X hI) (n := 4) (by omega)) ((gH_at (gS_X hI) (by decide)).trans (congrArg some lC_40)) (by decide) (Nat.le_of_ble_eq_true rfl) (by rw [hmc, hms]; omega) (fun _ _ q => q.elim) (fun vv195 hh195 q195 => ?_)
                                  obtain ⟨r194, X194, rfl, hr194, hX194, rfl⟩ := q195
                                  refine z_istore hY eL_isOrdered_185 (ls' := [(7, z_i r194), (6, z_i 1), (5, z_i (-1)), (0, .ref (A 40)), (1, .ref b), (2, z_i c), (3, z_i (r106 + 1)), (4, z_i t)]) rfl ?_
                                  refine z_aload hY eL_isOrdered_187 3 rfl ?_
                                  refine g_gf hY (gS_X hI) eL_isOrdered_188 (v := .ref (A 4)) rfl ?_
                                  refine z_const hY eL_isOrdered_191 ?_
                                  refine z_iload hY eL_isOrdered_192 5 rfl ?_
                                  refine z_imul hY eL_isOrdered_193 ?_
                                  refine z_iload hY eL_isOrdered_194 0 rfl ?_
                                  refine z_iadd hY eL_isOrdered_196 ?_
                                  refine z_dup2 hY eL_isOrdered_197 rfl rfl ?_
                                  have hb196 := hw4.s4 (4 * c + r194)
                                  refine g_ial hY (gS_X hI) eL_isOrdered_198 (j := 4) (N := 16) (x := σ4 4 (4 * c + r194)) (by decide) rfl (by omega) (Eq.trans (congrFun (z_u_ne (by decide)) _) (Eq.trans (congrFun (z_u_ne (by decide)) _) (congrFun (z_u_ne (by decide)) _))) ?_
                                  refine z_iload hY eL_isOrdered_199 2 rfl ?_
                                  refine z_iload hY eL_isOrdered_201 1 rfl ?_
                                  refine z_imul hY eL_isOrdered_203 ?_
                                  refine z_top (b := (-1)) (by omega) ?_
                                  refine z_iadd hY eL_isOrdered_204 ?_
                                  refine z_top (b := (σ4 4 (4 * c + r194)) - 1) (by omega) ?_
                                  refine g_ias hY (gS_X hI) eL_isOrdered_205 (j := 4) (N := 16) (by decide) (fun _ => rfl) (by omega) ?_
                                  refine z_sub [3, 4, 5, 6, 7, 2, 1, 0] (ls' := [(0, .ref (A 40)), (1, .ref b), (2, z_i c), (3, z_i (r106 + 1)), (4, z_i t), (5, z_i (-1)), (6, z_i 1), (7, z_i r194)]) rfl ?_
                                  have hq4 := h4b (4 * c + r194) (by omega) (by omega)
                                  exact rest206 (-1) 1 r194 (z_u (z_u (z_u (z_u σ4 0 0 X154) 0 0 X178) 0 0 X194) 4 (4 * c + r194) ((σ4 4 (4 * c + r194)) - 1)) (by omega) (by omega) (by omega) (fun k k0 k1 k2 k3 k4 => (z_u_ne (by omega)).trans ((z_u_ne (by omega)).trans ((z_u_ne (by omega)).trans ((z_u_ne (by omega)).trans (hF4 k k0 k1 k2 k3 k4))))) (wB_u (wB_u (wB_u (wB_u hw4 (by show (-2147483648 : Int) ≤ _ ∧ _ ≤ (2147483647 : Int); omega)) (by show (-2147483648 : Int) ≤ _ ∧ _ ≤ (2147483647 : Int); omega)) (by show (-2147483648 : Int) ≤ _ ∧ _ ≤ (2147483647 : Int); omega)) (by show (-3996 : Int) ≤ _ ∧ _ ≤ (3996 : Int); omega)) rfl (fun i => by show z_u σ4 4 (4 * c + r194) ((σ4 4 (4 * c + r194)) - 1) 4 i = _; unfold z_up; by_cases c9 : i = 4 * c + r194; (rw [c9, if_pos rfl]; exact (congrArg (fun q => z_u σ4 4 q ((σ4 4 (4 * c + r194)) - 1) 4 (4 * c + r194)) (by omega)).trans (z_u_at.trans (by omega))); (rw [if_neg c9]; exact z_u_at' (by omega))) (by omega)
                                · refine z_aload hY eL_isOrdered_172 2 rfl ?_
                                  refine z_const hY eL_isOrdered_173 ?_
                                  refine z_callV (As := [z_i 2]) (rest := []) hY eL_isOrdered_174 (la_next (B := B) (κ := κ) (σ := (z_u (z_u σ4 0 0 X154) 0 0 X178)) hG (gS_X hI) (n := 2) (by omega)) ((gH_at (gS_X hI) (by decide)).trans (congrArg some lC_40)) (by decide) (Nat.le_of_ble_eq_true rfl) (by rw [hmc, hms]; omega) (fun _ _ q => q.elim) (fun vv198 hh198 q198 => ?_)
                                  obtain ⟨r197, X197, rfl, hr197, hX197, rfl⟩ := q198
                                  refine z_goto hY eL_isOrdered_177 ?_
                                  refine z_istore hY eL_isOrdered_185 (ls' := [(7, z_i r197), (6, z_i 1), (5, z_i (-1)), (0, .ref (A 40)), (1, .ref b), (2, z_i c), (3, z_i (r106 + 1)), (4, z_i t)]) rfl ?_
                                  refine z_aload hY eL_isOrdered_187 3 rfl ?_
                                  refine g_gf hY (gS_X hI) eL_isOrdered_188 (v := .ref (A 4)) rfl ?_
                                  refine z_const hY eL_isOrdered_191 ?_
                                  refine z_iload hY eL_isOrdered_192 5 rfl ?_
                                  refine z_imul hY eL_isOrdered_193 ?_
                                  refine z_iload hY eL_isOrdered_194 0 rfl ?_
                                  refine z_iadd hY eL_isOrdered_196 ?_
                                  refine z_dup2 hY eL_isOrdered_197 rfl rfl ?_
                                  have hb199 := hw4.s4 (4 * c + r197)
                                  refine g_ial hY (gS_X hI) eL_isOrdered_198 (j := 4) (N := 16) (x := σ4 4 (4 * c + r197)) (by decide) rfl (by omega) (Eq.trans (congrFun (z_u_ne (by decide)) _) (Eq.trans (congrFun (z_u_ne (by decide)) _) (congrFun (z_u_ne (by decide)) _))) ?_
                                  refine z_iload hY eL_isOrdered_199 2 rfl ?_
                                  refine z_iload hY eL_isOrdered_201 1 rfl ?_
                                  refine z_imul hY eL_isOrdered_203 ?_
                                  refine z_top (b := (-1)) (by omega) ?_
                                  refine z_iadd hY eL_isOrdered_204 ?_
                                  refine z_top (b := (σ4 4 (4 * c + r197)) - 1) (by omega) ?_
                                  refine g_ias hY (gS_X hI) eL_isOrdered_205 (j := 4) (N := 16) (by decide) (fun _ => rfl) (by omega) ?_
                                  refine z_sub [3, 4, 5, 6, 7, 2, 1, 0] (ls' := [(0, .ref (A 40)), (1, .ref b), (2, z_i c), (3, z_i (r106 + 1)), (4, z_i t), (5, z_i (-1)), (6, z_i 1), (7, z_i r197)]) rfl ?_
                                  have hq4 := h4b (4 * c + r197) (by omega) (by omega)
                                  exact rest206 (-1) 1 r197 (z_u (z_u (z_u (z_u σ4 0 0 X154) 0 0 X178) 0 0 X197) 4 (4 * c + r197) ((σ4 4 (4 * c + r197)) - 1)) (by omega) (by omega) (by omega) (fun k k0 k1 k2 k3 k4 => (z_u_ne (by omega)).trans ((z_u_ne (by omega)).trans ((z_u_ne (by omega)).trans ((z_u_ne (by omega)).trans (hF4 k k0 k1 k2 k3 k4))))) (wB_u (wB_u (wB_u (wB_u hw4 (by show (-2147483648 : Int) ≤ _ ∧ _ ≤ (2147483647 : Int); omega)) (by show (-2147483648 : Int) ≤ _ ∧ _ ≤ (2147483647 : Int); omega)) (by show (-2147483648 : Int) ≤ _ ∧ _ ≤ (2147483647 : Int); omega)) (by show (-3996 : Int) ≤ _ ∧ _ ≤ (3996 : Int); omega)) rfl (fun i => by show z_u σ4 4 (4 * c + r197) ((σ4 4 (4 * c + r197)) - 1) 4 i = _; unfold z_up; by_cases c9 : i = 4 * c + r197; (rw [c9, if_pos rfl]; exact (congrArg (fun q => z_u σ4 4 q ((σ4 4 (4 * c + r197)) - 1) 4 (4 * c + r197)) (by omega)).trans (z_u_at.trans (by omega))); (rw [if_neg c9]; exact z_u_at' (by omega))) (by omega)
                  refine z_widen (k' := (10 + 40 * c.toNat + 4 + 10 * (0 : Int).toNat)) (n' := (100 + 9000 * c.toNat + 1000 + 2600 * (0 : Int).toNat)) (by omega) (by omega) ?_
                  exact lp118 _ 0 ((n + 0) + 1) (sbC (sbC f n (fun _ => 0)) (n + 0) (fun _ => 60)) a105 (z_u σ2 0 0 X106) hh105 (Nat.lt_succ_self _) (by omega) (fun k k0 k1 k2 k3 k4 => (z_u_ne (by omega)).trans (hF2 k k0 k1 k2 k3 k4)) (wB_u hw2 (by show (-2147483648 : Int) ≤ _ ∧ _ ≤ (2147483647 : Int); omega)) rfl (fun i i0 i1 => h42 i i0 i1) (fun i i0 i1 => by have z : (z_u σ2 0 0 X106) 4 i = 0 := h40 i i0 (by omega); rw [z]; omega) hsb105 hxa105 (by omega) hfbD (Or.inl ⟨rfl, hiD⟩)
              · refine z_aload hY eL_isOrdered_55 0 rfl ?_
                refine g_gf hY (gS_X hI) eL_isOrdered_56 (v := .ref (A 4)) rfl ?_
                refine z_const hY eL_isOrdered_59 ?_
                refine z_iload hY eL_isOrdered_60 2 rfl ?_
                refine z_imul hY eL_isOrdered_61 ?_
                refine z_iload hY eL_isOrdered_62 3 rfl ?_
                refine z_iadd hY eL_isOrdered_63 ?_
                refine z_const hY eL_isOrdered_64 ?_
                refine g_ias hY (gS_X hI) eL_isOrdered_65 (j := 4) (N := 16) (by decide) (fun _ => rfl) (by omega) ?_
                refine z_iinc hY eL_isOrdered_66 3 rfl (ls' := [(3, z_i (q + 1)), (0, .ref (A 40)), (1, .ref b), (2, z_i c)]) rfl ?_
                refine z_goto hY eL_isOrdered_69 ?_
                refine z_sub [1, 2, 3, 0] (ls' := [(0, .ref (A 40)), (1, .ref b), (2, z_i c), (3, z_i (q + 1))]) rfl ?_
                exact ih50 (q + 1) (z_u σ2 4 (4 * c + q) 0) (by omega) (by omega) (fun k k0 k1 k2 k3 k4 => (z_u_ne (by omega)).trans (hF2 k k0 k1 k2 k3 k4)) (wB_u hw2 (by show (-3996 : Int) ≤ _ ∧ _ ≤ (3996 : Int); omega)) hs8 (fun i i0 i1 => (z_u_at' (by omega)).trans (h42 i i0 i1)) (fun i i0 i1 => by by_cases c9 : i = 4 * c + q; (rw [c9, z_u_at]); (rw [z_u_at' c9]; exact h40 i i0 (by omega)))
          exact lp50 _ 0 (z_u (z_u σ1 0 0 X4) 8 c 0) (Nat.lt_succ_self _) (by omega) (fun k k0 k1 k2 k3 k4 => (z_u_ne (by omega)).trans ((z_u_ne (by omega)).trans (hF1 k k0 k1 k2 k3 k4))) (wB_u (wB_u hw1 (by show (-2147483648 : Int) ≤ _ ∧ _ ≤ (2147483647 : Int); omega)) (by show (0 : Int) ≤ _ ∧ _ ≤ (1 : Int); omega)) rfl (fun i _ _ => rfl) (fun i _ _ => by omega)
        · refine z_const hY eL_isOrdered_42 ?_
          refine z_goto hY eL_isOrdered_43 ?_
          refine g_bas hY (gS_X hI) eL_isOrdered_47 (j := 8) (N := 4) (by decide) (fun _ => rfl) (by omega) (by first | omega | exact z_bl01 _) ?_
          refine z_const hY eL_isOrdered_48 ?_
          refine z_istore hY eL_isOrdered_49 (ls' := [(3, z_i 0), (0, .ref (A 40)), (1, .ref b), (2, z_i c)]) rfl ?_
          refine z_sub [1, 2, 3, 0] (ls' := [(0, .ref (A 40)), (1, .ref b), (2, z_i c), (3, z_i 0)]) rfl ?_
          have lp50 : ∀ (fu : Nat) (q : Int) (σ2 : z_S), (4 - q).toNat < fu → (0 ≤ q ∧ q ≤ 4) → (∀ k, k ≠ 0 → k ≠ 6 → k ≠ 20 → k ≠ 4 → k ≠ 8 → σ2 k = σ3 k) → (wB σ2) → (σ2 8 = (z_u (z_u σ1 0 0 X4) 8 c 1) 8) → (∀ i, 0 ≤ i → i < 4 * c → σ2 4 i = σ1 4 i) → (∀ i, 4 * c ≤ i → i < 4 * c + q → σ2 4 i = 0) → z_W Y 50 [(0, .ref (A 40)), (1, .ref b), (2, z_i c), (3, z_i q)] [] (gH D B κ A σ2 h1) (10 + 40 * c.toNat + 0) (100 + 9000 * c.toNat + 0) := by
            intro fu
            induction fu with
            | zero => intro q σ2 hf; exact absurd hf (Nat.not_lt_zero _)
            | succ fu ih50 =>
              intro q σ2 hf hq hF2 hw2 hs8 h42 h40
              refine z_iload hY eL_isOrdered_50 3 rfl ?_
              refine z_const hY eL_isOrdered_51 ?_
              refine z_icmpge hY eL_isOrdered_52 (by omega) (fun c52 => ?_) (fun c52 => ?_)
              · refine z_aload hY eL_isOrdered_72 1 rfl ?_
                refine z_iload hY eL_isOrdered_73 2 rfl ?_
                refine z_ifne hY eL_isOrdered_74 (by omega) (fun c74 => ?_) (fun c74 => ?_)
                · refine z_ldcS hY hSB eL_isOrdered_82 kO_83 (fun s200 hk200 => ?_)
                  have hup201 := sbS_up (D := D) (σ := σ2) hsb hxb hxa
                  refine z_callV (As := [.ref s200]) (rest := []) hY eL_isOrdered_84 (sb_appS (w := 2) (g := (fun i => if i = 0 then 59 else 32)) hG hSB hup201 (sbT_c hk200 (by decide) (fun i hi => by rcases (show i = 0 ∨ i = 1 by omega) with rfl | rfl <;> rfl)) (by omega)) (show gH D B κ A σ2 h1 b = some (z_ob 10 _) from hup201.choose_spec.choose_spec.choose_spec.1) (by decide) (Nat.le_of_ble_eq_true rfl) (by rw [hmc, hms]; omega) (fun _ _ q => q.elim) (fun vv201 hh201 q201 => ?_)
                  obtain ⟨a201, rfl, hsb201, hor201, hfr201⟩ := q201
                  have hgh201 := gH_fr (gS_J hI) (gS_X hI) hxb hxa hfr201
                  have hxa201 := sbX_or (gS_J hI) (gS_X hI) hxa hor201
                  refine z_heq hgh201.symm ?_
                  refine z_aload hY eL_isOrdered_87 0 rfl ?_
                  refine g_gf hY (gS_X hI) eL_isOrdered_88 (v := .ref (A 8)) rfl ?_
                  refine z_iload hY eL_isOrdered_91 2 rfl ?_
                  refine g_bal hY (gS_X hI) eL_isOrdered_92 (j := 8) (N := 4) (x := 1) (by decide) rfl (by omega) ((congrFun hs8 c).trans z_u_at) ?_
                  refine z_ifeq hY eL_isOrdered_93 (by omega) (fun c => absurd c (by omega)) (fun _ => ?_)
                  refine z_const hY eL_isOrdered_96 ?_
                  refine z_goto hY eL_isOrdered_98 ?_
                  have hup202 := sbS_up (D := D) (σ := σ2) hsb201 hxb hxa201
                  refine z_callV (As := [z_i 62]) (rest := []) hY eL_isOrdered_103 (sb_appC (c := 62) hG hSB hup202 (by omega) (by omega)) (show gH D B κ A σ2 hh201 b = some (z_ob 10 _) from hup202.choose_spec.choose_spec.choose_spec.1) (by decide) (Nat.le_of_ble_eq_true rfl) (by rw [hmc, hms]; omega) (fun _ _ q => q.elim) (fun vv202 hh202 q202 => ?_)
                  obtain ⟨a202, rfl, hsb202, hor202, hfr202⟩ := q202
                  have hgh202 := gH_fr (gS_J hI) (gS_X hI) hxb hxa201 hfr202
                  have hxa202 := sbX_or (gS_J hI) (gS_X hI) hxa201 hor202
                  refine z_heq hgh202.symm ?_
                  refine z_pop hY eL_isOrdered_106 rfl ?_
                  refine z_const hY eL_isOrdered_107 ?_
                  refine z_aload hY eL_isOrdered_108 0 rfl ?_
                  refine z_const hY eL_isOrdered_109 ?_
                  refine z_callV (As := [z_i 3]) (rest := [z_i 1]) hY eL_isOrdered_110 (la_next (B := B) (κ := κ) (σ := σ2) hG (gS_X hI) (n := 3) (by omega)) ((gH_at (gS_X hI) (by decide)).trans (congrArg some lC_40)) (by decide) (Nat.le_of_ble_eq_true rfl) (by rw [hmc, hms]; omega) (fun _ _ q => q.elim) (fun vv204 hh204 q204 => ?_)
                  obtain ⟨r203, X203, rfl, hr203, hX203, rfl⟩ := q204
                  refine z_iadd hY eL_isOrdered_113 ?_
                  refine z_top (b := r203 + 1) (by omega) ?_
                  refine z_istore hY eL_isOrdered_114 (ls' := [(3, z_i (r203 + 1)), (0, .ref (A 40)), (1, .ref b), (2, z_i c)]) rfl ?_
                  refine z_const hY eL_isOrdered_115 ?_
                  refine z_istore hY eL_isOrdered_116 (ls' := [(4, z_i 0), (3, z_i (r203 + 1)), (0, .ref (A 40)), (1, .ref b), (2, z_i c)]) rfl ?_
                  have hdd := sb_d1 (f := f) (n := n) (d := 62)
                  have hiD : iD (sbC (sbC f n (fun i => if i = 0 then 59 else 32)) (n + 2) (fun _ => 62)) ((n + 2) + 1) c ((z_u σ2 0 0 X203) 4) ((z_u σ2 0 0 X203) 8) := iC_d (g := 1) hiC (by omega) (by omega) (by omega) (by rw [if_neg (by omega)]; omega) hdd.1 (by rw [if_neg (by omega)]; exact hdd.2) (fun i i0 i1 => h40 i i0 (by omega)) (fun i i0 i1 => h42 i i0 i1) (fun j j0 j1 => (congrFun hs8 j).trans (z_u_at' (by omega))) ((congrFun hs8 c).trans z_u_at)
                  have hfbD : ∀ i, 0 ≤ i → i < ((n + 2) + 1) → 1 ≤ (sbC (sbC f n (fun i => if i = 0 then 59 else 32)) (n + 2) (fun _ => 62)) i ∧ (sbC (sbC f n (fun i => if i = 0 then 59 else 32)) (n + 2) (fun _ => 62)) i ≤ 127 := sb_bd (sb_bd hfb (fun i i0 i1 => by show 1 ≤ (if i = 0 then (59 : Int) else 32) ∧ (if i = 0 then (59 : Int) else 32) ≤ 127; split <;> omega)) (fun i i0 i1 => by show 1 ≤ (62 : Int) ∧ (62 : Int) ≤ 127; omega)
                  refine z_sub [2, 3, 4, 1, 0] (ls' := [(0, .ref (A 40)), (1, .ref b), (2, z_i c), (3, z_i (r203 + 1)), (4, z_i 0)]) rfl ?_
                  have lp118 : ∀ (fu : Nat) (t : Int) (n4 : Int) (f4 : Int → Int) (a4 : Nat) (σ4 : z_S) (h4 : z_H), ((r203 + 1) - t).toNat < fu → (0 ≤ t ∧ t ≤ (r203 + 1)) → (∀ k, k ≠ 0 → k ≠ 6 → k ≠ 20 → k ≠ 4 → k ≠ 8 → σ4 k = σ3 k) → (wB σ4) → (σ4 8 = (z_u σ2 0 0 X203) 8) → (∀ i, 0 ≤ i → i < 4 * c → σ4 4 i = σ1 4 i) → (∀ i, 4 * c ≤ i → i < 4 * c + 4 → -(4 * t) ≤ σ4 4 i ∧ σ4 4 i ≤ 4 * t) → (sbS h4 b a4 n4 f4) → (sbX B κ A a4) → (0 ≤ n4 ∧ n4 ≤ 18 * c + 3 + 5 * t) → (∀ i, 0 ≤ i → i < n4 → 1 ≤ f4 i ∧ f4 i ≤ 127) → ((t = 0 ∧ iD f4 n4 c (σ4 4) (σ4 8)) ∨ (1 ≤ t ∧ iT f4 n4 c t (σ4 4) (σ4 8))) → z_W Y 118 [(0, .ref (A 40)), (1, .ref b), (2, z_i c), (3, z_i (r203 + 1)), (4, z_i t)] [] (gH D B κ A σ4 h4) (10 + 40 * c.toNat + 4 + 10 * t.toNat) (100 + 9000 * c.toNat + 1000 + 2600 * t.toNat) := by
                    intro fu
                    induction fu with
                    | zero => intro t n4 f4 a4 σ4 h4 hf; exact absurd hf (Nat.not_lt_zero _)
                    | succ fu ih118 =>
                      intro t n4 f4 a4 σ4 h4 hf ht hF4 hw4 hs84 h4lt h4b hsb4 hxa4 hn4 hfb4 hiT
                      have rest206 : ∀ (s x k : Int) (σ5 : z_S), ((t = 0 ∧ s = 1) ∨ (1 ≤ t ∧ (s = 1 ∨ s = -1))) → (0 ≤ x ∧ x ≤ 4) → (0 ≤ k ∧ k ≤ 3) → (∀ k, k ≠ 0 → k ≠ 6 → k ≠ 20 → k ≠ 4 → k ≠ 8 → σ5 k = σ3 k) → (wB σ5) → (σ5 8 = σ4 8) → (∀ i, σ5 4 i = z_up (σ4 4) (4 * c + k) (σ4 4 (4 * c + k) + s * x) i) → (t < (r203 + 1)) → z_W Y 206 [(0, .ref (A 40)), (1, .ref b), (2, z_i c), (3, z_i (r203 + 1)), (4, z_i t), (5, z_i s), (6, z_i x), (7, z_i k)] [] (gH D B κ A σ5 h4) (10 + 40 * c.toNat + 4 + 10 * t.toNat) (100 + 9000 * c.toNat + 1000 + 2600 * t.toNat) := by
                        intro s x k σ5 hsx hxx hkk hF5 hw5 h58 h54 htT
                        have hsm := m_pr (a := s) (b := x) (F := 1) (S := 4) (by omega) (by omega) (by omega) (by omega)
                        refine z_aload hY eL_isOrdered_206 1 rfl ?_
                        refine z_iload hY eL_isOrdered_207 4 rfl ?_
                        refine z_ifne hY eL_isOrdered_209 (by omega) (fun c209 => ?_) (fun c209 => ?_)
                        · refine z_iload hY eL_isOrdered_217 5 rfl ?_
                          refine z_ifge hY eL_isOrdered_219 (by omega) (fun c219 => ?_) (fun c219 => ?_)
                          · refine z_ldcS hY hSB eL_isOrdered_227 kO_94 (fun s205 hk205 => ?_)
                            have hup206 := sbS_up (D := D) (σ := σ5) hsb4 hxb hxa4
                            refine z_callV (As := [.ref s205]) (rest := []) hY eL_isOrdered_229 (sb_appS (w := 1) (g := (fun _ => 43)) hG hSB hup206 (sbT_c hk205 (by decide) (fun i hi => by rcases (show i = 0 by omega) with rfl; rfl)) (by omega)) (show gH D B κ A σ5 h4 b = some (z_ob 10 _) from hup206.choose_spec.choose_spec.choose_spec.1) (by decide) (Nat.le_of_ble_eq_true rfl) (by rw [hmc, hms]; omega) (fun _ _ q => q.elim) (fun vv206 hh206 q206 => ?_)
                            obtain ⟨a206, rfl, hsb206, hor206, hfr206⟩ := q206
                            have hgh206 := gH_fr (gS_J hI) (gS_X hI) hxb hxa4 hfr206
                            have hxa206 := sbX_or (gS_J hI) (gS_X hI) hxa4 hor206
                            refine z_heq hgh206.symm ?_
                            refine z_iload hY eL_isOrdered_232 6 rfl ?_
                            refine z_const hY eL_isOrdered_234 ?_
                            refine z_icmpne hY eL_isOrdered_235 (by omega) (fun c235 => ?_) (fun c235 => ?_)
                            · refine sb_temp hY hG hSB (q := 6) rfl (by omega) (Nat.le_of_ble_eq_true rfl) (by rw [hmc, hms]; omega) (fun s9 H9 hT9 hF9 => ?_)
                              have hgq := gH_mono (gS_J hI) (gS_X hI) hF9
                              have hsq := sbS_mono (sbS_up (D := D) (σ := σ5) hsb206 hxb hxa206) hF9
                              refine z_heq hgq.symm ?_
                              have hup208 := sbS_up (D := D) (σ := σ5) hsq hxb hxa206
                              refine z_callV (As := [.ref s9]) (rest := []) hY eL_isOrdered_263 (sb_appS (w := 3) (g := (sbC (sbC (fun _ => 0) 0 (fun _ => 48 + x)) 1 (fun i => if i = 0 then 32 else 42))) hG hSB hup208 (by rw [hgq]; exact hT9) (by omega)) (show gH D B κ A σ5 H9 b = some (z_ob 10 _) from hup208.choose_spec.choose_spec.choose_spec.1) (by decide) (Nat.le_of_ble_eq_true rfl) (by rw [hmc, hms]; omega) (fun _ _ q => q.elim) (fun vv208 hh208 q208 => ?_)
                              obtain ⟨a208, rfl, hsb208, hor208, hfr208⟩ := q208
                              have hgh208 := gH_fr (gS_J hI) (gS_X hI) hxb hxa206 hfr208
                              have hxa208 := sbX_or (gS_J hI) (gS_X hI) hxa206 hor208
                              refine z_heq hgh208.symm ?_
                              refine z_const hY eL_isOrdered_266 ?_
                              refine z_iload hY eL_isOrdered_268 7 rfl ?_
                              refine z_iadd hY eL_isOrdered_270 ?_
                              refine z_top (b := k + 97) (by omega) ?_
                              refine z_i2c hY eL_isOrdered_271 (by omega) ?_
                              have hup209 := sbS_up (D := D) (σ := σ5) hsb208 hxb hxa208
                              refine z_callV (As := [z_i (k + 97)]) (rest := []) hY eL_isOrdered_272 (sb_appC (c := (k + 97)) hG hSB hup209 (by omega) (by omega)) (show gH D B κ A σ5 hh208 b = some (z_ob 10 _) from hup209.choose_spec.choose_spec.choose_spec.1) (by decide) (Nat.le_of_ble_eq_true rfl) (by rw [hmc, hms]; omega) (fun _ _ q => q.elim) (fun vv209 hh209 q209 => ?_)
                              obtain ⟨a209, rfl, hsb209, hor209, hfr209⟩ := q209
                              have hgh209 := gH_fr (gS_J hI) (gS_X hI) hxb hxa208 hfr209
                              have hxa209 := sbX_or (gS_J hI) (gS_X hI) hxa208 hor209
                              refine z_heq hgh209.symm ?_
                              refine z_pop hY eL_isOrdered_275 rfl ?_
                              refine z_iinc hY eL_isOrdered_276 4 rfl (ls' := [(4, z_i (t + 1)), (0, .ref (A 40)), (1, .ref b), (2, z_i c), (3, z_i (r203 + 1)), (5, z_i s), (6, z_i x), (7, z_i k)]) rfl ?_
                              refine z_goto hY eL_isOrdered_279 ?_
                              have h3 := sb3 (f := f4) (g1 := (fun _ => 43)) (g2 := (sbC (sbC (fun _ => 0) 0 (fun _ => 48 + x)) 1 (fun i => if i = 0 then 32 else 42))) (n := n4) (w1 := 1) (w2 := 3) (d := k + 97) (by decide) (by decide)
                              have hxw : x ≠ 1 := by omega
                              have hlt5 : ∀ i, 0 ≤ i → i < 4 * c → σ5 4 i = σ1 4 i := fun i i0 i1 => (h54 i).trans ((if_neg (by omega)).trans (h4lt i i0 i1))
                              have hb5 : ∀ i, 4 * c ≤ i → i < 4 * c + 4 → -(4 * (t + 1)) ≤ σ5 4 i ∧ σ5 4 i ≤ 4 * (t + 1) := fun i i0 i1 => by rw [h54 i]; unfold z_up; have z9 := h4b i i0 i1; split; (have z8 := h4b (4 * c + k) (by omega) (by omega); omega); omega
                              have hfb5 : ∀ i, 0 ≤ i → i < (((n4 + 1) + 3) + 1) → 1 ≤ (sbC (sbC (sbC f4 n4 (fun _ => 43)) (n4 + 1) (sbC (sbC (fun _ => 0) 0 (fun _ => 48 + x)) 1 (fun i => if i = 0 then 32 else 42))) ((n4 + 1) + 3) (fun _ => (k + 97))) i ∧ (sbC (sbC (sbC f4 n4 (fun _ => 43)) (n4 + 1) (sbC (sbC (fun _ => 0) 0 (fun _ => 48 + x)) 1 (fun i => if i = 0 then 32 else 42))) ((n4 + 1) + 3) (fun _ => (k + 97))) i ≤ 127 := sb_bd (sb_bd (sb_bd hfb4 (fun i i0 i1 => by first | omega | (show 1 ≤ (45 : Int) ∧ (45 : Int) ≤ 127; omega) | (show 1 ≤ (43 : Int) ∧ (43 : Int) ≤ 127; omega))) (fun i i0 i1 => by first | omega | (rcases (show i = 0 ∨ i = 1 ∨ i = 2 by omega) with rfl | rfl | rfl; (show 1 ≤ 48 + x ∧ 48 + x ≤ 127; omega); (show 1 ≤ (32 : Int) ∧ (32 : Int) ≤ 127; omega); (show 1 ≤ (42 : Int) ∧ (42 : Int) ≤ 127; omega)))) (fun i i0 i1 => by show 1 ≤ k + 97 ∧ k + 97 ≤ 127; omega)
                              have htr : trT (sbC (sbC (sbC f4 n4 (fun _ => 43)) (n4 + 1) (sbC (sbC (fun _ => 0) 0 (fun _ => 48 + x)) 1 (fun i => if i = 0 then 32 else 42))) ((n4 + 1) + 3) (fun _ => (k + 97))) (n4 + 1) x k := by unfold trT; rw [if_neg hxw]; exact ⟨(congrArg (sbC (sbC (sbC f4 n4 (fun _ => 43)) (n4 + 1) (sbC (sbC (fun _ => 0) 0 (fun _ => 48 + x)) 1 (fun i => if i = 0 then 32 else 42))) ((n4 + 1) + 3) (fun _ => (k + 97))) (show n4 + 1 = n4 + 1 + 0 by omega)).trans (h3.2.2.1 0 (by omega) (by omega)), h3.2.2.1 1 (by omega) (by omega), h3.2.2.1 2 (by omega) (by omega), h3.2.2.2.trans (by omega)⟩
                              have htl : trL x = 4 := by unfold trL; exact if_neg hxw
                              have hiT4 := iT_t (s := s) (hiT.resolve_left (by omega)).2 (by omega) (by omega) (by omega) (by omega) hxx hkk (fun i i0 i1 => h3.1 i i0 i1) ((congrArg (sbC (sbC (sbC f4 n4 (fun _ => 43)) (n4 + 1) (sbC (sbC (fun _ => 0) 0 (fun _ => 48 + x)) 1 (fun i => if i = 0 then 32 else 42))) ((n4 + 1) + 3) (fun _ => (k + 97))) (show n4 = n4 + 0 by omega)).trans ((h3.2.1 0 (by omega) (by omega)).trans (by first | omega | (show (45 : Int) = _; omega) | (show (43 : Int) = _; omega)))) htr
                              have hiT5 : iT (sbC (sbC (sbC f4 n4 (fun _ => 43)) (n4 + 1) (sbC (sbC (fun _ => 0) 0 (fun _ => 48 + x)) 1 (fun i => if i = 0 then 32 else 42))) ((n4 + 1) + 3) (fun _ => (k + 97))) (((n4 + 1) + 3) + 1) c (t + 1) (σ5 4) (σ5 8) := by rw [h58, show (((n4 + 1) + 3) + 1) = n4 + 1 + trL x by omega]; exact iT_f hiT4 (fun i i0 i1 => h54 i)
                              refine z_sub [1, 2, 3, 4, 0] (ls' := [(0, .ref (A 40)), (1, .ref b), (2, z_i c), (3, z_i (r203 + 1)), (4, z_i (t + 1))]) rfl ?_
                              refine z_widen (k' := (10 + 40 * c.toNat + 4 + 10 * (t + 1).toNat)) (n' := (100 + 9000 * c.toNat + 1000 + 2600 * (t + 1).toNat)) (by omega) (by omega) ?_
                              exact ih118 (t + 1) (((n4 + 1) + 3) + 1) (sbC (sbC (sbC f4 n4 (fun _ => 43)) (n4 + 1) (sbC (sbC (fun _ => 0) 0 (fun _ => 48 + x)) 1 (fun i => if i = 0 then 32 else 42))) ((n4 + 1) + 3) (fun _ => (k + 97))) a209 σ5 hh209 (by omega) (by omega) hF5 hw5 (h58.trans hs84) hlt5 hb5 hsb209 hxa209 (by omega) hfb5 (Or.inr ⟨by omega, hiT5⟩)
                            · refine z_ldcS hY hSB eL_isOrdered_238 kO_81 (fun s210 hk210 => ?_)
                              refine z_goto hY eL_isOrdered_240 ?_
                              have hup211 := sbS_up (D := D) (σ := σ5) hsb206 hxb hxa206
                              refine z_callV (As := [.ref s210]) (rest := []) hY eL_isOrdered_263 (sb_appS (w := 0) (g := (fun _ => 0)) hG hSB hup211 (sbT_c hk210 (by decide) (fun i hi => absurd hi (by omega))) (by omega)) (show gH D B κ A σ5 hh206 b = some (z_ob 10 _) from hup211.choose_spec.choose_spec.choose_spec.1) (by decide) (Nat.le_of_ble_eq_true rfl) (by rw [hmc, hms]; omega) (fun _ _ q => q.elim) (fun vv211 hh211 q211 => ?_)
                              obtain ⟨a211, rfl, hsb211, hor211, hfr211⟩ := q211
                              have hgh211 := gH_fr (gS_J hI) (gS_X hI) hxb hxa206 hfr211
                              have hxa211 := sbX_or (gS_J hI) (gS_X hI) hxa206 hor211
                              refine z_heq hgh211.symm ?_
                              refine z_const hY eL_isOrdered_266 ?_
                              refine z_iload hY eL_isOrdered_268 7 rfl ?_
                              refine z_iadd hY eL_isOrdered_270 ?_
                              refine z_top (b := k + 97) (by omega) ?_
                              refine z_i2c hY eL_isOrdered_271 (by omega) ?_
                              have hup212 := sbS_up (D := D) (σ := σ5) hsb211 hxb hxa211
                              refine z_callV (As := [z_i (k + 97)]) (rest := []) hY eL_isOrdered_272 (sb_appC (c := (k + 97)) hG hSB hup212 (by omega) (by omega)) (show gH D B κ A σ5 hh211 b = some (z_ob 10 _) from hup212.choose_spec.choose_spec.choose_spec.1) (by decide) (Nat.le_of_ble_eq_true rfl) (by rw [hmc, hms]; omega) (fun _ _ q => q.elim) (fun vv212 hh212 q212 => ?_)
                              obtain ⟨a212, rfl, hsb212, hor212, hfr212⟩ := q212
                              have hgh212 := gH_fr (gS_J hI) (gS_X hI) hxb hxa211 hfr212
                              have hxa212 := sbX_or (gS_J hI) (gS_X hI) hxa211 hor212
                              refine z_heq hgh212.symm ?_
                              refine z_pop hY eL_isOrdered_275 rfl ?_
                              refine z_iinc hY eL_isOrdered_276 4 rfl (ls' := [(4, z_i (t + 1)), (0, .ref (A 40)), (1, .ref b), (2, z_i c), (3, z_i (r203 + 1)), (5, z_i s), (6, z_i x), (7, z_i k)]) rfl ?_
                              refine z_goto hY eL_isOrdered_279 ?_
                              have h3 := sb3 (f := f4) (g1 := (fun _ => 43)) (g2 := (fun _ => 0)) (n := n4) (w1 := 1) (w2 := 0) (d := k + 97) (by decide) (by decide)
                              have hxw : x = 1 := by omega
                              have hlt5 : ∀ i, 0 ≤ i → i < 4 * c → σ5 4 i = σ1 4 i := fun i i0 i1 => (h54 i).trans ((if_neg (by omega)).trans (h4lt i i0 i1))
                              have hb5 : ∀ i, 4 * c ≤ i → i < 4 * c + 4 → -(4 * (t + 1)) ≤ σ5 4 i ∧ σ5 4 i ≤ 4 * (t + 1) := fun i i0 i1 => by rw [h54 i]; unfold z_up; have z9 := h4b i i0 i1; split; (have z8 := h4b (4 * c + k) (by omega) (by omega); omega); omega
                              have hfb5 : ∀ i, 0 ≤ i → i < (((n4 + 1) + 0) + 1) → 1 ≤ (sbC (sbC (sbC f4 n4 (fun _ => 43)) (n4 + 1) (fun _ => 0)) ((n4 + 1) + 0) (fun _ => (k + 97))) i ∧ (sbC (sbC (sbC f4 n4 (fun _ => 43)) (n4 + 1) (fun _ => 0)) ((n4 + 1) + 0) (fun _ => (k + 97))) i ≤ 127 := sb_bd (sb_bd (sb_bd hfb4 (fun i i0 i1 => by first | omega | (show 1 ≤ (45 : Int) ∧ (45 : Int) ≤ 127; omega) | (show 1 ≤ (43 : Int) ∧ (43 : Int) ≤ 127; omega))) (fun i i0 i1 => by first | omega | (rcases (show i = 0 ∨ i = 1 ∨ i = 2 by omega) with rfl | rfl | rfl; (show 1 ≤ 48 + x ∧ 48 + x ≤ 127; omega); (show 1 ≤ (32 : Int) ∧ (32 : Int) ≤ 127; omega); (show 1 ≤ (42 : Int) ∧ (42 : Int) ≤ 127; omega)))) (fun i i0 i1 => by show 1 ≤ k + 97 ∧ k + 97 ≤ 127; omega)
                              have htr : trT (sbC (sbC (sbC f4 n4 (fun _ => 43)) (n4 + 1) (fun _ => 0)) ((n4 + 1) + 0) (fun _ => (k + 97))) (n4 + 1) x k := by unfold trT; rw [if_pos hxw]; exact (congrArg (sbC (sbC (sbC f4 n4 (fun _ => 43)) (n4 + 1) (fun _ => 0)) ((n4 + 1) + 0) (fun _ => (k + 97))) (show n4 + 1 = n4 + 1 + 0 by omega)).trans (h3.2.2.2.trans (by omega))
                              have htl : trL x = 1 := by unfold trL; exact if_pos hxw
                              have hiT4 := iT_t (s := s) (hiT.resolve_left (by omega)).2 (by omega) (by omega) (by omega) (by omega) hxx hkk (fun i i0 i1 => h3.1 i i0 i1) ((congrArg (sbC (sbC (sbC f4 n4 (fun _ => 43)) (n4 + 1) (fun _ => 0)) ((n4 + 1) + 0) (fun _ => (k + 97))) (show n4 = n4 + 0 by omega)).trans ((h3.2.1 0 (by omega) (by omega)).trans (by first | omega | (show (45 : Int) = _; omega) | (show (43 : Int) = _; omega)))) htr
                              have hiT5 : iT (sbC (sbC (sbC f4 n4 (fun _ => 43)) (n4 + 1) (fun _ => 0)) ((n4 + 1) + 0) (fun _ => (k + 97))) (((n4 + 1) + 0) + 1) c (t + 1) (σ5 4) (σ5 8) := by rw [h58, show (((n4 + 1) + 0) + 1) = n4 + 1 + trL x by omega]; exact iT_f hiT4 (fun i i0 i1 => h54 i)
                              refine z_sub [1, 2, 3, 4, 0] (ls' := [(0, .ref (A 40)), (1, .ref b), (2, z_i c), (3, z_i (r203 + 1)), (4, z_i (t + 1))]) rfl ?_
                              refine z_widen (k' := (10 + 40 * c.toNat + 4 + 10 * (t + 1).toNat)) (n' := (100 + 9000 * c.toNat + 1000 + 2600 * (t + 1).toNat)) (by omega) (by omega) ?_
                              exact ih118 (t + 1) (((n4 + 1) + 0) + 1) (sbC (sbC (sbC f4 n4 (fun _ => 43)) (n4 + 1) (fun _ => 0)) ((n4 + 1) + 0) (fun _ => (k + 97))) a212 σ5 hh212 (by omega) (by omega) hF5 hw5 (h58.trans hs84) hlt5 hb5 hsb212 hxa212 (by omega) hfb5 (Or.inr ⟨by omega, hiT5⟩)
                          · refine z_ldcS hY hSB eL_isOrdered_222 kO_92 (fun s213 hk213 => ?_)
                            refine z_goto hY eL_isOrdered_224 ?_
                            have hup214 := sbS_up (D := D) (σ := σ5) hsb4 hxb hxa4
                            refine z_callV (As := [.ref s213]) (rest := []) hY eL_isOrdered_229 (sb_appS (w := 1) (g := (fun _ => 45)) hG hSB hup214 (sbT_c hk213 (by decide) (fun i hi => by rcases (show i = 0 by omega) with rfl; rfl)) (by omega)) (show gH D B κ A σ5 h4 b = some (z_ob 10 _) from hup214.choose_spec.choose_spec.choose_spec.1) (by decide) (Nat.le_of_ble_eq_true rfl) (by rw [hmc, hms]; omega) (fun _ _ q => q.elim) (fun vv214 hh214 q214 => ?_)
                            obtain ⟨a214, rfl, hsb214, hor214, hfr214⟩ := q214
                            have hgh214 := gH_fr (gS_J hI) (gS_X hI) hxb hxa4 hfr214
                            have hxa214 := sbX_or (gS_J hI) (gS_X hI) hxa4 hor214
                            refine z_heq hgh214.symm ?_
                            refine z_iload hY eL_isOrdered_232 6 rfl ?_
                            refine z_const hY eL_isOrdered_234 ?_
                            refine z_icmpne hY eL_isOrdered_235 (by omega) (fun c235 => ?_) (fun c235 => ?_)
                            · refine sb_temp hY hG hSB (q := 6) rfl (by omega) (Nat.le_of_ble_eq_true rfl) (by rw [hmc, hms]; omega) (fun s9 H9 hT9 hF9 => ?_)
                              have hgq := gH_mono (gS_J hI) (gS_X hI) hF9
                              have hsq := sbS_mono (sbS_up (D := D) (σ := σ5) hsb214 hxb hxa214) hF9
                              refine z_heq hgq.symm ?_
                              have hup216 := sbS_up (D := D) (σ := σ5) hsq hxb hxa214
                              refine z_callV (As := [.ref s9]) (rest := []) hY eL_isOrdered_263 (sb_appS (w := 3) (g := (sbC (sbC (fun _ => 0) 0 (fun _ => 48 + x)) 1 (fun i => if i = 0 then 32 else 42))) hG hSB hup216 (by rw [hgq]; exact hT9) (by omega)) (show gH D B κ A σ5 H9 b = some (z_ob 10 _) from hup216.choose_spec.choose_spec.choose_spec.1) (by decide) (Nat.le_of_ble_eq_true rfl) (by rw [hmc, hms]; omega) (fun _ _ q => q.elim) (fun vv216 hh216 q216 => ?_)
                              obtain ⟨a216, rfl, hsb216, hor216, hfr216⟩ := q216
                              have hgh216 := gH_fr (gS_J hI) (gS_X hI) hxb hxa214 hfr216
                              have hxa216 := sbX_or (gS_J hI) (gS_X hI) hxa214 hor216
                              refine z_heq hgh216.symm ?_
                              refine z_const hY eL_isOrdered_266 ?_
                              refine z_iload hY eL_isOrdered_268 7 rfl ?_
                              refine z_iadd hY eL_isOrdered_270 ?_
                              refine z_top (b := k + 97) (by omega) ?_
                              refine z_i2c hY eL_isOrdered_271 (by omega) ?_
                              have hup217 := sbS_up (D := D) (σ := σ5) hsb216 hxb hxa216
                              refine z_callV (As := [z_i (k + 97)]) (rest := []) hY eL_isOrdered_272 (sb_appC (c := (k + 97)) hG hSB hup217 (by omega) (by omega)) (show gH D B κ A σ5 hh216 b = some (z_ob 10 _) from hup217.choose_spec.choose_spec.choose_spec.1) (by decide) (Nat.le_of_ble_eq_true rfl) (by rw [hmc, hms]; omega) (fun _ _ q => q.elim) (fun vv217 hh217 q217 => ?_)
                              obtain ⟨a217, rfl, hsb217, hor217, hfr217⟩ := q217
                              have hgh217 := gH_fr (gS_J hI) (gS_X hI) hxb hxa216 hfr217
                              have hxa217 := sbX_or (gS_J hI) (gS_X hI) hxa216 hor217
                              refine z_heq hgh217.symm ?_
                              refine z_pop hY eL_isOrdered_275 rfl ?_
                              refine z_iinc hY eL_isOrdered_276 4 rfl (ls' := [(4, z_i (t + 1)), (0, .ref (A 40)), (1, .ref b), (2, z_i c), (3, z_i (r203 + 1)), (5, z_i s), (6, z_i x), (7, z_i k)]) rfl ?_
                              refine z_goto hY eL_isOrdered_279 ?_
                              have h3 := sb3 (f := f4) (g1 := (fun _ => 45)) (g2 := (sbC (sbC (fun _ => 0) 0 (fun _ => 48 + x)) 1 (fun i => if i = 0 then 32 else 42))) (n := n4) (w1 := 1) (w2 := 3) (d := k + 97) (by decide) (by decide)
                              have hxw : x ≠ 1 := by omega
                              have hlt5 : ∀ i, 0 ≤ i → i < 4 * c → σ5 4 i = σ1 4 i := fun i i0 i1 => (h54 i).trans ((if_neg (by omega)).trans (h4lt i i0 i1))
                              have hb5 : ∀ i, 4 * c ≤ i → i < 4 * c + 4 → -(4 * (t + 1)) ≤ σ5 4 i ∧ σ5 4 i ≤ 4 * (t + 1) := fun i i0 i1 => by rw [h54 i]; unfold z_up; have z9 := h4b i i0 i1; split; (have z8 := h4b (4 * c + k) (by omega) (by omega); omega); omega
                              have hfb5 : ∀ i, 0 ≤ i → i < (((n4 + 1) + 3) + 1) → 1 ≤ (sbC (sbC (sbC f4 n4 (fun _ => 45)) (n4 + 1) (sbC (sbC (fun _ => 0) 0 (fun _ => 48 + x)) 1 (fun i => if i = 0 then 32 else 42))) ((n4 + 1) + 3) (fun _ => (k + 97))) i ∧ (sbC (sbC (sbC f4 n4 (fun _ => 45)) (n4 + 1) (sbC (sbC (fun _ => 0) 0 (fun _ => 48 + x)) 1 (fun i => if i = 0 then 32 else 42))) ((n4 + 1) + 3) (fun _ => (k + 97))) i ≤ 127 := sb_bd (sb_bd (sb_bd hfb4 (fun i i0 i1 => by first | omega | (show 1 ≤ (45 : Int) ∧ (45 : Int) ≤ 127; omega) | (show 1 ≤ (43 : Int) ∧ (43 : Int) ≤ 127; omega))) (fun i i0 i1 => by first | omega | (rcases (show i = 0 ∨ i = 1 ∨ i = 2 by omega) with rfl | rfl | rfl; (show 1 ≤ 48 + x ∧ 48 + x ≤ 127; omega); (show 1 ≤ (32 : Int) ∧ (32 : Int) ≤ 127; omega); (show 1 ≤ (42 : Int) ∧ (42 : Int) ≤ 127; omega)))) (fun i i0 i1 => by show 1 ≤ k + 97 ∧ k + 97 ≤ 127; omega)
                              have htr : trT (sbC (sbC (sbC f4 n4 (fun _ => 45)) (n4 + 1) (sbC (sbC (fun _ => 0) 0 (fun _ => 48 + x)) 1 (fun i => if i = 0 then 32 else 42))) ((n4 + 1) + 3) (fun _ => (k + 97))) (n4 + 1) x k := by unfold trT; rw [if_neg hxw]; exact ⟨(congrArg (sbC (sbC (sbC f4 n4 (fun _ => 45)) (n4 + 1) (sbC (sbC (fun _ => 0) 0 (fun _ => 48 + x)) 1 (fun i => if i = 0 then 32 else 42))) ((n4 + 1) + 3) (fun _ => (k + 97))) (show n4 + 1 = n4 + 1 + 0 by omega)).trans (h3.2.2.1 0 (by omega) (by omega)), h3.2.2.1 1 (by omega) (by omega), h3.2.2.1 2 (by omega) (by omega), h3.2.2.2.trans (by omega)⟩
                              have htl : trL x = 4 := by unfold trL; exact if_neg hxw
                              have hiT4 := iT_t (s := s) (hiT.resolve_left (by omega)).2 (by omega) (by omega) (by omega) (by omega) hxx hkk (fun i i0 i1 => h3.1 i i0 i1) ((congrArg (sbC (sbC (sbC f4 n4 (fun _ => 45)) (n4 + 1) (sbC (sbC (fun _ => 0) 0 (fun _ => 48 + x)) 1 (fun i => if i = 0 then 32 else 42))) ((n4 + 1) + 3) (fun _ => (k + 97))) (show n4 = n4 + 0 by omega)).trans ((h3.2.1 0 (by omega) (by omega)).trans (by first | omega | (show (45 : Int) = _; omega) | (show (43 : Int) = _; omega)))) htr
                              have hiT5 : iT (sbC (sbC (sbC f4 n4 (fun _ => 45)) (n4 + 1) (sbC (sbC (fun _ => 0) 0 (fun _ => 48 + x)) 1 (fun i => if i = 0 then 32 else 42))) ((n4 + 1) + 3) (fun _ => (k + 97))) (((n4 + 1) + 3) + 1) c (t + 1) (σ5 4) (σ5 8) := by rw [h58, show (((n4 + 1) + 3) + 1) = n4 + 1 + trL x by omega]; exact iT_f hiT4 (fun i i0 i1 => h54 i)
                              refine z_sub [1, 2, 3, 4, 0] (ls' := [(0, .ref (A 40)), (1, .ref b), (2, z_i c), (3, z_i (r203 + 1)), (4, z_i (t + 1))]) rfl ?_
                              refine z_widen (k' := (10 + 40 * c.toNat + 4 + 10 * (t + 1).toNat)) (n' := (100 + 9000 * c.toNat + 1000 + 2600 * (t + 1).toNat)) (by omega) (by omega) ?_
                              exact ih118 (t + 1) (((n4 + 1) + 3) + 1) (sbC (sbC (sbC f4 n4 (fun _ => 45)) (n4 + 1) (sbC (sbC (fun _ => 0) 0 (fun _ => 48 + x)) 1 (fun i => if i = 0 then 32 else 42))) ((n4 + 1) + 3) (fun _ => (k + 97))) a217 σ5 hh217 (by omega) (by omega) hF5 hw5 (h58.trans hs84) hlt5 hb5 hsb217 hxa217 (by omega) hfb5 (Or.inr ⟨by omega, hiT5⟩)
                            · refine z_ldcS hY hSB eL_isOrdered_238 kO_81 (fun s218 hk218 => ?_)
                              refine z_goto hY eL_isOrdered_240 ?_
                              have hup219 := sbS_up (D := D) (σ := σ5) hsb214 hxb hxa214
                              refine z_callV (As := [.ref s218]) (rest := []) hY eL_isOrdered_263 (sb_appS (w := 0) (g := (fun _ => 0)) hG hSB hup219 (sbT_c hk218 (by decide) (fun i hi => absurd hi (by omega))) (by omega)) (show gH D B κ A σ5 hh214 b = some (z_ob 10 _) from hup219.choose_spec.choose_spec.choose_spec.1) (by decide) (Nat.le_of_ble_eq_true rfl) (by rw [hmc, hms]; omega) (fun _ _ q => q.elim) (fun vv219 hh219 q219 => ?_)
                              obtain ⟨a219, rfl, hsb219, hor219, hfr219⟩ := q219
                              have hgh219 := gH_fr (gS_J hI) (gS_X hI) hxb hxa214 hfr219
                              have hxa219 := sbX_or (gS_J hI) (gS_X hI) hxa214 hor219
                              refine z_heq hgh219.symm ?_
                              refine z_const hY eL_isOrdered_266 ?_
                              refine z_iload hY eL_isOrdered_268 7 rfl ?_
                              refine z_iadd hY eL_isOrdered_270 ?_
                              refine z_top (b := k + 97) (by omega) ?_
                              refine z_i2c hY eL_isOrdered_271 (by omega) ?_
                              have hup220 := sbS_up (D := D) (σ := σ5) hsb219 hxb hxa219
                              refine z_callV (As := [z_i (k + 97)]) (rest := []) hY eL_isOrdered_272 (sb_appC (c := (k + 97)) hG hSB hup220 (by omega) (by omega)) (show gH D B κ A σ5 hh219 b = some (z_ob 10 _) from hup220.choose_spec.choose_spec.choose_spec.1) (by decide) (Nat.le_of_ble_eq_true rfl) (by rw [hmc, hms]; omega) (fun _ _ q => q.elim) (fun vv220 hh220 q220 => ?_)
                              obtain ⟨a220, rfl, hsb220, hor220, hfr220⟩ := q220
                              have hgh220 := gH_fr (gS_J hI) (gS_X hI) hxb hxa219 hfr220
                              have hxa220 := sbX_or (gS_J hI) (gS_X hI) hxa219 hor220
                              refine z_heq hgh220.symm ?_
                              refine z_pop hY eL_isOrdered_275 rfl ?_
                              refine z_iinc hY eL_isOrdered_276 4 rfl (ls' := [(4, z_i (t + 1)), (0, .ref (A 40)), (1, .ref b), (2, z_i c), (3, z_i (r203 + 1)), (5, z_i s), (6, z_i x), (7, z_i k)]) rfl ?_
                              refine z_goto hY eL_isOrdered_279 ?_
                              have h3 := sb3 (f := f4) (g1 := (fun _ => 45)) (g2 := (fun _ => 0)) (n := n4) (w1 := 1) (w2 := 0) (d := k + 97) (by decide) (by decide)
                              have hxw : x = 1 := by omega
                              have hlt5 : ∀ i, 0 ≤ i → i < 4 * c → σ5 4 i = σ1 4 i := fun i i0 i1 => (h54 i).trans ((if_neg (by omega)).trans (h4lt i i0 i1))
                              have hb5 : ∀ i, 4 * c ≤ i → i < 4 * c + 4 → -(4 * (t + 1)) ≤ σ5 4 i ∧ σ5 4 i ≤ 4 * (t + 1) := fun i i0 i1 => by rw [h54 i]; unfold z_up; have z9 := h4b i i0 i1; split; (have z8 := h4b (4 * c + k) (by omega) (by omega); omega); omega
                              have hfb5 : ∀ i, 0 ≤ i → i < (((n4 + 1) + 0) + 1) → 1 ≤ (sbC (sbC (sbC f4 n4 (fun _ => 45)) (n4 + 1) (fun _ => 0)) ((n4 + 1) + 0) (fun _ => (k + 97))) i ∧ (sbC (sbC (sbC f4 n4 (fun _ => 45)) (n4 + 1) (fun _ => 0)) ((n4 + 1) + 0) (fun _ => (k + 97))) i ≤ 127 := sb_bd (sb_bd (sb_bd hfb4 (fun i i0 i1 => by first | omega | (show 1 ≤ (45 : Int) ∧ (45 : Int) ≤ 127; omega) | (show 1 ≤ (43 : Int) ∧ (43 : Int) ≤ 127; omega))) (fun i i0 i1 => by first | omega | (rcases (show i = 0 ∨ i = 1 ∨ i = 2 by omega) with rfl | rfl | rfl; (show 1 ≤ 48 + x ∧ 48 + x ≤ 127; omega); (show 1 ≤ (32 : Int) ∧ (32 : Int) ≤ 127; omega); (show 1 ≤ (42 : Int) ∧ (42 : Int) ≤ 127; omega)))) (fun i i0 i1 => by show 1 ≤ k + 97 ∧ k + 97 ≤ 127; omega)
                              have htr : trT (sbC (sbC (sbC f4 n4 (fun _ => 45)) (n4 + 1) (fun _ => 0)) ((n4 + 1) + 0) (fun _ => (k + 97))) (n4 + 1) x k := by unfold trT; rw [if_pos hxw]; exact (congrArg (sbC (sbC (sbC f4 n4 (fun _ => 45)) (n4 + 1) (fun _ => 0)) ((n4 + 1) + 0) (fun _ => (k + 97))) (show n4 + 1 = n4 + 1 + 0 by omega)).trans (h3.2.2.2.trans (by omega))
                              have htl : trL x = 1 := by unfold trL; exact if_pos hxw
                              have hiT4 := iT_t (s := s) (hiT.resolve_left (by omega)).2 (by omega) (by omega) (by omega) (by omega) hxx hkk (fun i i0 i1 => h3.1 i i0 i1) ((congrArg (sbC (sbC (sbC f4 n4 (fun _ => 45)) (n4 + 1) (fun _ => 0)) ((n4 + 1) + 0) (fun _ => (k + 97))) (show n4 = n4 + 0 by omega)).trans ((h3.2.1 0 (by omega) (by omega)).trans (by first | omega | (show (45 : Int) = _; omega) | (show (43 : Int) = _; omega)))) htr
                              have hiT5 : iT (sbC (sbC (sbC f4 n4 (fun _ => 45)) (n4 + 1) (fun _ => 0)) ((n4 + 1) + 0) (fun _ => (k + 97))) (((n4 + 1) + 0) + 1) c (t + 1) (σ5 4) (σ5 8) := by rw [h58, show (((n4 + 1) + 0) + 1) = n4 + 1 + trL x by omega]; exact iT_f hiT4 (fun i i0 i1 => h54 i)
                              refine z_sub [1, 2, 3, 4, 0] (ls' := [(0, .ref (A 40)), (1, .ref b), (2, z_i c), (3, z_i (r203 + 1)), (4, z_i (t + 1))]) rfl ?_
                              refine z_widen (k' := (10 + 40 * c.toNat + 4 + 10 * (t + 1).toNat)) (n' := (100 + 9000 * c.toNat + 1000 + 2600 * (t + 1).toNat)) (by omega) (by omega) ?_
                              exact ih118 (t + 1) (((n4 + 1) + 0) + 1) (sbC (sbC (sbC f4 n4 (fun _ => 45)) (n4 + 1) (fun _ => 0)) ((n4 + 1) + 0) (fun _ => (k + 97))) a220 σ5 hh220 (by omega) (by omega) hF5 hw5 (h58.trans hs84) hlt5 hb5 hsb220 hxa220 (by omega) hfb5 (Or.inr ⟨by omega, hiT5⟩)
                        · refine z_ldcS hY hSB eL_isOrdered_212 kO_81 (fun s221 hk221 => ?_)
                          refine z_goto hY eL_isOrdered_214 ?_
                          have hup222 := sbS_up (D := D) (σ := σ5) hsb4 hxb hxa4
                          refine z_callV (As := [.ref s221]) (rest := []) hY eL_isOrdered_229 (sb_appS (w := 0) (g := (fun _ => 0)) hG hSB hup222 (sbT_c hk221 (by decide) (fun i hi => absurd hi (by omega))) (by omega)) (show gH D B κ A σ5 h4 b = some (z_ob 10 _) from hup222.choose_spec.choose_spec.choose_spec.1) (by decide) (Nat.le_of_ble_eq_true rfl) (by rw [hmc, hms]; omega) (fun _ _ q => q.elim) (fun vv222 hh222 q222 => ?_)
                          obtain ⟨a222, rfl, hsb222, hor222, hfr222⟩ := q222
                          have hgh222 := gH_fr (gS_J hI) (gS_X hI) hxb hxa4 hfr222
                          have hxa222 := sbX_or (gS_J hI) (gS_X hI) hxa4 hor222
                          refine z_heq hgh222.symm ?_
                          refine z_iload hY eL_isOrdered_232 6 rfl ?_
                          refine z_const hY eL_isOrdered_234 ?_
                          refine z_icmpne hY eL_isOrdered_235 (by omega) (fun c235 => ?_) (fun c235 => ?_)
                          · refine sb_temp hY hG hSB (q := 6) rfl (by omega) (Nat.le_of_ble_eq_true rfl) (by rw [hmc, hms]; omega) (fun s9 H9 hT9 hF9 => ?_)
                            have hgq := gH_mono (gS_J hI) (gS_X hI) hF9
                            have hsq := sbS_mono (sbS_up (D := D) (σ := σ5) hsb222 hxb hxa222) hF9
                            refine z_heq hgq.symm ?_
                            have hup224 := sbS_up (D := D) (σ := σ5) hsq hxb hxa222
                            refine z_callV (As := [.ref s9]) (rest := []) hY eL_isOrdered_263 (sb_appS (w := 3) (g := (sbC (sbC (fun _ => 0) 0 (fun _ => 48 + x)) 1 (fun i => if i = 0 then 32 else 42))) hG hSB hup224 (by rw [hgq]; exact hT9) (by omega)) (show gH D B κ A σ5 H9 b = some (z_ob 10 _) from hup224.choose_spec.choose_spec.choose_spec.1) (by decide) (Nat.le_of_ble_eq_true rfl) (by rw [hmc, hms]; omega) (fun _ _ q => q.elim) (fun vv224 hh224 q224 => ?_)
                            obtain ⟨a224, rfl, hsb224, hor224, hfr224⟩ := q224
                            have hgh224 := gH_fr (gS_J hI) (gS_X hI) hxb hxa222 hfr224
                            have hxa224 := sbX_or (gS_J hI) (gS_X hI) hxa222 hor224
                            refine z_heq hgh224.symm ?_
                            refine z_const hY eL_isOrdered_266 ?_
                            refine z_iload hY eL_isOrdered_268 7 rfl ?_
                            refine z_iadd hY eL_isOrdered_270 ?_
                            refine z_top (b := k + 97) (by omega) ?_
                            refine z_i2c hY eL_isOrdered_271 (by omega) ?_
                            have hup225 := sbS_up (D := D) (σ := σ5) hsb224 hxb hxa224
                            refine z_callV (As := [z_i (k + 97)]) (rest := []) hY eL_isOrdered_272 (sb_appC (c := (k + 97)) hG hSB hup225 (by omega) (by omega)) (show gH D B κ A σ5 hh224 b = some (z_ob 10 _) from hup225.choose_spec.choose_spec.choose_spec.1) (by decide) (Nat.le_of_ble_eq_true rfl) (by rw [hmc, hms]; omega) (fun _ _ q => q.elim) (fun vv225 hh225 q225 => ?_)
                            obtain ⟨a225, rfl, hsb225, hor225, hfr225⟩ := q225
                            have hgh225 := gH_fr (gS_J hI) (gS_X hI) hxb hxa224 hfr225
                            have hxa225 := sbX_or (gS_J hI) (gS_X hI) hxa224 hor225
                            refine z_heq hgh225.symm ?_
                            refine z_pop hY eL_isOrdered_275 rfl ?_
                            refine z_iinc hY eL_isOrdered_276 4 rfl (ls' := [(4, z_i (t + 1)), (0, .ref (A 40)), (1, .ref b), (2, z_i c), (3, z_i (r203 + 1)), (5, z_i s), (6, z_i x), (7, z_i k)]) rfl ?_
                            refine z_goto hY eL_isOrdered_279 ?_
                            have h3 := sb3 (f := f4) (g1 := (fun _ => 0)) (g2 := (sbC (sbC (fun _ => 0) 0 (fun _ => 48 + x)) 1 (fun i => if i = 0 then 32 else 42))) (n := n4) (w1 := 0) (w2 := 3) (d := k + 97) (by decide) (by decide)
                            have hxw : x ≠ 1 := by omega
                            have hlt5 : ∀ i, 0 ≤ i → i < 4 * c → σ5 4 i = σ1 4 i := fun i i0 i1 => (h54 i).trans ((if_neg (by omega)).trans (h4lt i i0 i1))
                            have hb5 : ∀ i, 4 * c ≤ i → i < 4 * c + 4 → -(4 * (t + 1)) ≤ σ5 4 i ∧ σ5 4 i ≤ 4 * (t + 1) := fun i i0 i1 => by rw [h54 i]; unfold z_up; have z9 := h4b i i0 i1; split; (have z8 := h4b (4 * c + k) (by omega) (by omega); omega); omega
                            have hfb5 : ∀ i, 0 ≤ i → i < (((n4 + 0) + 3) + 1) → 1 ≤ (sbC (sbC (sbC f4 n4 (fun _ => 0)) (n4 + 0) (sbC (sbC (fun _ => 0) 0 (fun _ => 48 + x)) 1 (fun i => if i = 0 then 32 else 42))) ((n4 + 0) + 3) (fun _ => (k + 97))) i ∧ (sbC (sbC (sbC f4 n4 (fun _ => 0)) (n4 + 0) (sbC (sbC (fun _ => 0) 0 (fun _ => 48 + x)) 1 (fun i => if i = 0 then 32 else 42))) ((n4 + 0) + 3) (fun _ => (k + 97))) i ≤ 127 := sb_bd (sb_bd (sb_bd hfb4 (fun i i0 i1 => by first | omega | (show 1 ≤ (45 : Int) ∧ (45 : Int) ≤ 127; omega) | (show 1 ≤ (43 : Int) ∧ (43 : Int) ≤ 127; omega))) (fun i i0 i1 => by first | omega | (rcases (show i = 0 ∨ i = 1 ∨ i = 2 by omega) with rfl | rfl | rfl; (show 1 ≤ 48 + x ∧ 48 + x ≤ 127; omega); (show 1 ≤ (32 : Int) ∧ (32 : Int) ≤ 127; omega); (show 1 ≤ (42 : Int) ∧ (42 : Int) ≤ 127; omega)))) (fun i i0 i1 => by show 1 ≤ k + 97 ∧ k + 97 ≤ 127; omega)
                            have htr : trT (sbC (sbC (sbC f4 n4 (fun _ => 0)) (n4 + 0) (sbC (sbC (fun _ => 0) 0 (fun _ => 48 + x)) 1 (fun i => if i = 0 then 32 else 42))) ((n4 + 0) + 3) (fun _ => (k + 97))) (n4 + 0) x k := by unfold trT; rw [if_neg hxw]; exact ⟨(congrArg (sbC (sbC (sbC f4 n4 (fun _ => 0)) (n4 + 0) (sbC (sbC (fun _ => 0) 0 (fun _ => 48 + x)) 1 (fun i => if i = 0 then 32 else 42))) ((n4 + 0) + 3) (fun _ => (k + 97))) (show n4 + 0 = n4 + 0 + 0 by omega)).trans (h3.2.2.1 0 (by omega) (by omega)), h3.2.2.1 1 (by omega) (by omega), h3.2.2.1 2 (by omega) (by omega), h3.2.2.2.trans (by omega)⟩
                            have htl : trL x = 4 := by unfold trL; exact if_neg hxw
                            have hiT4 := iD_t (hiT.resolve_right (by omega)).2 (by omega) (by omega) hxx hkk (fun i i0 i1 => h3.1 i i0 i1) (trT_c htr (by omega))
                            have hiT5 : iT (sbC (sbC (sbC f4 n4 (fun _ => 0)) (n4 + 0) (sbC (sbC (fun _ => 0) 0 (fun _ => 48 + x)) 1 (fun i => if i = 0 then 32 else 42))) ((n4 + 0) + 3) (fun _ => (k + 97))) (((n4 + 0) + 3) + 1) c (t + 1) (σ5 4) (σ5 8) := by rw [h58, show (((n4 + 0) + 3) + 1) = n4 + trL x by omega, show t + 1 = 1 by omega]; exact iT_f hiT4 (fun i i0 i1 => by rw [h54 i, show s = 1 by omega])
                            refine z_sub [1, 2, 3, 4, 0] (ls' := [(0, .ref (A 40)), (1, .ref b), (2, z_i c), (3, z_i (r203 + 1)), (4, z_i (t + 1))]) rfl ?_
                            refine z_widen (k' := (10 + 40 * c.toNat + 4 + 10 * (t + 1).toNat)) (n' := (100 + 9000 * c.toNat + 1000 + 2600 * (t + 1).toNat)) (by omega) (by omega) ?_
                            exact ih118 (t + 1) (((n4 + 0) + 3) + 1) (sbC (sbC (sbC f4 n4 (fun _ => 0)) (n4 + 0) (sbC (sbC (fun _ => 0) 0 (fun _ => 48 + x)) 1 (fun i => if i = 0 then 32 else 42))) ((n4 + 0) + 3) (fun _ => (k + 97))) a225 σ5 hh225 (by omega) (by omega) hF5 hw5 (h58.trans hs84) hlt5 hb5 hsb225 hxa225 (by omega) hfb5 (Or.inr ⟨by omega, hiT5⟩)
                          · refine z_ldcS hY hSB eL_isOrdered_238 kO_81 (fun s226 hk226 => ?_)
                            refine z_goto hY eL_isOrdered_240 ?_
                            have hup227 := sbS_up (D := D) (σ := σ5) hsb222 hxb hxa222
                            refine z_callV (As := [.ref s226]) (rest := []) hY eL_isOrdered_263 (sb_appS (w := 0) (g := (fun _ => 0)) hG hSB hup227 (sbT_c hk226 (by decide) (fun i hi => absurd hi (by omega))) (by omega)) (show gH D B κ A σ5 hh222 b = some (z_ob 10 _) from hup227.choose_spec.choose_spec.choose_spec.1) (by decide) (Nat.le_of_ble_eq_true rfl) (by rw [hmc, hms]; omega) (fun _ _ q => q.elim) (fun vv227 hh227 q227 => ?_)
                            obtain ⟨a227, rfl, hsb227, hor227, hfr227⟩ := q227
                            have hgh227 := gH_fr (gS_J hI) (gS_X hI) hxb hxa222 hfr227
                            have hxa227 := sbX_or (gS_J hI) (gS_X hI) hxa222 hor227
                            refine z_heq hgh227.symm ?_
                            refine z_const hY eL_isOrdered_266 ?_
                            refine z_iload hY eL_isOrdered_268 7 rfl ?_
                            refine z_iadd hY eL_isOrdered_270 ?_
                            refine z_top (b := k + 97) (by omega) ?_
                            refine z_i2c hY eL_isOrdered_271 (by omega) ?_
                            have hup228 := sbS_up (D := D) (σ := σ5) hsb227 hxb hxa227
                            refine z_callV (As := [z_i (k + 97)]) (rest := []) hY eL_isOrdered_272 (sb_appC (c := (k + 97)) hG hSB hup228 (by omega) (by omega)) (show gH D B κ A σ5 hh227 b = some (z_ob 10 _) from hup228.choose_spec.choose_spec.choose_spec.1) (by decide) (Nat.le_of_ble_eq_true rfl) (by rw [hmc, hms]; omega) (fun _ _ q => q.elim) (fun vv228 hh228 q228 => ?_)
                            obtain ⟨a228, rfl, hsb228, hor228, hfr228⟩ := q228
                            have hgh228 := gH_fr (gS_J hI) (gS_X hI) hxb hxa227 hfr228
                            have hxa228 := sbX_or (gS_J hI) (gS_X hI) hxa227 hor228
                            refine z_heq hgh228.symm ?_
                            refine z_pop hY eL_isOrdered_275 rfl ?_
                            refine z_iinc hY eL_isOrdered_276 4 rfl (ls' := [(4, z_i (t + 1)), (0, .ref (A 40)), (1, .ref b), (2, z_i c), (3, z_i (r203 + 1)), (5, z_i s), (6, z_i x), (7, z_i k)]) rfl ?_
                            refine z_goto hY eL_isOrdered_279 ?_
                            have h3 := sb3 (f := f4) (g1 := (fun _ => 0)) (g2 := (fun _ => 0)) (n := n4) (w1 := 0) (w2 := 0) (d := k + 97) (by decide) (by decide)
                            have hxw : x = 1 := by omega
                            have hlt5 : ∀ i, 0 ≤ i → i < 4 * c → σ5 4 i = σ1 4 i := fun i i0 i1 => (h54 i).trans ((if_neg (by omega)).trans (h4lt i i0 i1))
                            have hb5 : ∀ i, 4 * c ≤ i → i < 4 * c + 4 → -(4 * (t + 1)) ≤ σ5 4 i ∧ σ5 4 i ≤ 4 * (t + 1) := fun i i0 i1 => by rw [h54 i]; unfold z_up; have z9 := h4b i i0 i1; split; (have z8 := h4b (4 * c + k) (by omega) (by omega); omega); omega
                            have hfb5 : ∀ i, 0 ≤ i → i < (((n4 + 0) + 0) + 1) → 1 ≤ (sbC (sbC (sbC f4 n4 (fun _ => 0)) (n4 + 0) (fun _ => 0)) ((n4 + 0) + 0) (fun _ => (k + 97))) i ∧ (sbC (sbC (sbC f4 n4 (fun _ => 0)) (n4 + 0) (fun _ => 0)) ((n4 + 0) + 0) (fun _ => (k + 97))) i ≤ 127 := sb_bd (sb_bd (sb_bd hfb4 (fun i i0 i1 => by first | omega | (show 1 ≤ (45 : Int) ∧ (45 : Int) ≤ 127; omega) | (show 1 ≤ (43 : Int) ∧ (43 : Int) ≤ 127; omega))) (fun i i0 i1 => by first | omega | (rcases (show i = 0 ∨ i = 1 ∨ i = 2 by omega) with rfl | rfl | rfl; (show 1 ≤ 48 + x ∧ 48 + x ≤ 127; omega); (show 1 ≤ (32 : Int) ∧ (32 : Int) ≤ 127; omega); (show 1 ≤ (42 : Int) ∧ (42 : Int) ≤ 127; omega)))) (fun i i0 i1 => by show 1 ≤ k + 97 ∧ k + 97 ≤ 127; omega)
                            have htr : trT (sbC (sbC (sbC f4 n4 (fun _ => 0)) (n4 + 0) (fun _ => 0)) ((n4 + 0) + 0) (fun _ => (k + 97))) (n4 + 0) x k := by unfold trT; rw [if_pos hxw]; exact (congrArg (sbC (sbC (sbC f4 n4 (fun _ => 0)) (n4 + 0) (fun _ => 0)) ((n4 + 0) + 0) (fun _ => (k + 97))) (show n4 + 0 = n4 + 0 + 0 by omega)).trans (h3.2.2.2.trans (by omega))
                            have htl : trL x = 1 := by unfold trL; exact if_pos hxw
                            have hiT4 := iD_t (hiT.resolve_right (by omega)).2 (by omega) (by omega) hxx hkk (fun i i0 i1 => h3.1 i i0 i1) (trT_c htr (by omega))
                            have hiT5 : iT (sbC (sbC (sbC f4 n4 (fun _ => 0)) (n4 + 0) (fun _ => 0)) ((n4 + 0) + 0) (fun _ => (k + 97))) (((n4 + 0) + 0) + 1) c (t + 1) (σ5 4) (σ5 8) := by rw [h58, show (((n4 + 0) + 0) + 1) = n4 + trL x by omega, show t + 1 = 1 by omega]; exact iT_f hiT4 (fun i i0 i1 => by rw [h54 i, show s = 1 by omega])
                            refine z_sub [1, 2, 3, 4, 0] (ls' := [(0, .ref (A 40)), (1, .ref b), (2, z_i c), (3, z_i (r203 + 1)), (4, z_i (t + 1))]) rfl ?_
                            refine z_widen (k' := (10 + 40 * c.toNat + 4 + 10 * (t + 1).toNat)) (n' := (100 + 9000 * c.toNat + 1000 + 2600 * (t + 1).toNat)) (by omega) (by omega) ?_
                            exact ih118 (t + 1) (((n4 + 0) + 0) + 1) (sbC (sbC (sbC f4 n4 (fun _ => 0)) (n4 + 0) (fun _ => 0)) ((n4 + 0) + 0) (fun _ => (k + 97))) a228 σ5 hh228 (by omega) (by omega) hF5 hw5 (h58.trans hs84) hlt5 hb5 hsb228 hxa228 (by omega) hfb5 (Or.inr ⟨by omega, hiT5⟩)
                      refine z_iload hY eL_isOrdered_118 4 rfl ?_
                      refine z_iload hY eL_isOrdered_120 3 rfl ?_
                      refine z_icmpge hY eL_isOrdered_121 (by omega) (fun c121 => ?_) (fun c121 => ?_)
                      · refine z_iinc hY eL_isOrdered_282 2 rfl (ls' := [(2, z_i (c + 1)), (0, .ref (A 40)), (1, .ref b), (3, z_i (r203 + 1)), (4, z_i t)]) rfl ?_
                        refine z_goto hY eL_isOrdered_285 ?_
                        have hiE := iT_e (hiT.resolve_left (by omega)).2 (by omega) (by omega)
                        refine z_sub [1, 2, 0] (ls' := [(0, .ref (A 40)), (1, .ref b), (2, z_i (c + 1))]) rfl ?_
                        refine z_widen (k' := (10 + 40 * (c + 1).toNat)) (n' := (100 + 9000 * (c + 1).toNat)) (by omega) (by omega) ?_
                        exact ih21 (c + 1) n4 f4 a4 σ4 h4 (by omega) (by omega) (fun k k0 k1 k2 k3 k4 => hF4 k k0 k1 k2 k3 k4) hw4 hsb4 hxa4 (by omega) hfb4 hiE
                      · refine z_iload hY eL_isOrdered_124 4 rfl ?_
                        refine z_ifle hY eL_isOrdered_126 (by omega) (fun c126 => ?_) (fun c126 => ?_)
                        · refine z_const hY eL_isOrdered_141 ?_
                          refine z_istore hY eL_isOrdered_142 (ls' := [(5, z_i 1), (0, .ref (A 40)), (1, .ref b), (2, z_i c), (3, z_i (r203 + 1)), (4, z_i t)]) rfl ?_
                          refine z_aload hY eL_isOrdered_144 1 rfl ?_
                          refine z_const hY eL_isOrdered_145 ?_
                          refine z_callV (As := [z_i 2]) (rest := []) hY eL_isOrdered_146 (la_next (B := B) (κ := κ) (σ := σ4) hG (gS_X hI) (n := 2) (by omega)) ((gH_at (gS_X hI) (by decide)).trans (congrArg some lC_40)) (by decide) (Nat.le_of_ble_eq_true rfl) (by rw [hmc, hms]; omega) (fun _ _ q => q.elim) (fun vv230 hh230 q230 => ?_)
                          obtain ⟨r229, X229, rfl, hr229, hX229, rfl⟩ := q230
                          refine z_ifne hY eL_isOrdered_149 (by omega) (fun c149 => ?_) (fun c149 => ?_)
                          · refine z_aload hY eL_isOrdered_156 1 rfl ?_
                            refine z_const hY eL_isOrdered_157 ?_
                            refine z_callV (As := [z_i 5]) (rest := []) hY eL_isOrdered_158 (la_next (B := B) (κ := κ) (σ := (z_u σ4 0 0 X229)) hG (gS_X hI) (n := 5) (by omega)) ((gH_at (gS_X hI) (by decide)).trans (congrArg some lC_40)) (by decide) (Nat.le_of_ble_eq_true rfl) (by rw [hmc, hms]; omega) (fun _ _ q => q.elim) (fun vv232 hh232 q232 => ?_)
                            obtain ⟨r231, X231, rfl, hr231, hX231, rfl⟩ := q232
                            refine z_istore hY eL_isOrdered_161 (ls' := [(6, z_i r231), (5, z_i 1), (0, .ref (A 40)), (1, .ref b), (2, z_i c), (3, z_i (r203 + 1)), (4, z_i t)]) rfl ?_
                            refine z_iload hY eL_isOrdered_163 4 rfl ?_
                            refine z_ifne hY eL_isOrdered_164 (by omega) (fun c164 => ?_) (fun c164 => ?_)
                            · refine z_aload hY eL_isOrdered_180 2 rfl ?_
                              refine z_const hY eL_isOrdered_181 ?_
                              refine z_callV (As := [z_i 4]) (rest := []) hY eL_isOrdered_182 (la_next (B := B) (κ := κ) (σ := (z_u (z_u σ4 0 0 X229) 0 0 X231)) hG (gS_X hI) (n := 4) (by omega)) ((gH_at (gS_X hI) (by decide)).trans (congrArg some lC_40)) (by decide) (Nat.le_of_ble_eq_true rfl) (by rw [hmc, hms]; omega) (fun _ _ q => q.elim) (fun vv234 hh234 q234 => ?_)
                              obtain ⟨r233, X233, rfl, hr233, hX233, rfl⟩ := q234
                              refine z_istore hY eL_isOrdered_185 (ls' := [(7, z_i r233), (6, z_i r231), (5, z_i 1), (0, .ref (A 40)), (1, .ref b), (2, z_i c), (3, z_i (r203 + 1)), (4, z_i t)]) rfl ?_
                              refine z_aload hY eL_isOrdered_187 3 rfl ?_
                              refine g_gf hY (gS_X hI) eL_isOrdered_188 (v := .ref (A 4)) rfl ?_
                              refine z_const hY eL_isOrdered_191 ?_
                              refine z_iload hY eL_isOrdered_192 5 rfl ?_
                              refine z_imul hY eL_isOrdered_193 ?_
                              refine z_iload hY eL_isOrdered_194 0 rfl ?_
                              refine z_iadd hY eL_isOrdered_196 ?_
                              refine z_dup2 hY eL_isOrdered_197 rfl rfl ?_
                              have hb235 := hw4.s4 (4 * c + r233)
                              refine g_ial hY (gS_X hI) eL_isOrdered_198 (j := 4) (N := 16) (x := σ4 4 (4 * c + r233)) (by decide) rfl (by omega) (Eq.trans (congrFun (z_u_ne (by decide)) _) (Eq.trans (congrFun (z_u_ne (by decide)) _) (congrFun (z_u_ne (by decide)) _))) ?_
                              refine z_iload hY eL_isOrdered_199 2 rfl ?_
                              refine z_iload hY eL_isOrdered_201 1 rfl ?_
                              refine z_imul hY eL_isOrdered_203 ?_
                              refine z_top (b := r231) (by omega) ?_
                              refine z_iadd hY eL_isOrdered_204 ?_
                              refine g_ias hY (gS_X hI) eL_isOrdered_205 (j := 4) (N := 16) (by decide) (fun _ => rfl) (by omega) ?_
                              refine z_sub [3, 4, 5, 6, 7, 2, 1, 0] (ls' := [(0, .ref (A 40)), (1, .ref b), (2, z_i c), (3, z_i (r203 + 1)), (4, z_i t), (5, z_i 1), (6, z_i r231), (7, z_i r233)]) rfl ?_
                              have hq4 := h4b (4 * c + r233) (by omega) (by omega)
                              exact rest206 1 r231 r233 (z_u (z_u (z_u (z_u σ4 0 0 X229) 0 0 X231) 0 0 X233) 4 (4 * c + r233) ((σ4 4 (4 * c + r233)) + r231)) (by omega) (by omega) (by omega) (fun k k0 k1 k2 k3 k4 => (z_u_ne (by omega)).trans ((z_u_ne (by omega)).trans ((z_u_ne (by omega)).trans ((z_u_ne (by omega)).trans (hF4 k k0 k1 k2 k3 k4))))) (wB_u (wB_u (wB_u (wB_u hw4 (by show (-2147483648 : Int) ≤ _ ∧ _ ≤ (2147483647 : Int); omega)) (by show (-2147483648 : Int) ≤ _ ∧ _ ≤ (2147483647 : Int); omega)) (by show (-2147483648 : Int) ≤ _ ∧ _ ≤ (2147483647 : Int); omega)) (by show (-3996 : Int) ≤ _ ∧ _ ≤ (3996 : Int); omega)) rfl (fun i => by show z_u σ4 4 (4 * c + r233) ((σ4 4 (4 * c + r233)) + r231) 4 i = _; unfold z_up; by_cases c9 : i = 4 * c + r233; (rw [c9, if_pos rfl]; exact (congrArg (fun q => z_u σ4 4 q ((σ4 4 (4 * c + r233)) + r231) 4 (4 * c + r233)) (by omega)).trans (z_u_at.trans (by omega))); (rw [if_neg c9]; exact z_u_at' (by omega))) (by omega)
                            · refine z_iload hY eL_isOrdered_167 6 rfl ?_
                              refine z_ifne hY eL_isOrdered_169 (by omega) (fun c169 => ?_) (fun c169 => ?_)
                              · refine z_aload hY eL_isOrdered_180 2 rfl ?_
                                refine z_const hY eL_isOrdered_181 ?_
                                refine z_callV (As := [z_i 4]) (rest := []) hY eL_isOrdered_182 (la_next (B := B) (κ := κ) (σ := (z_u (z_u σ4 0 0 X229) 0 0 X231)) hG (gS_X hI) (n := 4) (by omega)) ((gH_at (gS_X hI) (by decide)).trans (congrArg some lC_40)) (by decide) (Nat.le_of_ble_eq_true rfl) (by rw [hmc, hms]; omega) (fun _ _ q => q.elim) (fun vv237 hh237 q237 => ?_)
                                obtain ⟨r236, X236, rfl, hr236, hX236, rfl⟩ := q237
                                refine z_istore hY eL_isOrdered_185 (ls' := [(7, z_i r236), (6, z_i r231), (5, z_i 1), (0, .ref (A 40)), (1, .ref b), (2, z_i c), (3, z_i (r203 + 1)), (4, z_i t)]) rfl ?_
                                refine z_aload hY eL_isOrdered_187 3 rfl ?_
                                refine g_gf hY (gS_X hI) eL_isOrdered_188 (v := .ref (A 4)) rfl ?_
                                refine z_const hY eL_isOrdered_191 ?_
                                refine z_iload hY eL_isOrdered_192 5 rfl ?_
                                refine z_imul hY eL_isOrdered_193 ?_
                                refine z_iload hY eL_isOrdered_194 0 rfl ?_
                                refine z_iadd hY eL_isOrdered_196 ?_
                                refine z_dup2 hY eL_isOrdered_197 rfl rfl ?_
                                have hb238 := hw4.s4 (4 * c + r236)
                                refine g_ial hY (gS_X hI) eL_isOrdered_198 (j := 4) (N := 16) (x := σ4 4 (4 * c + r236)) (by decide) rfl (by omega) (Eq.trans (congrFun (z_u_ne (by decide)) _) (Eq.trans (congrFun (z_u_ne (by decide)) _) (congrFun (z_u_ne (by decide)) _))) ?_
                                refine z_iload hY eL_isOrdered_199 2 rfl ?_
                                refine z_iload hY eL_isOrdered_201 1 rfl ?_
                                refine z_imul hY eL_isOrdered_203 ?_
                                refine z_top (b := r231) (by omega) ?_
                                refine z_iadd hY eL_isOrdered_204 ?_
                                refine g_ias hY (gS_X hI) eL_isOrdered_205 (j := 4) (N := 16) (by decide) (fun _ => rfl) (by omega) ?_
                                refine z_sub [3, 4, 5, 6, 7, 2, 1, 0] (ls' := [(0, .ref (A 40)), (1, .ref b), (2, z_i c), (3, z_i (r203 + 1)), (4, z_i t), (5, z_i 1), (6, z_i r231), (7, z_i r236)]) rfl ?_
                                have hq4 := h4b (4 * c + r236) (by omega) (by omega)
                                exact rest206 1 r231 r236 (z_u (z_u (z_u (z_u σ4 0 0 X229) 0 0 X231) 0 0 X236) 4 (4 * c + r236) ((σ4 4 (4 * c + r236)) + r231)) (by omega) (by omega) (by omega) (fun k k0 k1 k2 k3 k4 => (z_u_ne (by omega)).trans ((z_u_ne (by omega)).trans ((z_u_ne (by omega)).trans ((z_u_ne (by omega)).trans (hF4 k k0 k1 k2 k3 k4))))) (wB_u (wB_u (wB_u (wB_u hw4 (by show (-2147483648 : Int) ≤ _ ∧ _ ≤ (2147483647 : Int); omega)) (by show (-2147483648 : Int) ≤ _ ∧ _ ≤ (2147483647 : Int); omega)) (by show (-2147483648 : Int) ≤ _ ∧ _ ≤ (2147483647 : Int); omega)) (by show (-3996 : Int) ≤ _ ∧ _ ≤ (3996 : Int); omega)) rfl (fun i => by show z_u σ4 4 (4 * c + r236) ((σ4 4 (4 * c + r236)) + r231) 4 i = _; unfold z_up; by_cases c9 : i = 4 * c + r236; (rw [c9, if_pos rfl]; exact (congrArg (fun q => z_u σ4 4 q ((σ4 4 (4 * c + r236)) + r231) 4 (4 * c + r236)) (by omega)).trans (z_u_at.trans (by omega))); (rw [if_neg c9]; exact z_u_at' (by omega))) (by omega)
                              · refine z_aload hY eL_isOrdered_172 2 rfl ?_
                                refine z_const hY eL_isOrdered_173 ?_
                                refine z_callV (As := [z_i 2]) (rest := []) hY eL_isOrdered_174 (la_next (B := B) (κ := κ) (σ := (z_u (z_u σ4 0 0 X229) 0 0 X231)) hG (gS_X hI) (n := 2) (by omega)) ((gH_at (gS_X hI) (by decide)).trans (congrArg some lC_40)) (by decide) (Nat.le_of_ble_eq_true rfl) (by rw [hmc, hms]; omega) (fun _ _ q => q.elim) (fun vv240 hh240 q240 => ?_)
                                obtain ⟨r239, X239, rfl, hr239, hX239, rfl⟩ := q240
                                refine z_goto hY eL_isOrdered_177 ?_
                                refine z_istore hY eL_isOrdered_185 (ls' := [(7, z_i r239), (6, z_i r231), (5, z_i 1), (0, .ref (A 40)), (1, .ref b), (2, z_i c), (3, z_i (r203 + 1)), (4, z_i t)]) rfl ?_
                                refine z_aload hY eL_isOrdered_187 3 rfl ?_
                                refine g_gf hY (gS_X hI) eL_isOrdered_188 (v := .ref (A 4)) rfl ?_
                                refine z_const hY eL_isOrdered_191 ?_
                                refine z_iload hY eL_isOrdered_192 5 rfl ?_
                                refine z_imul hY eL_isOrdered_193 ?_
                                refine z_iload hY eL_isOrdered_194 0 rfl ?_
                                refine z_iadd hY eL_isOrdered_196 ?_
                                refine z_dup2 hY eL_isOrdered_197 rfl rfl ?_
                                have hb241 := hw4.s4 (4 * c + r239)
                                refine g_ial hY (gS_X hI) eL_isOrdered_198 (j := 4) (N := 16) (x := σ4 4 (4 * c + r239)) (by decide) rfl (by omega) (Eq.trans (congrFun (z_u_ne (by decide)) _) (Eq.trans (congrFun (z_u_ne (by decide)) _) (congrFun (z_u_ne (by decide)) _))) ?_
                                refine z_iload hY eL_isOrdered_199 2 rfl ?_
                                refine z_iload hY eL_isOrdered_201 1 rfl ?_
                                refine z_imul hY eL_isOrdered_203 ?_
                                refine z_top (b := r231) (by omega) ?_
                                refine z_iadd hY eL_isOrdered_204 ?_
                                refine g_ias hY (gS_X hI) eL_isOrdered_205 (j := 4) (N := 16) (by decide) (fun _ => rfl) (by omega) ?_
                                refine z_sub [3, 4, 5, 6, 7, 2, 1, 0] (ls' := [(0, .ref (A 40)), (1, .ref b), (2, z_i c), (3, z_i (r203 + 1)), (4, z_i t), (5, z_i 1), (6, z_i r231), (7, z_i r239)]) rfl ?_
                                have hq4 := h4b (4 * c + r239) (by omega) (by omega)
                                exact rest206 1 r231 r239 (z_u (z_u (z_u (z_u σ4 0 0 X229) 0 0 X231) 0 0 X239) 4 (4 * c + r239) ((σ4 4 (4 * c + r239)) + r231)) (by omega) (by omega) (by omega) (fun k k0 k1 k2 k3 k4 => (z_u_ne (by omega)).trans ((z_u_ne (by omega)).trans ((z_u_ne (by omega)).trans ((z_u_ne (by omega)).trans (hF4 k k0 k1 k2 k3 k4))))) (wB_u (wB_u (wB_u (wB_u hw4 (by show (-2147483648 : Int) ≤ _ ∧ _ ≤ (2147483647 : Int); omega)) (by show (-2147483648 : Int) ≤ _ ∧ _ ≤ (2147483647 : Int); omega)) (by show (-2147483648 : Int) ≤ _ ∧ _ ≤ (2147483647 : Int); omega)) (by show (-3996 : Int) ≤ _ ∧ _ ≤ (3996 : Int); omega)) rfl (fun i => by show z_u σ4 4 (4 * c + r239) ((σ4 4 (4 * c + r239)) + r231) 4 i = _; unfold z_up; by_cases c9 : i = 4 * c + r239; (rw [c9, if_pos rfl]; exact (congrArg (fun q => z_u σ4 4 q ((σ4 4 (4 * c + r239)) + r231) 4 (4 * c + r239)) (by omega)).trans (z_u_at.trans (by omega))); (rw [if_neg c9]; exact z_u_at' (by omega))) (by omega)
                          · refine z_const hY eL_isOrdered_152 ?_
                            refine z_goto hY eL_isOrdered_153 ?_
                            refine z_istore hY eL_isOrdered_161 (ls' := [(6, z_i 1), (5, z_i 1), (0, .ref (A 40)), (1, .ref b), (2, z_i c), (3, z_i (r203 + 1)), (4, z_i t)]) rfl ?_
                            refine z_iload hY eL_isOrdered_163 4 rfl ?_
                            refine z_ifne hY eL_isOrdered_164 (by omega) (fun c164 => ?_) (fun c164 => ?_)
                            · refine z_aload hY eL_isOrdered_180 2 rfl ?_
                              refine z_const hY eL_isOrdered_181 ?_
                              refine z_callV (As := [z_i 4]) (rest := []) hY eL_isOrdered_182 (la_next (B := B) (κ := κ) (σ := (z_u σ4 0 0 X229)) hG (gS_X hI) (n := 4) (by omega)) ((gH_at (gS_X hI) (by decide)).trans (congrArg some lC_40)) (by decide) (Nat.le_of_ble_eq_true rfl) (by rw [hmc, hms]; omega) (fun _ _ q => q.elim) (fun vv243 hh243 q243 => ?_)
                              obtain ⟨r242, X242, rfl, hr242, hX242, rfl⟩ := q243
                              refine z_istore hY eL_isOrdered_185 (ls' := [(7, z_i r242), (6, z_i 1), (5, z_i 1), (0, .ref (A 40)), (1, .ref b), (2, z_i c), (3, z_i (r203 + 1)), (4, z_i t)]) rfl ?_
                              refine z_aload hY eL_isOrdered_187 3 rfl ?_
                              refine g_gf hY (gS_X hI) eL_isOrdered_188 (v := .ref (A 4)) rfl ?_
                              refine z_const hY eL_isOrdered_191 ?_
                              refine z_iload hY eL_isOrdered_192 5 rfl ?_
                              refine z_imul hY eL_isOrdered_193 ?_
                              refine z_iload hY eL_isOrdered_194 0 rfl ?_
                              refine z_iadd hY eL_isOrdered_196 ?_
                              refine z_dup2 hY eL_isOrdered_197 rfl rfl ?_
                              have hb244 := hw4.s4 (4 * c + r242)
                              refine g_ial hY (gS_X hI) eL_isOrdered_198 (j := 4) (N := 16) (x := σ4 4 (4 * c + r242)) (by decide) rfl (by omega) (Eq.trans (congrFun (z_u_ne (by decide)) _) (congrFun (z_u_ne (by decide)) _)) ?_
                              refine z_iload hY eL_isOrdered_199 2 rfl ?_
                              refine z_iload hY eL_isOrdered_201 1 rfl ?_
                              refine z_imul hY eL_isOrdered_203 ?_
                              refine z_top (b := 1) (by omega) ?_
                              refine z_iadd hY eL_isOrdered_204 ?_
                              refine g_ias hY (gS_X hI) eL_isOrdered_205 (j := 4) (N := 16) (by decide) (fun _ => rfl) (by omega) ?_
                              refine z_sub [3, 4, 5, 6, 7, 2, 1, 0] (ls' := [(0, .ref (A 40)), (1, .ref b), (2, z_i c), (3, z_i (r203 + 1)), (4, z_i t), (5, z_i 1), (6, z_i 1), (7, z_i r242)]) rfl ?_
                              have hq4 := h4b (4 * c + r242) (by omega) (by omega)
                              exact rest206 1 1 r242 (z_u (z_u (z_u σ4 0 0 X229) 0 0 X242) 4 (4 * c + r242) ((σ4 4 (4 * c + r242)) + 1)) (by omega) (by omega) (by omega) (fun k k0 k1 k2 k3 k4 => (z_u_ne (by omega)).trans ((z_u_ne (by omega)).trans ((z_u_ne (by omega)).trans (hF4 k k0 k1 k2 k3 k4)))) (wB_u (wB_u (wB_u hw4 (by show (-2147483648 : Int) ≤ _ ∧ _ ≤ (2147483647 : Int); omega)) (by show (-2147483648 : Int) ≤ _ ∧ _ ≤ (2147483647 : Int); omega)) (by show (-3996 : Int) ≤ _ ∧ _ ≤ (3996 : Int); omega)) rfl (fun i => by show z_u σ4 4 (4 * c + r242) ((σ4 4 (4 * c + r242)) + 1) 4 i = _; unfold z_up; by_cases c9 : i = 4 * c + r242; (rw [c9, if_pos rfl]; exact (congrArg (fun q => z_u σ4 4 q ((σ4 4 (4 * c + r242)) + 1) 4 (4 * c + r242)) (by omega)).trans (z_u_at.trans (by omega))); (rw [if_neg c9]; exact z_u_at' (by omega))) (by omega)
                            · refine z_iload hY eL_isOrdered_167 6 rfl ?_
                              refine z_ifne hY eL_isOrdered_169 (by omega) (fun c169 => ?_) (fun c169 => ?_)
                              · refine z_aload hY eL_isOrdered_180 2 rfl ?_
                                refine z_const hY eL_isOrdered_181 ?_
                                refine z_callV (As := [z_i 4]) (rest := []) hY eL_isOrdered_182 (la_next (B := B) (κ := κ) (σ := (z_u σ4 0 0 X229)) hG (gS_X hI) (n := 4) (by omega)) ((gH_at (gS_X hI) (by decide)).trans (congrArg some lC_40)) (by decide) (Nat.le_of_ble_eq_true rfl) (by rw [hmc, hms]; omega) (fun _ _ q => q.elim) (fun vv246 hh246 q246 => ?_)
                                obtain ⟨r245, X245, rfl, hr245, hX245, rfl⟩ := q246
                                refine z_istore hY eL_isOrdered_185 (ls' := [(7, z_i r245), (6, z_i 1), (5, z_i 1), (0, .ref (A 40)), (1, .ref b), (2, z_i c), (3, z_i (r203 + 1)), (4, z_i t)]) rfl ?_
                                refine z_aload hY eL_isOrdered_187 3 rfl ?_
                                refine g_gf hY (gS_X hI) eL_isOrdered_188 (v := .ref (A 4)) rfl ?_
                                refine z_const hY eL_isOrdered_191 ?_
                                refine z_iload hY eL_isOrdered_192 5 rfl ?_
                                refine z_imul hY eL_isOrdered_193 ?_
                                refine z_iload hY eL_isOrdered_194 0 rfl ?_
                                refine z_iadd hY eL_isOrdered_196 ?_
                                refine z_dup2 hY eL_isOrdered_197 rfl rfl ?_
                                have hb247 := hw4.s4 (4 * c + r245)
                                refine g_ial hY (gS_X hI) eL_isOrdered_198 (j := 4) (N := 16) (x := σ4 4 (4 * c + r245)) (by decide) rfl (by omega) (Eq.trans (congrFun (z_u_ne (by decide)) _) (congrFun (z_u_ne (by decide)) _)) ?_
                                refine z_iload hY eL_isOrdered_199 2 rfl ?_
                                refine z_iload hY eL_isOrdered_201 1 rfl ?_
                                refine z_imul hY eL_isOrdered_203 ?_
                                refine z_top (b := 1) (by omega) ?_
                                refine z_iadd hY eL_isOrdered_204 ?_
                                refine g_ias hY (gS_X hI) eL_isOrdered_205 (j := 4) (N := 16) (by decide) (fun _ => rfl) (by omega) ?_
                                refine z_sub [3, 4, 5, 6, 7, 2, 1, 0] (ls' := [(0, .ref (A 40)), (1, .ref b), (2, z_i c), (3, z_i (r203 + 1)), (4, z_i t), (5, z_i 1), (6, z_i 1), (7, z_i r245)]) rfl ?_
                                have hq4 := h4b (4 * c + r245) (by omega) (by omega)
                                exact rest206 1 1 r245 (z_u (z_u (z_u σ4 0 0 X229) 0 0 X245) 4 (4 * c + r245) ((σ4 4 (4 * c + r245)) + 1)) (by omega) (by omega) (by omega) (fun k k0 k1 k2 k3 k4 => (z_u_ne (by omega)).trans ((z_u_ne (by omega)).trans ((z_u_ne (by omega)).trans (hF4 k k0 k1 k2 k3 k4)))) (wB_u (wB_u (wB_u hw4 (by show (-2147483648 : Int) ≤ _ ∧ _ ≤ (2147483647 : Int); omega)) (by show (-2147483648 : Int) ≤ _ ∧ _ ≤ (2147483647 : Int); omega)) (by show (-3996 : Int) ≤ _ ∧ _ ≤ (3996 : Int); omega)) rfl (fun i => by show z_u σ4 4 (4 * c + r245) ((σ4 4 (4 * c + r245)) + 1) 4 i = _; unfold z_up; by_cases c9 : i = 4 * c + r245; (rw [c9, if_pos rfl]; exact (congrArg (fun q => z_u σ4 4 q ((σ4 4 (4 * c + r245)) + 1) 4 (4 * c + r245)) (by omega)).trans (z_u_at.trans (by omega))); (rw [if_neg c9]; exact z_u_at' (by omega))) (by omega)
                              · refine z_aload hY eL_isOrdered_172 2 rfl ?_
                                refine z_const hY eL_isOrdered_173 ?_
                                refine z_callV (As := [z_i 2]) (rest := []) hY eL_isOrdered_174 (la_next (B := B) (κ := κ) (σ := (z_u σ4 0 0 X229)) hG (gS_X hI) (n := 2) (by omega)) ((gH_at (gS_X hI) (by decide)).trans (congrArg some lC_40)) (by decide) (Nat.le_of_ble_eq_true rfl) (by rw [hmc, hms]; omega) (fun _ _ q => q.elim) (fun vv249 hh249 q249 => ?_)
                                obtain ⟨r248, X248, rfl, hr248, hX248, rfl⟩ := q249
                                refine z_goto hY eL_isOrdered_177 ?_
                                refine z_istore hY eL_isOrdered_185 (ls' := [(7, z_i r248), (6, z_i 1), (5, z_i 1), (0, .ref (A 40)), (1, .ref b), (2, z_i c), (3, z_i (r203 + 1)), (4, z_i t)]) rfl ?_
                                refine z_aload hY eL_isOrdered_187 3 rfl ?_
                                refine g_gf hY (gS_X hI) eL_isOrdered_188 (v := .ref (A 4)) rfl ?_
                                refine z_const hY eL_isOrdered_191 ?_
                                refine z_iload hY eL_isOrdered_192 5 rfl ?_
                                refine z_imul hY eL_isOrdered_193 ?_
                                refine z_iload hY eL_isOrdered_194 0 rfl ?_
                                refine z_iadd hY eL_isOrdered_196 ?_
                                refine z_dup2 hY eL_isOrdered_197 rfl rfl ?_
                                have hb250 := hw4.s4 (4 * c + r248)
                                refine g_ial hY (gS_X hI) eL_isOrdered_198 (j := 4) (N := 16) (x := σ4 4 (4 * c + r248)) (by decide) rfl (by omega) (Eq.trans (congrFun (z_u_ne (by decide)) _) (congrFun (z_u_ne (by decide)) _)) ?_
                                refine z_iload hY eL_isOrdered_199 2 rfl ?_
                                refine z_iload hY eL_isOrdered_201 1 rfl ?_
                                refine z_imul hY eL_isOrdered_203 ?_
                                refine z_top (b := 1) (by omega) ?_
                                refine z_iadd hY eL_isOrdered_204 ?_
                                refine g_ias hY (gS_X hI) eL_isOrdered_205 (j := 4) (N := 16) (by decide) (fun _ => rfl) (by omega) ?_
                                refine z_sub [3, 4, 5, 6, 7, 2, 1, 0] (ls' := [(0, .ref (A 40)), (1, .ref b), (2, z_i c), (3, z_i (r203 + 1)), (4, z_i t), (5, z_i 1), (6, z_i 1), (7, z_i r248)]) rfl ?_
                                have hq4 := h4b (4 * c + r248) (by omega) (by omega)
                                exact rest206 1 1 r248 (z_u (z_u (z_u σ4 0 0 X229) 0 0 X248) 4 (4 * c + r248) ((σ4 4 (4 * c + r248)) + 1)) (by omega) (by omega) (by omega) (fun k k0 k1 k2 k3 k4 => (z_u_ne (by omega)).trans ((z_u_ne (by omega)).trans ((z_u_ne (by omega)).trans (hF4 k k0 k1 k2 k3 k4)))) (wB_u (wB_u (wB_u hw4 (by show (-2147483648 : Int) ≤ _ ∧ _ ≤ (2147483647 : Int); omega)) (by show (-2147483648 : Int) ≤ _ ∧ _ ≤ (2147483647 : Int); omega)) (by show (-3996 : Int) ≤ _ ∧ _ ≤ (3996 : Int); omega)) rfl (fun i => by show z_u σ4 4 (4 * c + r248) ((σ4 4 (4 * c + r248)) + 1) 4 i = _; unfold z_up; by_cases c9 : i = 4 * c + r248; (rw [c9, if_pos rfl]; exact (congrArg (fun q => z_u σ4 4 q ((σ4 4 (4 * c + r248)) + 1) 4 (4 * c + r248)) (by omega)).trans (z_u_at.trans (by omega))); (rw [if_neg c9]; exact z_u_at' (by omega))) (by omega)
                        · refine z_aload hY eL_isOrdered_129 0 rfl ?_
                          refine z_const hY eL_isOrdered_130 ?_
                          refine z_callV (As := [z_i 2]) (rest := []) hY eL_isOrdered_131 (la_next (B := B) (κ := κ) (σ := σ4) hG (gS_X hI) (n := 2) (by omega)) ((gH_at (gS_X hI) (by decide)).trans (congrArg some lC_40)) (by decide) (Nat.le_of_ble_eq_true rfl) (by rw [hmc, hms]; omega) (fun _ _ q => q.elim) (fun vv252 hh252 q252 => ?_)
                          obtain ⟨r251, X251, rfl, hr251, hX251, rfl⟩ := q252
                          refine z_ifne hY eL_isOrdered_134 (by omega) (fun c134 => ?_) (fun c134 => ?_)
                          · refine z_const hY eL_isOrdered_141 ?_
                            refine z_istore hY eL_isOrdered_142 (ls' := [(5, z_i 1), (0, .ref (A 40)), (1, .ref b), (2, z_i c), (3, z_i (r203 + 1)), (4, z_i t)]) rfl ?_
                            refine z_aload hY eL_isOrdered_144 1 rfl ?_
                            refine z_const hY eL_isOrdered_145 ?_
                            refine z_callV (As := [z_i 2]) (rest := []) hY eL_isOrdered_146 (la_next (B := B) (κ := κ) (σ := (z_u σ4 0 0 X251)) hG (gS_X hI) (n := 2) (by omega)) ((gH_at (gS_X hI) (by decide)).trans (congrArg some lC_40)) (by decide) (Nat.le_of_ble_eq_true rfl) (by rw [hmc, hms]; omega) (fun _ _ q => q.elim) (fun vv254 hh254 q254 => ?_)
                            obtain ⟨r253, X253, rfl, hr253, hX253, rfl⟩ := q254
                            refine z_ifne hY eL_isOrdered_149 (by omega) (fun c149 => ?_) (fun c149 => ?_)
                            · refine z_aload hY eL_isOrdered_156 1 rfl ?_
                              refine z_const hY eL_isOrdered_157 ?_
                              refine z_callV (As := [z_i 5]) (rest := []) hY eL_isOrdered_158 (la_next (B := B) (κ := κ) (σ := (z_u (z_u σ4 0 0 X251) 0 0 X253)) hG (gS_X hI) (n := 5) (by omega)) ((gH_at (gS_X hI) (by decide)).trans (congrArg some lC_40)) (by decide) (Nat.le_of_ble_eq_true rfl) (by rw [hmc, hms]; omega) (fun _ _ q => q.elim) (fun vv256 hh256 q256 => ?_)
                              obtain ⟨r255, X255, rfl, hr255, hX255, rfl⟩ := q256
                              refine z_istore hY eL_isOrdered_161 (ls' := [(6, z_i r255), (5, z_i 1), (0, .ref (A 40)), (1, .ref b), (2, z_i c), (3, z_i (r203 + 1)), (4, z_i t)]) rfl ?_
                              refine z_iload hY eL_isOrdered_163 4 rfl ?_
                              refine z_ifne hY eL_isOrdered_164 (by omega) (fun c164 => ?_) (fun c164 => ?_)
                              · refine z_aload hY eL_isOrdered_180 2 rfl ?_
                                refine z_const hY eL_isOrdered_181 ?_
                                refine z_callV (As := [z_i 4]) (rest := []) hY eL_isOrdered_182 (la_next (B := B) (κ := κ) (σ := (z_u (z_u (z_u σ4 0 0 X251) 0 0 X253) 0 0 X255)) hG (gS_X hI) (n := 4) (by omega)) ((gH_at (gS_X hI) (by decide)).trans (congrArg some lC_40)) (by decide) (Nat.le_of_ble_eq_true rfl) (by rw [hmc, hms]; omega) (fun _ _ q => q.elim) (fun vv258 hh258 q258 => ?_)
                                obtain ⟨r257, X257, rfl, hr257, hX257, rfl⟩ := q258
                                refine z_istore hY eL_isOrdered_185 (ls' := [(7, z_i r257), (6, z_i r255), (5, z_i 1), (0, .ref (A 40)), (1, .ref b), (2, z_i c), (3, z_i (r203 + 1)), (4, z_i t)]) rfl ?_
                                refine z_aload hY eL_isOrdered_187 3 rfl ?_
                                refine g_gf hY (gS_X hI) eL_isOrdered_188 (v := .ref (A 4)) rfl ?_
                                refine z_const hY eL_isOrdered_191 ?_
                                refine z_iload hY eL_isOrdered_192 5 rfl ?_
                                refine z_imul hY eL_isOrdered_193 ?_
                                refine z_iload hY eL_isOrdered_194 0 rfl ?_
                                refine z_iadd hY eL_isOrdered_196 ?_
                                refine z_dup2 hY eL_isOrdered_197 rfl rfl ?_
                                have hb259 := hw4.s4 (4 * c + r257)
                                refine g_ial hY (gS_X hI) eL_isOrdered_198 (j := 4) (N := 16) (x := σ4 4 (4 * c + r257)) (by decide) rfl (by omega) (Eq.trans (congrFun (z_u_ne (by decide)) _) (Eq.trans (congrFun (z_u_ne (by decide)) _) (Eq.trans (congrFun (z_u_ne (by decide)) _) (congrFun (z_u_ne (by decide)) _)))) ?_
                                refine z_iload hY eL_isOrdered_199 2 rfl ?_
                                refine z_iload hY eL_isOrdered_201 1 rfl ?_
                                refine z_imul hY eL_isOrdered_203 ?_
                                refine z_top (b := r255) (by omega) ?_
                                refine z_iadd hY eL_isOrdered_204 ?_
                                refine g_ias hY (gS_X hI) eL_isOrdered_205 (j := 4) (N := 16) (by decide) (fun _ => rfl) (by omega) ?_
                                refine z_sub [3, 4, 5, 6, 7, 2, 1, 0] (ls' := [(0, .ref (A 40)), (1, .ref b), (2, z_i c), (3, z_i (r203 + 1)), (4, z_i t), (5, z_i 1), (6, z_i r255), (7, z_i r257)]) rfl ?_
                                have hq4 := h4b (4 * c + r257) (by omega) (by omega)
                                exact rest206 1 r255 r257 (z_u (z_u (z_u (z_u (z_u σ4 0 0 X251) 0 0 X253) 0 0 X255) 0 0 X257) 4 (4 * c + r257) ((σ4 4 (4 * c + r257)) + r255)) (by omega) (by omega) (by omega) (fun k k0 k1 k2 k3 k4 => (z_u_ne (by omega)).trans ((z_u_ne (by omega)).trans ((z_u_ne (by omega)).trans ((z_u_ne (by omega)).trans ((z_u_ne (by omega)).trans (hF4 k k0 k1 k2 k3 k4)))))) (wB_u (wB_u (wB_u (wB_u (wB_u hw4 (by show (-2147483648 : Int) ≤ _ ∧ _ ≤ (2147483647 : Int); omega)) (by show (-2147483648 : Int) ≤ _ ∧ _ ≤ (2147483647 : Int); omega)) (by show (-2147483648 : Int) ≤ _ ∧ _ ≤ (2147483647 : Int); omega)) (by show (-2147483648 : Int) ≤ _ ∧ _ ≤ (2147483647 : Int); omega)) (by show (-3996 : Int) ≤ _ ∧ _ ≤ (3996 : Int); omega)) rfl (fun i => by show z_u σ4 4 (4 * c + r257) ((σ4 4 (4 * c + r257)) + r255) 4 i = _; unfold z_up; by_cases c9 : i = 4 * c + r257; (rw [c9, if_pos rfl]; exact (congrArg (fun q => z_u σ4 4 q ((σ4 4 (4 * c + r257)) + r255) 4 (4 * c + r257)) (by omega)).trans (z_u_at.trans (by omega))); (rw [if_neg c9]; exact z_u_at' (by omega))) (by omega)
                              · refine z_iload hY eL_isOrdered_167 6 rfl ?_
                                refine z_ifne hY eL_isOrdered_169 (by omega) (fun c169 => ?_) (fun c169 => ?_)
                                · refine z_aload hY eL_isOrdered_180 2 rfl ?_
                                  refine z_const hY eL_isOrdered_181 ?_
                                  refine z_callV (As := [z_i 4]) (rest := []) hY eL_isOrdered_182 (la_next (B := B) (κ := κ) (σ := (z_u (z_u (z_u σ4 0 0 X251) 0 0 X253) 0 0 X255)) hG (gS_X hI) (n := 4) (by omega)) ((gH_at (gS_X hI) (by decide)).trans (congrArg some lC_40)) (by decide) (Nat.le_of_ble_eq_true rfl) (by rw [hmc, hms]; omega) (fun _ _ q => q.elim) (fun vv261 hh261 q261 => ?_)
                                  obtain ⟨r260, X260, rfl, hr260, hX260, rfl⟩ := q261
                                  refine z_istore hY eL_isOrdered_185 (ls' := [(7, z_i r260), (6, z_i r255), (5, z_i 1), (0, .ref (A 40)), (1, .ref b), (2, z_i c), (3, z_i (r203 + 1)), (4, z_i t)]) rfl ?_
                                  refine z_aload hY eL_isOrdered_187 3 rfl ?_
                                  refine g_gf hY (gS_X hI) eL_isOrdered_188 (v := .ref (A 4)) rfl ?_
                                  refine z_const hY eL_isOrdered_191 ?_
                                  refine z_iload hY eL_isOrdered_192 5 rfl ?_
                                  refine z_imul hY eL_isOrdered_193 ?_
                                  refine z_iload hY eL_isOrdered_194 0 rfl ?_
                                  refine z_iadd hY eL_isOrdered_196 ?_
                                  refine z_dup2 hY eL_isOrdered_197 rfl rfl ?_
                                  have hb262 := hw4.s4 (4 * c + r260)
                                  refine g_ial hY (gS_X hI) eL_isOrdered_198 (j := 4) (N := 16) (x := σ4 4 (4 * c + r260)) (by decide) rfl (by omega) (Eq.trans (congrFun (z_u_ne (by decide)) _) (Eq.trans (congrFun (z_u_ne (by decide)) _) (Eq.trans (congrFun (z_u_ne (by decide)) _) (congrFun (z_u_ne (by decide)) _)))) ?_
                                  refine z_iload hY eL_isOrdered_199 2 rfl ?_
                                  refine z_iload hY eL_isOrdered_201 1 rfl ?_
                                  refine z_imul hY eL_isOrdered_203 ?_
                                  refine z_top (b := r255) (by omega) ?_
                                  refine z_iadd hY eL_isOrdered_204 ?_
                                  refine g_ias hY (gS_X hI) eL_isOrdered_205 (j := 4) (N := 16) (by decide) (fun _ => rfl) (by omega) ?_
                                  refine z_sub [3, 4, 5, 6, 7, 2, 1, 0] (ls' := [(0, .ref (A 40)), (1, .ref b), (2, z_i c), (3, z_i (r203 + 1)), (4, z_i t), (5, z_i 1), (6, z_i r255), (7, z_i r260)]) rfl ?_
                                  have hq4 := h4b (4 * c + r260) (by omega) (by omega)
                                  exact rest206 1 r255 r260 (z_u (z_u (z_u (z_u (z_u σ4 0 0 X251) 0 0 X253) 0 0 X255) 0 0 X260) 4 (4 * c + r260) ((σ4 4 (4 * c + r260)) + r255)) (by omega) (by omega) (by omega) (fun k k0 k1 k2 k3 k4 => (z_u_ne (by omega)).trans ((z_u_ne (by omega)).trans ((z_u_ne (by omega)).trans ((z_u_ne (by omega)).trans ((z_u_ne (by omega)).trans (hF4 k k0 k1 k2 k3 k4)))))) (wB_u (wB_u (wB_u (wB_u (wB_u hw4 (by show (-2147483648 : Int) ≤ _ ∧ _ ≤ (2147483647 : Int); omega)) (by show (-2147483648 : Int) ≤ _ ∧ _ ≤ (2147483647 : Int); omega)) (by show (-2147483648 : Int) ≤ _ ∧ _ ≤ (2147483647 : Int); omega)) (by show (-2147483648 : Int) ≤ _ ∧ _ ≤ (2147483647 : Int); omega)) (by show (-3996 : Int) ≤ _ ∧ _ ≤ (3996 : Int); omega)) rfl (fun i => by show z_u σ4 4 (4 * c + r260) ((σ4 4 (4 * c + r260)) + r255) 4 i = _; unfold z_up; by_cases c9 : i = 4 * c + r260; (rw [c9, if_pos rfl]; exact (congrArg (fun q => z_u σ4 4 q ((σ4 4 (4 * c + r260)) + r255) 4 (4 * c + r260)) (by omega)).trans (z_u_at.trans (by omega))); (rw [if_neg c9]; exact z_u_at' (by omega))) (by omega)
                                · refine z_aload hY eL_isOrdered_172 2 rfl ?_
                                  refine z_const hY eL_isOrdered_173 ?_
                                  refine z_callV (As := [z_i 2]) (rest := []) hY eL_isOrdered_174 (la_next (B := B) (κ := κ) (σ := (z_u (z_u (z_u σ4 0 0 X251) 0 0 X253) 0 0 X255)) hG (gS_X hI) (n := 2) (by omega)) ((gH_at (gS_X hI) (by decide)).trans (congrArg some lC_40)) (by decide) (Nat.le_of_ble_eq_true rfl) (by rw [hmc, hms]; omega) (fun _ _ q => q.elim) (fun vv264 hh264 q264 => ?_)
                                  obtain ⟨r263, X263, rfl, hr263, hX263, rfl⟩ := q264
                                  refine z_goto hY eL_isOrdered_177 ?_
                                  refine z_istore hY eL_isOrdered_185 (ls' := [(7, z_i r263), (6, z_i r255), (5, z_i 1), (0, .ref (A 40)), (1, .ref b), (2, z_i c), (3, z_i (r203 + 1)), (4, z_i t)]) rfl ?_
                                  refine z_aload hY eL_isOrdered_187 3 rfl ?_
                                  refine g_gf hY (gS_X hI) eL_isOrdered_188 (v := .ref (A 4)) rfl ?_
                                  refine z_const hY eL_isOrdered_191 ?_
                                  refine z_iload hY eL_isOrdered_192 5 rfl ?_
                                  refine z_imul hY eL_isOrdered_193 ?_
                                  refine z_iload hY eL_isOrdered_194 0 rfl ?_
                                  refine z_iadd hY eL_isOrdered_196 ?_
                                  refine z_dup2 hY eL_isOrdered_197 rfl rfl ?_
                                  have hb265 := hw4.s4 (4 * c + r263)
                                  refine g_ial hY (gS_X hI) eL_isOrdered_198 (j := 4) (N := 16) (x := σ4 4 (4 * c + r263)) (by decide) rfl (by omega) (Eq.trans (congrFun (z_u_ne (by decide)) _) (Eq.trans (congrFun (z_u_ne (by decide)) _) (Eq.trans (congrFun (z_u_ne (by decide)) _) (congrFun (z_u_ne (by decide)) _)))) ?_
                                  refine z_iload hY eL_isOrdered_199 2 rfl ?_
                                  refine z_iload hY eL_isOrdered_201 1 rfl ?_
                                  refine z_imul hY eL_isOrdered_203 ?_
                                  refine z_top (b := r255) (by omega) ?_
                                  refine z_iadd hY eL_isOrdered_204 ?_
                                  refine g_ias hY (gS_X hI) eL_isOrdered_205 (j := 4) (N := 16) (by decide) (fun _ => rfl) (by omega) ?_
                                  refine z_sub [3, 4, 5, 6, 7, 2, 1, 0] (ls' := [(0, .ref (A 40)), (1, .ref b), (2, z_i c), (3, z_i (r203 + 1)), (4, z_i t), (5, z_i 1), (6, z_i r255), (7, z_i r263)]) rfl ?_
                                  have hq4 := h4b (4 * c + r263) (by omega) (by omega)
                                  exact rest206 1 r255 r263 (z_u (z_u (z_u (z_u (z_u σ4 0 0 X251) 0 0 X253) 0 0 X255) 0 0 X263) 4 (4 * c + r263) ((σ4 4 (4 * c + r263)) + r255)) (by omega) (by omega) (by omega) (fun k k0 k1 k2 k3 k4 => (z_u_ne (by omega)).trans ((z_u_ne (by omega)).trans ((z_u_ne (by omega)).trans ((z_u_ne (by omega)).trans ((z_u_ne (by omega)).trans (hF4 k k0 k1 k2 k3 k4)))))) (wB_u (wB_u (wB_u (wB_u (wB_u hw4 (by show (-2147483648 : Int) ≤ _ ∧ _ ≤ (2147483647 : Int); omega)) (by show (-2147483648 : Int) ≤ _ ∧ _ ≤ (2147483647 : Int); omega)) (by show (-2147483648 : Int) ≤ _ ∧ _ ≤ (2147483647 : Int); omega)) (by show (-2147483648 : Int) ≤ _ ∧ _ ≤ (2147483647 : Int); omega)) (by show (-3996 : Int) ≤ _ ∧ _ ≤ (3996 : Int); omega)) rfl (fun i => by show z_u σ4 4 (4 * c + r263) ((σ4 4 (4 * c + r263)) + r255) 4 i = _; unfold z_up; by_cases c9 : i = 4 * c + r263; (rw [c9, if_pos rfl]; exact (congrArg (fun q => z_u σ4 4 q ((σ4 4 (4 * c + r263)) + r255) 4 (4 * c + r263)) (by omega)).trans (z_u_at.trans (by omega))); (rw [if_neg c9]; exact z_u_at' (by omega))) (by omega)
                            · refine z_const hY eL_isOrdered_152 ?_
                              refine z_goto hY eL_isOrdered_153 ?_
                              refine z_istore hY eL_isOrdered_161 (ls' := [(6, z_i 1), (5, z_i 1), (0, .ref (A 40)), (1, .ref b), (2, z_i c), (3, z_i (r203 + 1)), (4, z_i t)]) rfl ?_
                              refine z_iload hY eL_isOrdered_163 4 rfl ?_
                              refine z_ifne hY eL_isOrdered_164 (by omega) (fun c164 => ?_) (fun c164 => ?_)
                              · refine z_aload hY eL_isOrdered_180 2 rfl ?_
                                refine z_const hY eL_isOrdered_181 ?_
                                refine z_callV (As := [z_i 4]) (rest := []) hY eL_isOrdered_182 (la_next (B := B) (κ := κ) (σ := (z_u (z_u σ4 0 0 X251) 0 0 X253)) hG (gS_X hI) (n := 4) (by omega)) ((gH_at (gS_X hI) (by decide)).trans (congrArg some lC_40)) (by decide) (Nat.le_of_ble_eq_true rfl) (by rw [hmc, hms]; omega) (fun _ _ q => q.elim) (fun vv267 hh267 q267 => ?_)
                                obtain ⟨r266, X266, rfl, hr266, hX266, rfl⟩ := q267
                                refine z_istore hY eL_isOrdered_185 (ls' := [(7, z_i r266), (6, z_i 1), (5, z_i 1), (0, .ref (A 40)), (1, .ref b), (2, z_i c), (3, z_i (r203 + 1)), (4, z_i t)]) rfl ?_
                                refine z_aload hY eL_isOrdered_187 3 rfl ?_
                                refine g_gf hY (gS_X hI) eL_isOrdered_188 (v := .ref (A 4)) rfl ?_
                                refine z_const hY eL_isOrdered_191 ?_
                                refine z_iload hY eL_isOrdered_192 5 rfl ?_
                                refine z_imul hY eL_isOrdered_193 ?_
                                refine z_iload hY eL_isOrdered_194 0 rfl ?_
                                refine z_iadd hY eL_isOrdered_196 ?_
                                refine z_dup2 hY eL_isOrdered_197 rfl rfl ?_
                                have hb268 := hw4.s4 (4 * c + r266)
                                refine g_ial hY (gS_X hI) eL_isOrdered_198 (j := 4) (N := 16) (x := σ4 4 (4 * c + r266)) (by decide) rfl (by omega) (Eq.trans (congrFun (z_u_ne (by decide)) _) (Eq.trans (congrFun (z_u_ne (by decide)) _) (congrFun (z_u_ne (by decide)) _))) ?_
                                refine z_iload hY eL_isOrdered_199 2 rfl ?_
                                refine z_iload hY eL_isOrdered_201 1 rfl ?_
                                refine z_imul hY eL_isOrdered_203 ?_
                                refine z_top (b := 1) (by omega) ?_
                                refine z_iadd hY eL_isOrdered_204 ?_
                                refine g_ias hY (gS_X hI) eL_isOrdered_205 (j := 4) (N := 16) (by decide) (fun _ => rfl) (by omega) ?_
                                refine z_sub [3, 4, 5, 6, 7, 2, 1, 0] (ls' := [(0, .ref (A 40)), (1, .ref b), (2, z_i c), (3, z_i (r203 + 1)), (4, z_i t), (5, z_i 1), (6, z_i 1), (7, z_i r266)]) rfl ?_
                                have hq4 := h4b (4 * c + r266) (by omega) (by omega)
                                exact rest206 1 1 r266 (z_u (z_u (z_u (z_u σ4 0 0 X251) 0 0 X253) 0 0 X266) 4 (4 * c + r266) ((σ4 4 (4 * c + r266)) + 1)) (by omega) (by omega) (by omega) (fun k k0 k1 k2 k3 k4 => (z_u_ne (by omega)).trans ((z_u_ne (by omega)).trans ((z_u_ne (by omega)).trans ((z_u_ne (by omega)).trans (hF4 k k0 k1 k2 k3 k4))))) (wB_u (wB_u (wB_u (wB_u hw4 (by show (-2147483648 : Int) ≤ _ ∧ _ ≤ (2147483647 : Int); omega)) (by show (-2147483648 : Int) ≤ _ ∧ _ ≤ (2147483647 : Int); omega)) (by show (-2147483648 : Int) ≤ _ ∧ _ ≤ (2147483647 : Int); omega)) (by show (-3996 : Int) ≤ _ ∧ _ ≤ (3996 : Int); omega)) rfl (fun i => by show z_u σ4 4 (4 * c + r266) ((σ4 4 (4 * c + r266)) + 1) 4 i = _; unfold z_up; by_cases c9 : i = 4 * c + r266; (rw [c9, if_pos rfl]; exact (congrArg (fun q => z_u σ4 4 q ((σ4 4 (4 * c + r266)) + 1) 4 (4 * c + r266)) (by omega)).trans (z_u_at.trans (by omega))); (rw [if_neg c9]; exact z_u_at' (by omega))) (by omega)
                              · refine z_iload hY eL_isOrdered_167 6 rfl ?_
                                refine z_ifne hY eL_isOrdered_169 (by omega) (fun c169 => ?_) (fun c169 => ?_)
                                · refine z_aload hY eL_isOrdered_180 2 rfl ?_
                                  refine z_const hY eL_isOrdered_181 ?_
                                  refine z_callV (As := [z_i 4]) (rest := []) hY eL_isOrdered_182 (la_next (B := B) (κ := κ) (σ := (z_u (z_u σ4 0 0 X251) 0 0 X253)) hG (gS_X hI) (n := 4) (by omega)) ((gH_at (gS_X hI) (by decide)).trans (congrArg some lC_40)) (by decide) (Nat.le_of_ble_eq_true rfl) (by rw [hmc, hms]; omega) (fun _ _ q => q.elim) (fun vv270 hh270 q270 => ?_)
                                  obtain ⟨r269, X269, rfl, hr269, hX269, rfl⟩ := q270
                                  refine z_istore hY eL_isOrdered_185 (ls' := [(7, z_i r269), (6, z_i 1), (5, z_i 1), (0, .ref (A 40)), (1, .ref b), (2, z_i c), (3, z_i (r203 + 1)), (4, z_i t)]) rfl ?_
                                  refine z_aload hY eL_isOrdered_187 3 rfl ?_
                                  refine g_gf hY (gS_X hI) eL_isOrdered_188 (v := .ref (A 4)) rfl ?_
                                  refine z_const hY eL_isOrdered_191 ?_
                                  refine z_iload hY eL_isOrdered_192 5 rfl ?_
                                  refine z_imul hY eL_isOrdered_193 ?_
                                  refine z_iload hY eL_isOrdered_194 0 rfl ?_
                                  refine z_iadd hY eL_isOrdered_196 ?_
                                  refine z_dup2 hY eL_isOrdered_197 rfl rfl ?_
                                  have hb271 := hw4.s4 (4 * c + r269)
                                  refine g_ial hY (gS_X hI) eL_isOrdered_198 (j := 4) (N := 16) (x := σ4 4 (4 * c + r269)) (by decide) rfl (by omega) (Eq.trans (congrFun (z_u_ne (by decide)) _) (Eq.trans (congrFun (z_u_ne (by decide)) _) (congrFun (z_u_ne (by decide)) _))) ?_
                                  refine z_iload hY eL_isOrdered_199 2 rfl ?_
                                  refine z_iload hY eL_isOrdered_201 1 rfl ?_
                                  refine z_imul hY eL_isOrdered_203 ?_
                                  refine z_top (b := 1) (by omega) ?_
                                  refine z_iadd hY eL_isOrdered_204 ?_
                                  refine g_ias hY (gS_X hI) eL_isOrdered_205 (j := 4) (N := 16) (by decide) (fun _ => rfl) (by omega) ?_
                                  refine z_sub [3, 4, 5, 6, 7, 2, 1, 0] (ls' := [(0, .ref (A 40)), (1, .ref b), (2, z_i c), (3, z_i (r203 + 1)), (4, z_i t), (5, z_i 1), (6, z_i 1), (7, z_i r269)]) rfl ?_
                                  have hq4 := h4b (4 * c + r269) (by omega) (by omega)
                                  exact rest206 1 1 r269 (z_u (z_u (z_u (z_u σ4 0 0 X251) 0 0 X253) 0 0 X269) 4 (4 * c + r269) ((σ4 4 (4 * c + r269)) + 1)) (by omega) (by omega) (by omega) (fun k k0 k1 k2 k3 k4 => (z_u_ne (by omega)).trans ((z_u_ne (by omega)).trans ((z_u_ne (by omega)).trans ((z_u_ne (by omega)).trans (hF4 k k0 k1 k2 k3 k4))))) (wB_u (wB_u (wB_u (wB_u hw4 (by show (-2147483648 : Int) ≤ _ ∧ _ ≤ (2147483647 : Int); omega)) (by show (-2147483648 : Int) ≤ _ ∧ _ ≤ (2147483647 : Int); omega)) (by show (-2147483648 : Int) ≤ _ ∧ _ ≤ (2147483647 : Int); omega)) (by show (-3996 : Int) ≤ _ ∧ _ ≤ (3996 : Int); omega)) rfl (fun i => by show z_u σ4 4 (4 * c + r269) ((σ4 4 (4 * c + r269)) + 1) 4 i = _; unfold z_up; by_cases c9 : i = 4 * c + r269; (rw [c9, if_pos rfl]; exact (congrArg (fun q => z_u σ4 4 q ((σ4 4 (4 * c + r269)) + 1) 4 (4 * c + r269)) (by omega)).trans (z_u_at.trans (by omega))); (rw [if_neg c9]; exact z_u_at' (by omega))) (by omega)
                                · refine z_aload hY eL_isOrdered_172 2 rfl ?_
                                  refine z_const hY eL_isOrdered_173 ?_
                                  refine z_callV (As := [z_i 2]) (rest := []) hY eL_isOrdered_174 (la_next (B := B) (κ := κ) (σ := (z_u (z_u σ4 0 0 X251) 0 0 X253)) hG (gS_X hI) (n := 2) (by omega)) ((gH_at (gS_X hI) (by decide)).trans (congrArg some lC_40)) (by decide) (Nat.le_of_ble_eq_true rfl) (by rw [hmc, hms]; omega) (fun _ _ q => q.elim) (fun vv273 hh273 q273 => ?_)
                                  obtain ⟨r272, X272, rfl, hr272, hX272, rfl⟩ := q273
                                  refine z_goto hY eL_isOrdered_177 ?_
                                  refine z_istore hY eL_isOrdered_185 (ls' := [(7, z_i r272), (6, z_i 1), (5, z_i 1), (0, .ref (A 40)), (1, .ref b), (2, z_i c), (3, z_i (r203 + 1)), (4, z_i t)]) rfl ?_
                                  refine z_aload hY eL_isOrdered_187 3 rfl ?_
                                  refine g_gf hY (gS_X hI) eL_isOrdered_188 (v := .ref (A 4)) rfl ?_
                                  refine z_const hY eL_isOrdered_191 ?_
                                  refine z_iload hY eL_isOrdered_192 5 rfl ?_
                                  refine z_imul hY eL_isOrdered_193 ?_
                                  refine z_iload hY eL_isOrdered_194 0 rfl ?_
                                  refine z_iadd hY eL_isOrdered_196 ?_
                                  refine z_dup2 hY eL_isOrdered_197 rfl rfl ?_
                                  have hb274 := hw4.s4 (4 * c + r272)
                                  refine g_ial hY (gS_X hI) eL_isOrdered_198 (j := 4) (N := 16) (x := σ4 4 (4 * c + r272)) (by decide) rfl (by omega) (Eq.trans (congrFun (z_u_ne (by decide)) _) (Eq.trans (congrFun (z_u_ne (by decide)) _) (congrFun (z_u_ne (by decide)) _))) ?_
                                  refine z_iload hY eL_isOrdered_199 2 rfl ?_
                                  refine z_iload hY eL_isOrdered_201 1 rfl ?_
                                  refine z_imul hY eL_isOrdered_203 ?_
                                  refine z_top (b := 1) (by omega) ?_
                                  refine z_iadd hY eL_isOrdered_204 ?_
                                  refine g_ias hY (gS_X hI) eL_isOrdered_205 (j := 4) (N := 16) (by decide) (fun _ => rfl) (by omega) ?_
                                  refine z_sub [3, 4, 5, 6, 7, 2, 1, 0] (ls' := [(0, .ref (A 40)), (1, .ref b), (2, z_i c), (3, z_i (r203 + 1)), (4, z_i t), (5, z_i 1), (6, z_i 1), (7, z_i r272)]) rfl ?_
                                  have hq4 := h4b (4 * c + r272) (by omega) (by omega)
                                  exact rest206 1 1 r272 (z_u (z_u (z_u (z_u σ4 0 0 X251) 0 0 X253) 0 0 X272) 4 (4 * c + r272) ((σ4 4 (4 * c + r272)) + 1)) (by omega) (by omega) (by omega) (fun k k0 k1 k2 k3 k4 => (z_u_ne (by omega)).trans ((z_u_ne (by omega)).trans ((z_u_ne (by omega)).trans ((z_u_ne (by omega)).trans (hF4 k k0 k1 k2 k3 k4))))) (wB_u (wB_u (wB_u (wB_u hw4 (by show (-2147483648 : Int) ≤ _ ∧ _ ≤ (2147483647 : Int); omega)) (by show (-2147483648 : Int) ≤ _ ∧ _ ≤ (2147483647 : Int); omega)) (by show (-2147483648 : Int) ≤ _ ∧ _ ≤ (2147483647 : Int); omega)) (by show (-3996 : Int) ≤ _ ∧ _ ≤ (3996 : Int); omega)) rfl (fun i => by show z_u σ4 4 (4 * c + r272) ((σ4 4 (4 * c + r272)) + 1) 4 i = _; unfold z_up; by_cases c9 : i = 4 * c + r272; (rw [c9, if_pos rfl]; exact (congrArg (fun q => z_u σ4 4 q ((σ4 4 (4 * c + r272)) + 1) 4 (4 * c + r272)) (by omega)).trans (z_u_at.trans (by omega))); (rw [if_neg c9]; exact z_u_at' (by omega))) (by omega)
                          · refine z_const hY eL_isOrdered_137 ?_
                            refine z_goto hY eL_isOrdered_138 ?_
                            refine z_istore hY eL_isOrdered_142 (ls' := [(5, z_i (-1)), (0, .ref (A 40)), (1, .ref b), (2, z_i c), (3, z_i (r203 + 1)), (4, z_i t)]) rfl ?_
                            refine z_aload hY eL_isOrdered_144 1 rfl ?_
                            refine z_const hY eL_isOrdered_145 ?_
                            refine z_callV (As := [z_i 2]) (rest := []) hY eL_isOrdered_146 (la_next (B := B) (κ := κ) (σ := (z_u σ4 0 0 X251)) hG (gS_X hI) (n := 2) (by omega)) ((gH_at (gS_X hI) (by decide)).trans (congrArg some lC_40)) (by decide) (Nat.le_of_ble_eq_true rfl) (by rw [hmc, hms]; omega) (fun _ _ q => q.elim) (fun vv276 hh276 q276 => ?_)
                            obtain ⟨r275, X275, rfl, hr275, hX275, rfl⟩ := q276
                            refine z_ifne hY eL_isOrdered_149 (by omega) (fun c149 => ?_) (fun c149 => ?_)
                            · refine z_aload hY eL_isOrdered_156 1 rfl ?_
                              refine z_const hY eL_isOrdered_157 ?_
                              refine z_callV (As := [z_i 5]) (rest := []) hY eL_isOrdered_158 (la_next (B := B) (κ := κ) (σ := (z_u (z_u σ4 0 0 X251) 0 0 X275)) hG (gS_X hI) (n := 5) (by omega)) ((gH_at (gS_X hI) (by decide)).trans (congrArg some lC_40)) (by decide) (Nat.le_of_ble_eq_true rfl) (by rw [hmc, hms]; omega) (fun _ _ q => q.elim) (fun vv278 hh278 q278 => ?_)
                              obtain ⟨r277, X277, rfl, hr277, hX277, rfl⟩ := q278
                              refine z_istore hY eL_isOrdered_161 (ls' := [(6, z_i r277), (5, z_i (-1)), (0, .ref (A 40)), (1, .ref b), (2, z_i c), (3, z_i (r203 + 1)), (4, z_i t)]) rfl ?_
                              refine z_iload hY eL_isOrdered_163 4 rfl ?_
                              refine z_ifne hY eL_isOrdered_164 (by omega) (fun c164 => ?_) (fun c164 => ?_)
                              · refine z_aload hY eL_isOrdered_180 2 rfl ?_
                                refine z_const hY eL_isOrdered_181 ?_
                                refine z_callV (As := [z_i 4]) (rest := []) hY eL_isOrdered_182 (la_next (B := B) (κ := κ) (σ := (z_u (z_u (z_u σ4 0 0 X251) 0 0 X275) 0 0 X277)) hG (gS_X hI) (n := 4) (by omega)) ((gH_at (gS_X hI) (by decide)).trans (congrArg some lC_40)) (by decide) (Nat.le_of_ble_eq_true rfl) (by rw [hmc, hms]; omega) (fun _ _ q => q.elim) (fun vv280 hh280 q280 => ?_)
                                obtain ⟨r279, X279, rfl, hr279, hX279, rfl⟩ := q280
                                refine z_istore hY eL_isOrdered_185 (ls' := [(7, z_i r279), (6, z_i r277), (5, z_i (-1)), (0, .ref (A 40)), (1, .ref b), (2, z_i c), (3, z_i (r203 + 1)), (4, z_i t)]) rfl ?_
                                refine z_aload hY eL_isOrdered_187 3 rfl ?_
                                refine g_gf hY (gS_X hI) eL_isOrdered_188 (v := .ref (A 4)) rfl ?_
                                refine z_const hY eL_isOrdered_191 ?_
                                refine z_iload hY eL_isOrdered_192 5 rfl ?_
                                refine z_imul hY eL_isOrdered_193 ?_
                                refine z_iload hY eL_isOrdered_194 0 rfl ?_
                                refine z_iadd hY eL_isOrdered_196 ?_
                                refine z_dup2 hY eL_isOrdered_197 rfl rfl ?_
                                have hb281 := hw4.s4 (4 * c + r279)
                                refine g_ial hY (gS_X hI) eL_isOrdered_198 (j := 4) (N := 16) (x := σ4 4 (4 * c + r279)) (by decide) rfl (by omega) (Eq.trans (congrFun (z_u_ne (by decide)) _) (Eq.trans (congrFun (z_u_ne (by decide)) _) (Eq.trans (congrFun (z_u_ne (by decide)) _) (congrFun (z_u_ne (by decide)) _)))) ?_
                                refine z_iload hY eL_isOrdered_199 2 rfl ?_
                                refine z_iload hY eL_isOrdered_201 1 rfl ?_
                                refine z_imul hY eL_isOrdered_203 ?_
                                refine z_top (b := -r277) (by omega) ?_
                                refine z_iadd hY eL_isOrdered_204 ?_
                                refine z_top (b := (σ4 4 (4 * c + r279)) - r277) (by omega) ?_
                                refine g_ias hY (gS_X hI) eL_isOrdered_205 (j := 4) (N := 16) (by decide) (fun _ => rfl) (by omega) ?_
                                refine z_sub [3, 4, 5, 6, 7, 2, 1, 0] (ls' := [(0, .ref (A 40)), (1, .ref b), (2, z_i c), (3, z_i (r203 + 1)), (4, z_i t), (5, z_i (-1)), (6, z_i r277), (7, z_i r279)]) rfl ?_
                                have hq4 := h4b (4 * c + r279) (by omega) (by omega)
                                exact rest206 (-1) r277 r279 (z_u (z_u (z_u (z_u (z_u σ4 0 0 X251) 0 0 X275) 0 0 X277) 0 0 X279) 4 (4 * c + r279) ((σ4 4 (4 * c + r279)) - r277)) (by omega) (by omega) (by omega) (fun k k0 k1 k2 k3 k4 => (z_u_ne (by omega)).trans ((z_u_ne (by omega)).trans ((z_u_ne (by omega)).trans ((z_u_ne (by omega)).trans ((z_u_ne (by omega)).trans (hF4 k k0 k1 k2 k3 k4)))))) (wB_u (wB_u (wB_u (wB_u (wB_u hw4 (by show (-2147483648 : Int) ≤ _ ∧ _ ≤ (2147483647 : Int); omega)) (by show (-2147483648 : Int) ≤ _ ∧ _ ≤ (2147483647 : Int); omega)) (by show (-2147483648 : Int) ≤ _ ∧ _ ≤ (2147483647 : Int); omega)) (by show (-2147483648 : Int) ≤ _ ∧ _ ≤ (2147483647 : Int); omega)) (by show (-3996 : Int) ≤ _ ∧ _ ≤ (3996 : Int); omega)) rfl (fun i => by show z_u σ4 4 (4 * c + r279) ((σ4 4 (4 * c + r279)) - r277) 4 i = _; unfold z_up; by_cases c9 : i = 4 * c + r279; (rw [c9, if_pos rfl]; exact (congrArg (fun q => z_u σ4 4 q ((σ4 4 (4 * c + r279)) - r277) 4 (4 * c + r279)) (by omega)).trans (z_u_at.trans (by omega))); (rw [if_neg c9]; exact z_u_at' (by omega))) (by omega)
                              · refine z_iload hY eL_isOrdered_167 6 rfl ?_
                                refine z_ifne hY eL_isOrdered_169 (by omega) (fun c169 => ?_) (fun c169 => ?_)
                                · refine z_aload hY eL_isOrdered_180 2 rfl ?_
                                  refine z_const hY eL_isOrdered_181 ?_
                                  refine z_callV (As := [z_i 4]) (rest := []) hY eL_isOrdered_182 (la_next (B := B) (κ := κ) (σ := (z_u (z_u (z_u σ4 0 0 X251) 0 0 X275) 0 0 X277)) hG (gS_X hI) (n := 4) (by omega)) ((gH_at (gS_X hI) (by decide)).trans (congrArg some lC_40)) (by decide) (Nat.le_of_ble_eq_true rfl) (by rw [hmc, hms]; omega) (fun _ _ q => q.elim) (fun vv283 hh283 q283 => ?_)
                                  obtain ⟨r282, X282, rfl, hr282, hX282, rfl⟩ := q283
                                  refine z_istore hY eL_isOrdered_185 (ls' := [(7, z_i r282), (6, z_i r277), (5, z_i (-1)), (0, .ref (A 40)), (1, .ref b), (2, z_i c), (3, z_i (r203 + 1)), (4, z_i t)]) rfl ?_
                                  refine z_aload hY eL_isOrdered_187 3 rfl ?_
                                  refine g_gf hY (gS_X hI) eL_isOrdered_188 (v := .ref (A 4)) rfl ?_
                                  refine z_const hY eL_isOrdered_191 ?_
                                  refine z_iload hY eL_isOrdered_192 5 rfl ?_
                                  refine z_imul hY eL_isOrdered_193 ?_
                                  refine z_iload hY eL_isOrdered_194 0 rfl ?_
                                  refine z_iadd hY eL_isOrdered_196 ?_
                                  refine z_dup2 hY eL_isOrdered_197 rfl rfl ?_
                                  have hb284 := hw4.s4 (4 * c + r282)
                                  refine g_ial hY (gS_X hI) eL_isOrdered_198 (j := 4) (N := 16) (x := σ4 4 (4 * c + r282)) (by decide) rfl (by omega) (Eq.trans (congrFun (z_u_ne (by decide)) _) (Eq.trans (congrFun (z_u_ne (by decide)) _) (Eq.trans (congrFun (z_u_ne (by decide)) _) (congrFun (z_u_ne (by decide)) _)))) ?_
                                  refine z_iload hY eL_isOrdered_199 2 rfl ?_
                                  refine z_iload hY eL_isOrdered_201 1 rfl ?_
                                  refine z_imul hY eL_isOrdered_203 ?_
                                  refine z_top (b := -r277) (by omega) ?_
                                  refine z_iadd hY eL_isOrdered_204 ?_
                                  refine z_top (b := (σ4 4 (4 * c + r282)) - r277) (by omega) ?_
                                  refine g_ias hY (gS_X hI) eL_isOrdered_205 (j := 4) (N := 16) (by decide) (fun _ => rfl) (by omega) ?_
                                  refine z_sub [3, 4, 5, 6, 7, 2, 1, 0] (ls' := [(0, .ref (A 40)), (1, .ref b), (2, z_i c), (3, z_i (r203 + 1)), (4, z_i t), (5, z_i (-1)), (6, z_i r277), (7, z_i r282)]) rfl ?_
                                  have hq4 := h4b (4 * c + r282) (by omega) (by omega)
                                  exact rest206 (-1) r277 r282 (z_u (z_u (z_u (z_u (z_u σ4 0 0 X251) 0 0 X275) 0 0 X277) 0 0 X282) 4 (4 * c + r282) ((σ4 4 (4 * c + r282)) - r277)) (by omega) (by omega) (by omega) (fun k k0 k1 k2 k3 k4 => (z_u_ne (by omega)).trans ((z_u_ne (by omega)).trans ((z_u_ne (by omega)).trans ((z_u_ne (by omega)).trans ((z_u_ne (by omega)).trans (hF4 k k0 k1 k2 k3 k4)))))) (wB_u (wB_u (wB_u (wB_u (wB_u hw4 (by show (-2147483648 : Int) ≤ _ ∧ _ ≤ (2147483647 : Int); omega)) (by show (-2147483648 : Int) ≤ _ ∧ _ ≤ (2147483647 : Int); omega)) (by show (-2147483648 : Int) ≤ _ ∧ _ ≤ (2147483647 : Int); omega)) (by show (-2147483648 : Int) ≤ _ ∧ _ ≤ (2147483647 : Int); omega)) (by show (-3996 : Int) ≤ _ ∧ _ ≤ (3996 : Int); omega)) rfl (fun i => by show z_u σ4 4 (4 * c + r282) ((σ4 4 (4 * c + r282)) - r277) 4 i = _; unfold z_up; by_cases c9 : i = 4 * c + r282; (rw [c9, if_pos rfl]; exact (congrArg (fun q => z_u σ4 4 q ((σ4 4 (4 * c + r282)) - r277) 4 (4 * c + r282)) (by omega)).trans (z_u_at.trans (by omega))); (rw [if_neg c9]; exact z_u_at' (by omega))) (by omega)
                                · refine z_aload hY eL_isOrdered_172 2 rfl ?_
                                  refine z_const hY eL_isOrdered_173 ?_
                                  refine z_callV (As := [z_i 2]) (rest := []) hY eL_isOrdered_174 (la_next (B := B) (κ := κ) (σ := (z_u (z_u (z_u σ4 0 0 X251) 0 0 X275) 0 0 X277)) hG (gS_X hI) (n := 2) (by omega)) ((gH_at (gS_X hI) (by decide)).trans (congrArg some lC_40)) (by decide) (Nat.le_of_ble_eq_true rfl) (by rw [hmc, hms]; omega) (fun _ _ q => q.elim) (fun vv286 hh286 q286 => ?_)
                                  obtain ⟨r285, X285, rfl, hr285, hX285, rfl⟩ := q286
                                  refine z_goto hY eL_isOrdered_177 ?_
                                  refine z_istore hY eL_isOrdered_185 (ls' := [(7, z_i r285), (6, z_i r277), (5, z_i (-1)), (0, .ref (A 40)), (1, .ref b), (2, z_i c), (3, z_i (r203 + 1)), (4, z_i t)]) rfl ?_
                                  refine z_aload hY eL_isOrdered_187 3 rfl ?_
                                  refine g_gf hY (gS_X hI) eL_isOrdered_188 (v := .ref (A 4)) rfl ?_
                                  refine z_const hY eL_isOrdered_191 ?_
                                  refine z_iload hY eL_isOrdered_192 5 rfl ?_
                                  refine z_imul hY eL_isOrdered_193 ?_
                                  refine z_iload hY eL_isOrdered_194 0 rfl ?_
                                  refine z_iadd hY eL_isOrdered_196 ?_
                                  refine z_dup2 hY eL_isOrdered_197 rfl rfl ?_
                                  have hb287 := hw4.s4 (4 * c + r285)
                                  refine g_ial hY (gS_X hI) eL_isOrdered_198 (j := 4) (N := 16) (x := σ4 4 (4 * c + r285)) (by decide) rfl (by omega) (Eq.trans (congrFun (z_u_ne (by decide)) _) (Eq.trans (congrFun (z_u_ne (by decide)) _) (Eq.trans (congrFun (z_u_ne (by decide)) _) (congrFun (z_u_ne (by decide)) _)))) ?_
                                  refine z_iload hY eL_isOrdered_199 2 rfl ?_
                                  refine z_iload hY eL_isOrdered_201 1 rfl ?_
                                  refine z_imul hY eL_isOrdered_203 ?_
                                  refine z_top (b := -r277) (by omega) ?_
                                  refine z_iadd hY eL_isOrdered_204 ?_
                                  refine z_top (b := (σ4 4 (4 * c + r285)) - r277) (by omega) ?_
                                  refine g_ias hY (gS_X hI) eL_isOrdered_205 (j := 4) (N := 16) (by decide) (fun _ => rfl) (by omega) ?_
                                  refine z_sub [3, 4, 5, 6, 7, 2, 1, 0] (ls' := [(0, .ref (A 40)), (1, .ref b), (2, z_i c), (3, z_i (r203 + 1)), (4, z_i t), (5, z_i (-1)), (6, z_i r277), (7, z_i r285)]) rfl ?_
                                  have hq4 := h4b (4 * c + r285) (by omega) (by omega)
                                  exact rest206 (-1) r277 r285 (z_u (z_u (z_u (z_u (z_u σ4 0 0 X251) 0 0 X275) 0 0 X277) 0 0 X285) 4 (4 * c + r285) ((σ4 4 (4 * c + r285)) - r277)) (by omega) (by omega) (by omega) (fun k k0 k1 k2 k3 k4 => (z_u_ne (by omega)).trans ((z_u_ne (by omega)).trans ((z_u_ne (by omega)).trans ((z_u_ne (by omega)).trans ((z_u_ne (by omega)).trans (hF4 k k0 k1 k2 k3 k4)))))) (wB_u (wB_u (wB_u (wB_u (wB_u hw4 (by show (-2147483648 : Int) ≤ _ ∧ _ ≤ (2147483647 : Int); omega)) (by show (-2147483648 : Int) ≤ _ ∧ _ ≤ (2147483647 : Int); omega)) (by show (-2147483648 : Int) ≤ _ ∧ _ ≤ (2147483647 : Int); omega)) (by show (-2147483648 : Int) ≤ _ ∧ _ ≤ (2147483647 : Int); omega)) (by show (-3996 : Int) ≤ _ ∧ _ ≤ (3996 : Int); omega)) rfl (fun i => by show z_u σ4 4 (4 * c + r285) ((σ4 4 (4 * c + r285)) - r277) 4 i = _; unfold z_up; by_cases c9 : i = 4 * c + r285; (rw [c9, if_pos rfl]; exact (congrArg (fun q => z_u σ4 4 q ((σ4 4 (4 * c + r285)) - r277) 4 (4 * c + r285)) (by omega)).trans (z_u_at.trans (by omega))); (rw [if_neg c9]; exact z_u_at' (by omega))) (by omega)
                            · refine z_const hY eL_isOrdered_152 ?_
                              refine z_goto hY eL_isOrdered_153 ?_
                              refine z_istore hY eL_isOrdered_161 (ls' := [(6, z_i 1), (5, z_i (-1)), (0, .ref (A 40)), (1, .ref b), (2, z_i c), (3, z_i (r203 + 1)), (4, z_i t)]) rfl ?_
                              refine z_iload hY eL_isOrdered_163 4 rfl ?_
                              refine z_ifne hY eL_isOrdered_164 (by omega) (fun c164 => ?_) (fun c164 => ?_)
                              · refine z_aload hY eL_isOrdered_180 2 rfl ?_
                                refine z_const hY eL_isOrdered_181 ?_
                                refine z_callV (As := [z_i 4]) (rest := []) hY eL_isOrdered_182 (la_next (B := B) (κ := κ) (σ := (z_u (z_u σ4 0 0 X251) 0 0 X275)) hG (gS_X hI) (n := 4) (by omega)) ((gH_at (gS_X hI) (by decide)).trans (congrArg some lC_40)) (by decide) (Nat.le_of_ble_eq_true rfl) (by rw [hmc, hms]; omega) (fun _ _ q => q.elim) (fun vv289 hh289 q289 => ?_)
                                obtain ⟨r288, X288, rfl, hr288, hX288, rfl⟩ := q289
                                refine z_istore hY eL_isOrdered_185 (ls' := [(7, z_i r288), (6, z_i 1), (5, z_i (-1)), (0, .ref (A 40)), (1, .ref b), (2, z_i c), (3, z_i (r203 + 1)), (4, z_i t)]) rfl ?_
                                refine z_aload hY eL_isOrdered_187 3 rfl ?_
                                refine g_gf hY (gS_X hI) eL_isOrdered_188 (v := .ref (A 4)) rfl ?_
                                refine z_const hY eL_isOrdered_191 ?_
                                refine z_iload hY eL_isOrdered_192 5 rfl ?_
                                refine z_imul hY eL_isOrdered_193 ?_
                                refine z_iload hY eL_isOrdered_194 0 rfl ?_
                                refine z_iadd hY eL_isOrdered_196 ?_
                                refine z_dup2 hY eL_isOrdered_197 rfl rfl ?_
                                have hb290 := hw4.s4 (4 * c + r288)
                                refine g_ial hY (gS_X hI) eL_isOrdered_198 (j := 4) (N := 16) (x := σ4 4 (4 * c + r288)) (by decide) rfl (by omega) (Eq.trans (congrFun (z_u_ne (by decide)) _) (Eq.trans (congrFun (z_u_ne (by decide)) _) (congrFun (z_u_ne (by decide)) _))) ?_
                                refine z_iload hY eL_isOrdered_199 2 rfl ?_
                                refine z_iload hY eL_isOrdered_201 1 rfl ?_
                                refine z_imul hY eL_isOrdered_203 ?_
                                refine z_top (b := (-1)) (by omega) ?_
                                refine z_iadd hY eL_isOrdered_204 ?_
                                refine z_top (b := (σ4 4 (4 * c + r288)) - 1) (by omega) ?_
                                refine g_ias hY (gS_X hI) eL_isOrdered_205 (j := 4) (N := 16) (by decide) (fun _ => rfl) (by omega) ?_
                                refine z_sub [3, 4, 5, 6, 7, 2, 1, 0] (ls' := [(0, .ref (A 40)), (1, .ref b), (2, z_i c), (3, z_i (r203 + 1)), (4, z_i t), (5, z_i (-1)), (6, z_i 1), (7, z_i r288)]) rfl ?_
                                have hq4 := h4b (4 * c + r288) (by omega) (by omega)
                                exact rest206 (-1) 1 r288 (z_u (z_u (z_u (z_u σ4 0 0 X251) 0 0 X275) 0 0 X288) 4 (4 * c + r288) ((σ4 4 (4 * c + r288)) - 1)) (by omega) (by omega) (by omega) (fun k k0 k1 k2 k3 k4 => (z_u_ne (by omega)).trans ((z_u_ne (by omega)).trans ((z_u_ne (by omega)).trans ((z_u_ne (by omega)).trans (hF4 k k0 k1 k2 k3 k4))))) (wB_u (wB_u (wB_u (wB_u hw4 (by show (-2147483648 : Int) ≤ _ ∧ _ ≤ (2147483647 : Int); omega)) (by show (-2147483648 : Int) ≤ _ ∧ _ ≤ (2147483647 : Int); omega)) (by show (-2147483648 : Int) ≤ _ ∧ _ ≤ (2147483647 : Int); omega)) (by show (-3996 : Int) ≤ _ ∧ _ ≤ (3996 : Int); omega)) rfl (fun i => by show z_u σ4 4 (4 * c + r288) ((σ4 4 (4 * c + r288)) - 1) 4 i = _; unfold z_up; by_cases c9 : i = 4 * c + r288; (rw [c9, if_pos rfl]; exact (congrArg (fun q => z_u σ4 4 q ((σ4 4 (4 * c + r288)) - 1) 4 (4 * c + r288)) (by omega)).trans (z_u_at.trans (by omega))); (rw [if_neg c9]; exact z_u_at' (by omega))) (by omega)
                              · refine z_iload hY eL_isOrdered_167 6 rfl ?_
                                refine z_ifne hY eL_isOrdered_169 (by omega) (fun c169 => ?_) (fun c169 => ?_)
                                · refine z_aload hY eL_isOrdered_180 2 rfl ?_
                                  refine z_const hY eL_isOrdered_181 ?_
                                  refine z_callV (As := [z_i 4]) (rest := []) hY eL_isOrdered_182 (la_next (B := B) (κ := κ) (σ := (z_u (z_u σ4 0 0 X251) 0 0 X275)) hG (gS_X hI) (n := 4) (by omega)) ((gH_at (gS_X hI) (by decide)).trans (congrArg some lC_40)) (by decide) (Nat.le_of_ble_eq_true rfl) (by rw [hmc, hms]; omega) (fun _ _ q => q.elim) (fun vv292 hh292 q292 => ?_)
                                  obtain ⟨r291, X291, rfl, hr291, hX291, rfl⟩ := q292
                                  refine z_istore hY eL_isOrdered_185 (ls' := [(7, z_i r291), (6, z_i 1), (5, z_i (-1)), (0, .ref (A 40)), (1, .ref b), (2, z_i c), (3, z_i (r203 + 1)), (4, z_i t)]) rfl ?_
                                  refine z_aload hY eL_isOrdered_187 3 rfl ?_
                                  refine g_gf hY (gS_X hI) eL_isOrdered_188 (v := .ref (A 4)) rfl ?_
                                  refine z_const hY eL_isOrdered_191 ?_
                                  refine z_iload hY eL_isOrdered_192 5 rfl ?_
                                  refine z_imul hY eL_isOrdered_193 ?_
                                  refine z_iload hY eL_isOrdered_194 0 rfl ?_
                                  refine z_iadd hY eL_isOrdered_196 ?_
                                  refine z_dup2 hY eL_isOrdered_197 rfl rfl ?_
                                  have hb293 := hw4.s4 (4 * c + r291)
                                  refine g_ial hY (gS_X hI) eL_isOrdered_198 (j := 4) (N := 16) (x := σ4 4 (4 * c + r291)) (by decide) rfl (by omega) (Eq.trans (congrFun (z_u_ne (by decide)) _) (Eq.trans (congrFun (z_u_ne (by decide)) _) (congrFun (z_u_ne (by decide)) _))) ?_
                                  refine z_iload hY eL_isOrdered_199 2 rfl ?_
                                  refine z_iload hY eL_isOrdered_201 1 rfl ?_
                                  refine z_imul hY eL_isOrdered_203 ?_
                                  refine z_top (b := (-1)) (by omega) ?_
                                  refine z_iadd hY eL_isOrdered_204 ?_
                                  refine z_top (b := (σ4 4 (4 * c + r291)) - 1) (by omega) ?_
                                  refine g_ias hY (gS_X hI) eL_isOrdered_205 (j := 4) (N := 16) (by decide) (fun _ => rfl) (by omega) ?_
                                  refine z_sub [3, 4, 5, 6, 7, 2, 1, 0] (ls' := [(0, .ref (A 40)), (1, .ref b), (2, z_i c), (3, z_i (r203 + 1)), (4, z_i t), (5, z_i (-1)), (6, z_i 1), (7, z_i r291)]) rfl ?_
                                  have hq4 := h4b (4 * c + r291) (by omega) (by omega)
                                  exact rest206 (-1) 1 r291 (z_u (z_u (z_u (z_u σ4 0 0 X251) 0 0 X275) 0 0 X291) 4 (4 * c + r291) ((σ4 4 (4 * c + r291)) - 1)) (by omega) (by omega) (by omega) (fun k k0 k1 k2 k3 k4 => (z_u_ne (by omega)).trans ((z_u_ne (by omega)).trans ((z_u_ne (by omega)).trans ((z_u_ne (by omega)).trans (hF4 k k0 k1 k2 k3 k4))))) (wB_u (wB_u (wB_u (wB_u hw4 (by show (-2147483648 : Int) ≤ _ ∧ _ ≤ (2147483647 : Int); omega)) (by show (-2147483648 : Int) ≤ _ ∧ _ ≤ (2147483647 : Int); omega)) (by show (-2147483648 : Int) ≤ _ ∧ _ ≤ (2147483647 : Int); omega)) (by show (-3996 : Int) ≤ _ ∧ _ ≤ (3996 : Int); omega)) rfl (fun i => by show z_u σ4 4 (4 * c + r291) ((σ4 4 (4 * c + r291)) - 1) 4 i = _; unfold z_up; by_cases c9 : i = 4 * c + r291; (rw [c9, if_pos rfl]; exact (congrArg (fun q => z_u σ4 4 q ((σ4 4 (4 * c + r291)) - 1) 4 (4 * c + r291)) (by omega)).trans (z_u_at.trans (by omega))); (rw [if_neg c9]; exact z_u_at' (by omega))) (by omega)
                                · refine z_aload hY eL_isOrdered_172 2 rfl ?_
                                  refine z_const hY eL_isOrdered_173 ?_
                                  refine z_callV (As := [z_i 2]) (rest := []) hY eL_isOrdered_174 (la_next (B := B) (κ := κ) (σ := (z_u (z_u σ4 0 0 X251) 0 0 X275)) hG (gS_X hI) (n := 2) (by omega)) ((gH_at (gS_X hI) (by decide)).trans (congrArg some lC_40)) (by decide) (Nat.le_of_ble_eq_true rfl) (by rw [hmc, hms]; omega) (fun _ _ q => q.elim) (fun vv295 hh295 q295 => ?_)
                                  obtain ⟨r294, X294, rfl, hr294, hX294, rfl⟩ := q295
                                  refine z_goto hY eL_isOrdered_177 ?_
                                  refine z_istore hY eL_isOrdered_185 (ls' := [(7, z_i r294), (6, z_i 1), (5, z_i (-1)), (0, .ref (A 40)), (1, .ref b), (2, z_i c), (3, z_i (r203 + 1)), (4, z_i t)]) rfl ?_
                                  refine z_aload hY eL_isOrdered_187 3 rfl ?_
                                  refine g_gf hY (gS_X hI) eL_isOrdered_188 (v := .ref (A 4)) rfl ?_
                                  refine z_const hY eL_isOrdered_191 ?_
                                  refine z_iload hY eL_isOrdered_192 5 rfl ?_
                                  refine z_imul hY eL_isOrdered_193 ?_
                                  refine z_iload hY eL_isOrdered_194 0 rfl ?_
                                  refine z_iadd hY eL_isOrdered_196 ?_
                                  refine z_dup2 hY eL_isOrdered_197 rfl rfl ?_
                                  have hb296 := hw4.s4 (4 * c + r294)
                                  refine g_ial hY (gS_X hI) eL_isOrdered_198 (j := 4) (N := 16) (x := σ4 4 (4 * c + r294)) (by decide) rfl (by omega) (Eq.trans (congrFun (z_u_ne (by decide)) _) (Eq.trans (congrFun (z_u_ne (by decide)) _) (congrFun (z_u_ne (by decide)) _))) ?_
                                  refine z_iload hY eL_isOrdered_199 2 rfl ?_
                                  refine z_iload hY eL_isOrdered_201 1 rfl ?_
                                  refine z_imul hY eL_isOrdered_203 ?_
                                  refine z_top (b := (-1)) (by omega) ?_
                                  refine z_iadd hY eL_isOrdered_204 ?_
                                  refine z_top (b := (σ4 4 (4 * c + r294)) - 1) (by omega) ?_
                                  refine g_ias hY (gS_X hI) eL_isOrdered_205 (j := 4) (N := 16) (by decide) (fun _ => rfl) (by omega) ?_
                                  refine z_sub [3, 4, 5, 6, 7, 2, 1, 0] (ls' := [(0, .ref (A 40)), (1, .ref b), (2, z_i c), (3, z_i (r203 + 1)), (4, z_i t), (5, z_i (-1)), (6, z_i 1), (7, z_i r294)]) rfl ?_
                                  have hq4 := h4b (4 * c + r294) (by omega) (by omega)
                                  exact rest206 (-1) 1 r294 (z_u (z_u (z_u (z_u σ4 0 0 X251) 0 0 X275) 0 0 X294) 4 (4 * c + r294) ((σ4 4 (4 * c + r294)) - 1)) (by omega) (by omega) (by omega) (fun k k0 k1 k2 k3 k4 => (z_u_ne (by omega)).trans ((z_u_ne (by omega)).trans ((z_u_ne (by omega)).trans ((z_u_ne (by omega)).trans (hF4 k k0 k1 k2 k3 k4))))) (wB_u (wB_u (wB_u (wB_u hw4 (by show (-2147483648 : Int) ≤ _ ∧ _ ≤ (2147483647 : Int); omega)) (by show (-2147483648 : Int) ≤ _ ∧ _ ≤ (2147483647 : Int); omega)) (by show (-2147483648 : Int) ≤ _ ∧ _ ≤ (2147483647 : Int); omega)) (by show (-3996 : Int) ≤ _ ∧ _ ≤ (3996 : Int); omega)) rfl (fun i => by show z_u σ4 4 (4 * c + r294) ((σ4 4 (4 * c + r294)) - 1) 4 i = _; unfold z_up; by_cases c9 : i = 4 * c + r294; (rw [c9, if_pos rfl]; exact (congrArg (fun q => z_u σ4 4 q ((σ4 4 (4 * c + r294)) - 1) 4 (4 * c + r294)) (by omega)).trans (z_u_at.trans (by omega))); (rw [if_neg c9]; exact z_u_at' (by omega))) (by omega)
                  refine z_widen (k' := (10 + 40 * c.toNat + 4 + 10 * (0 : Int).toNat)) (n' := (100 + 9000 * c.toNat + 1000 + 2600 * (0 : Int).toNat)) (by omega) (by omega) ?_
                  exact lp118 _ 0 ((n + 2) + 1) (sbC (sbC f n (fun i => if i = 0 then 59 else 32)) (n + 2) (fun _ => 62)) a202 (z_u σ2 0 0 X203) hh202 (Nat.lt_succ_self _) (by omega) (fun k k0 k1 k2 k3 k4 => (z_u_ne (by omega)).trans (hF2 k k0 k1 k2 k3 k4)) (wB_u hw2 (by show (-2147483648 : Int) ≤ _ ∧ _ ≤ (2147483647 : Int); omega)) rfl (fun i i0 i1 => h42 i i0 i1) (fun i i0 i1 => by have z : (z_u σ2 0 0 X203) 4 i = 0 := h40 i i0 (by omega); rw [z]; omega) hsb202 hxa202 (by omega) hfbD (Or.inl ⟨rfl, hiD⟩)
                · refine z_ldcS hY hSB eL_isOrdered_77 kO_81 (fun s297 hk297 => ?_)
                  refine z_goto hY eL_isOrdered_79 ?_
                  have hup298 := sbS_up (D := D) (σ := σ2) hsb hxb hxa
                  refine z_callV (As := [.ref s297]) (rest := []) hY eL_isOrdered_84 (sb_appS (w := 0) (g := (fun _ => 0)) hG hSB hup298 (sbT_c hk297 (by decide) (fun i hi => absurd hi (by omega))) (by omega)) (show gH D B κ A σ2 h1 b = some (z_ob 10 _) from hup298.choose_spec.choose_spec.choose_spec.1) (by decide) (Nat.le_of_ble_eq_true rfl) (by rw [hmc, hms]; omega) (fun _ _ q => q.elim) (fun vv298 hh298 q298 => ?_)
                  obtain ⟨a298, rfl, hsb298, hor298, hfr298⟩ := q298
                  have hgh298 := gH_fr (gS_J hI) (gS_X hI) hxb hxa hfr298
                  have hxa298 := sbX_or (gS_J hI) (gS_X hI) hxa hor298
                  refine z_heq hgh298.symm ?_
                  refine z_aload hY eL_isOrdered_87 0 rfl ?_
                  refine g_gf hY (gS_X hI) eL_isOrdered_88 (v := .ref (A 8)) rfl ?_
                  refine z_iload hY eL_isOrdered_91 2 rfl ?_
                  refine g_bal hY (gS_X hI) eL_isOrdered_92 (j := 8) (N := 4) (x := 1) (by decide) rfl (by omega) ((congrFun hs8 c).trans z_u_at) ?_
                  refine z_ifeq hY eL_isOrdered_93 (by omega) (fun c => absurd c (by omega)) (fun _ => ?_)
                  refine z_const hY eL_isOrdered_96 ?_
                  refine z_goto hY eL_isOrdered_98 ?_
                  have hup299 := sbS_up (D := D) (σ := σ2) hsb298 hxb hxa298
                  refine z_callV (As := [z_i 62]) (rest := []) hY eL_isOrdered_103 (sb_appC (c := 62) hG hSB hup299 (by omega) (by omega)) (show gH D B κ A σ2 hh298 b = some (z_ob 10 _) from hup299.choose_spec.choose_spec.choose_spec.1) (by decide) (Nat.le_of_ble_eq_true rfl) (by rw [hmc, hms]; omega) (fun _ _ q => q.elim) (fun vv299 hh299 q299 => ?_)
                  obtain ⟨a299, rfl, hsb299, hor299, hfr299⟩ := q299
                  have hgh299 := gH_fr (gS_J hI) (gS_X hI) hxb hxa298 hfr299
                  have hxa299 := sbX_or (gS_J hI) (gS_X hI) hxa298 hor299
                  refine z_heq hgh299.symm ?_
                  refine z_pop hY eL_isOrdered_106 rfl ?_
                  refine z_const hY eL_isOrdered_107 ?_
                  refine z_aload hY eL_isOrdered_108 0 rfl ?_
                  refine z_const hY eL_isOrdered_109 ?_
                  refine z_callV (As := [z_i 3]) (rest := [z_i 1]) hY eL_isOrdered_110 (la_next (B := B) (κ := κ) (σ := σ2) hG (gS_X hI) (n := 3) (by omega)) ((gH_at (gS_X hI) (by decide)).trans (congrArg some lC_40)) (by decide) (Nat.le_of_ble_eq_true rfl) (by rw [hmc, hms]; omega) (fun _ _ q => q.elim) (fun vv301 hh301 q301 => ?_)
                  obtain ⟨r300, X300, rfl, hr300, hX300, rfl⟩ := q301
                  refine z_iadd hY eL_isOrdered_113 ?_
                  refine z_top (b := r300 + 1) (by omega) ?_
                  refine z_istore hY eL_isOrdered_114 (ls' := [(3, z_i (r300 + 1)), (0, .ref (A 40)), (1, .ref b), (2, z_i c)]) rfl ?_
                  refine z_const hY eL_isOrdered_115 ?_
                  refine z_istore hY eL_isOrdered_116 (ls' := [(4, z_i 0), (3, z_i (r300 + 1)), (0, .ref (A 40)), (1, .ref b), (2, z_i c)]) rfl ?_
                  have hdd := sb_d0 (f := f) (n := n) (d := 62) (g := fun _ => 0)
                  have hiD : iD (sbC (sbC f n (fun _ => 0)) (n + 0) (fun _ => 62)) ((n + 0) + 1) c ((z_u σ2 0 0 X300) 4) ((z_u σ2 0 0 X300) 8) := iC_d (g := 1) hiC (by omega) (by omega) (by omega) (by rw [if_pos (by omega)]; omega) hdd.1 (by rw [if_pos (by omega)]; exact hdd.2) (fun i i0 i1 => h40 i i0 (by omega)) (fun i i0 i1 => h42 i i0 i1) (fun j j0 j1 => (congrFun hs8 j).trans (z_u_at' (by omega))) ((congrFun hs8 c).trans z_u_at)
                  have hfbD : ∀ i, 0 ≤ i → i < ((n + 0) + 1) → 1 ≤ (sbC (sbC f n (fun _ => 0)) (n + 0) (fun _ => 62)) i ∧ (sbC (sbC f n (fun _ => 0)) (n + 0) (fun _ => 62)) i ≤ 127 := sb_bd (sb_bd hfb (fun i i0 i1 => by omega)) (fun i i0 i1 => by show 1 ≤ (62 : Int) ∧ (62 : Int) ≤ 127; omega)
                  refine z_sub [2, 3, 4, 1, 0] (ls' := [(0, .ref (A 40)), (1, .ref b), (2, z_i c), (3, z_i (r300 + 1)), (4, z_i 0)]) rfl ?_
                  have lp118 : ∀ (fu : Nat) (t : Int) (n4 : Int) (f4 : Int → Int) (a4 : Nat) (σ4 : z_S) (h4 : z_H), ((r300 + 1) - t).toNat < fu → (0 ≤ t ∧ t ≤ (r300 + 1)) → (∀ k, k ≠ 0 → k ≠ 6 → k ≠ 20 → k ≠ 4 → k ≠ 8 → σ4 k = σ3 k) → (wB σ4) → (σ4 8 = (z_u σ2 0 0 X300) 8) → (∀ i, 0 ≤ i → i < 4 * c → σ4 4 i = σ1 4 i) → (∀ i, 4 * c ≤ i → i < 4 * c + 4 → -(4 * t) ≤ σ4 4 i ∧ σ4 4 i ≤ 4 * t) → (sbS h4 b a4 n4 f4) → (sbX B κ A a4) → (0 ≤ n4 ∧ n4 ≤ 18 * c + 3 + 5 * t) → (∀ i, 0 ≤ i → i < n4 → 1 ≤ f4 i ∧ f4 i ≤ 127) → ((t = 0 ∧ iD f4 n4 c (σ4 4) (σ4 8)) ∨ (1 ≤ t ∧ iT f4 n4 c t (σ4 4) (σ4 8))) → z_W Y 118 [(0, .ref (A 40)), (1, .ref b), (2, z_i c), (3, z_i (r300 + 1)), (4, z_i t)] [] (gH D B κ A σ4 h4) (10 + 40 * c.toNat + 4 + 10 * t.toNat) (100 + 9000 * c.toNat + 1000 + 2600 * t.toNat) := by
                    intro fu
                    induction fu with
                    | zero => intro t n4 f4 a4 σ4 h4 hf; exact absurd hf (Nat.not_lt_zero _)
                    | succ fu ih118 =>
                      intro t n4 f4 a4 σ4 h4 hf ht hF4 hw4 hs84 h4lt h4b hsb4 hxa4 hn4 hfb4 hiT
                      have rest206 : ∀ (s x k : Int) (σ5 : z_S), ((t = 0 ∧ s = 1) ∨ (1 ≤ t ∧ (s = 1 ∨ s = -1))) → (0 ≤ x ∧ x ≤ 4) → (0 ≤ k ∧ k ≤ 3) → (∀ k, k ≠ 0 → k ≠ 6 → k ≠ 20 → k ≠ 4 → k ≠ 8 → σ5 k = σ3 k) → (wB σ5) → (σ5 8 = σ4 8) → (∀ i, σ5 4 i = z_up (σ4 4) (4 * c + k) (σ4 4 (4 * c + k) + s * x) i) → (t < (r300 + 1)) → z_W Y 206 [(0, .ref (A 40)), (1, .ref b), (2, z_i c), (3, z_i (r300 + 1)), (4, z_i t), (5, z_i s), (6, z_i x), (7, z_i k)] [] (gH D B κ A σ5 h4) (10 + 40 * c.toNat + 4 + 10 * t.toNat) (100 + 9000 * c.toNat + 1000 + 2600 * t.toNat) := by
                        intro s x k σ5 hsx hxx hkk hF5 hw5 h58 h54 htT
                        have hsm := m_pr (a := s) (b := x) (F := 1) (S := 4) (by omega) (by omega) (by omega) (by omega)
                        refine z_aload hY eL_isOrdered_206 1 rfl ?_
                        refine z_iload hY eL_isOrdered_207 4 rfl ?_
                        refine z_ifne hY eL_isOrdered_209 (by omega) (fun c209 => ?_) (fun c209 => ?_)
                        · refine z_iload hY eL_isOrdered_217 5 rfl ?_
                          refine z_ifge hY eL_isOrdered_219 (by omega) (fun c219 => ?_) (fun c219 => ?_)
                          · refine z_ldcS hY hSB eL_isOrdered_227 kO_94 (fun s302 hk302 => ?_)
                            have hup303 := sbS_up (D := D) (σ := σ5) hsb4 hxb hxa4
                            refine z_callV (As := [.ref s302]) (rest := []) hY eL_isOrdered_229 (sb_appS (w := 1) (g := (fun _ => 43)) hG hSB hup303 (sbT_c hk302 (by decide) (fun i hi => by rcases (show i = 0 by omega) with rfl; rfl)) (by omega)) (show gH D B κ A σ5 h4 b = some (z_ob 10 _) from hup303.choose_spec.choose_spec.choose_spec.1) (by decide) (Nat.le_of_ble_eq_true rfl) (by rw [hmc, hms]; omega) (fun _ _ q => q.elim) (fun vv303 hh303 q303 => ?_)
                            obtain ⟨a303, rfl, hsb303, hor303, hfr303⟩ := q303
                            have hgh303 := gH_fr (gS_J hI) (gS_X hI) hxb hxa4 hfr303
                            have hxa303 := sbX_or (gS_J hI) (gS_X hI) hxa4 hor303
                            refine z_heq hgh303.symm ?_
                            refine z_iload hY eL_isOrdered_232 6 rfl ?_
                            refine z_const hY eL_isOrdered_234 ?_
                            refine z_icmpne hY eL_isOrdered_235 (by omega) (fun c235 => ?_) (fun c235 => ?_)
                            · refine sb_temp hY hG hSB (q := 6) rfl (by omega) (Nat.le_of_ble_eq_true rfl) (by rw [hmc, hms]; omega) (fun s9 H9 hT9 hF9 => ?_)
                              have hgq := gH_mono (gS_J hI) (gS_X hI) hF9
                              have hsq := sbS_mono (sbS_up (D := D) (σ := σ5) hsb303 hxb hxa303) hF9
                              refine z_heq hgq.symm ?_
                              have hup305 := sbS_up (D := D) (σ := σ5) hsq hxb hxa303
                              refine z_callV (As := [.ref s9]) (rest := []) hY eL_isOrdered_263 (sb_appS (w := 3) (g := (sbC (sbC (fun _ => 0) 0 (fun _ => 48 + x)) 1 (fun i => if i = 0 then 32 else 42))) hG hSB hup305 (by rw [hgq]; exact hT9) (by omega)) (show gH D B κ A σ5 H9 b = some (z_ob 10 _) from hup305.choose_spec.choose_spec.choose_spec.1) (by decide) (Nat.le_of_ble_eq_true rfl) (by rw [hmc, hms]; omega) (fun _ _ q => q.elim) (fun vv305 hh305 q305 => ?_)
                              obtain ⟨a305, rfl, hsb305, hor305, hfr305⟩ := q305
                              have hgh305 := gH_fr (gS_J hI) (gS_X hI) hxb hxa303 hfr305
                              have hxa305 := sbX_or (gS_J hI) (gS_X hI) hxa303 hor305
                              refine z_heq hgh305.symm ?_
                              refine z_const hY eL_isOrdered_266 ?_
                              refine z_iload hY eL_isOrdered_268 7 rfl ?_
                              refine z_iadd hY eL_isOrdered_270 ?_
                              refine z_top (b := k + 97) (by omega) ?_
                              refine z_i2c hY eL_isOrdered_271 (by omega) ?_
                              have hup306 := sbS_up (D := D) (σ := σ5) hsb305 hxb hxa305
                              refine z_callV (As := [z_i (k + 97)]) (rest := []) hY eL_isOrdered_272 (sb_appC (c := (k + 97)) hG hSB hup306 (by omega) (by omega)) (show gH D B κ A σ5 hh305 b = some (z_ob 10 _) from hup306.choose_spec.choose_spec.choose_spec.1) (by decide) (Nat.le_of_ble_eq_true rfl) (by rw [hmc, hms]; omega) (fun _ _ q => q.elim) (fun vv306 hh306 q306 => ?_)
                              obtain ⟨a306, rfl, hsb306, hor306, hfr306⟩ := q306
                              have hgh306 := gH_fr (gS_J hI) (gS_X hI) hxb hxa305 hfr306
                              have hxa306 := sbX_or (gS_J hI) (gS_X hI) hxa305 hor306
                              refine z_heq hgh306.symm ?_
                              refine z_pop hY eL_isOrdered_275 rfl ?_
                              refine z_iinc hY eL_isOrdered_276 4 rfl (ls' := [(4, z_i (t + 1)), (0, .ref (A 40)), (1, .ref b), (2, z_i c), (3, z_i (r300 + 1)), (5, z_i s), (6, z_i x), (7, z_i k)]) rfl ?_
                              refine z_goto hY eL_isOrdered_279 ?_
                              have h3 := sb3 (f := f4) (g1 := (fun _ => 43)) (g2 := (sbC (sbC (fun _ => 0) 0 (fun _ => 48 + x)) 1 (fun i => if i = 0 then 32 else 42))) (n := n4) (w1 := 1) (w2 := 3) (d := k + 97) (by decide) (by decide)
                              have hxw : x ≠ 1 := by omega
                              have hlt5 : ∀ i, 0 ≤ i → i < 4 * c → σ5 4 i = σ1 4 i := fun i i0 i1 => (h54 i).trans ((if_neg (by omega)).trans (h4lt i i0 i1))
                              have hb5 : ∀ i, 4 * c ≤ i → i < 4 * c + 4 → -(4 * (t + 1)) ≤ σ5 4 i ∧ σ5 4 i ≤ 4 * (t + 1) := fun i i0 i1 => by rw [h54 i]; unfold z_up; have z9 := h4b i i0 i1; split; (have z8 := h4b (4 * c + k) (by omega) (by omega); omega); omega
                              have hfb5 : ∀ i, 0 ≤ i → i < (((n4 + 1) + 3) + 1) → 1 ≤ (sbC (sbC (sbC f4 n4 (fun _ => 43)) (n4 + 1) (sbC (sbC (fun _ => 0) 0 (fun _ => 48 + x)) 1 (fun i => if i = 0 then 32 else 42))) ((n4 + 1) + 3) (fun _ => (k + 97))) i ∧ (sbC (sbC (sbC f4 n4 (fun _ => 43)) (n4 + 1) (sbC (sbC (fun _ => 0) 0 (fun _ => 48 + x)) 1 (fun i => if i = 0 then 32 else 42))) ((n4 + 1) + 3) (fun _ => (k + 97))) i ≤ 127 := sb_bd (sb_bd (sb_bd hfb4 (fun i i0 i1 => by first | omega | (show 1 ≤ (45 : Int) ∧ (45 : Int) ≤ 127; omega) | (show 1 ≤ (43 : Int) ∧ (43 : Int) ≤ 127; omega))) (fun i i0 i1 => by first | omega | (rcases (show i = 0 ∨ i = 1 ∨ i = 2 by omega) with rfl | rfl | rfl; (show 1 ≤ 48 + x ∧ 48 + x ≤ 127; omega); (show 1 ≤ (32 : Int) ∧ (32 : Int) ≤ 127; omega); (show 1 ≤ (42 : Int) ∧ (42 : Int) ≤ 127; omega)))) (fun i i0 i1 => by show 1 ≤ k + 97 ∧ k + 97 ≤ 127; omega)
                              have htr : trT (sbC (sbC (sbC f4 n4 (fun _ => 43)) (n4 + 1) (sbC (sbC (fun _ => 0) 0 (fun _ => 48 + x)) 1 (fun i => if i = 0 then 32 else 42))) ((n4 + 1) + 3) (fun _ => (k + 97))) (n4 + 1) x k := by unfold trT; rw [if_neg hxw]; exact ⟨(congrArg (sbC (sbC (sbC f4 n4 (fun _ => 43)) (n4 + 1) (sbC (sbC (fun _ => 0) 0 (fun _ => 48 + x)) 1 (fun i => if i = 0 then 32 else 42))) ((n4 + 1) + 3) (fun _ => (k + 97))) (show n4 + 1 = n4 + 1 + 0 by omega)).trans (h3.2.2.1 0 (by omega) (by omega)), h3.2.2.1 1 (by omega) (by omega), h3.2.2.1 2 (by omega) (by omega), h3.2.2.2.trans (by omega)⟩
                              have htl : trL x = 4 := by unfold trL; exact if_neg hxw
                              have hiT4 := iT_t (s := s) (hiT.resolve_left (by omega)).2 (by omega) (by omega) (by omega) (by omega) hxx hkk (fun i i0 i1 => h3.1 i i0 i1) ((congrArg (sbC (sbC (sbC f4 n4 (fun _ => 43)) (n4 + 1) (sbC (sbC (fun _ => 0) 0 (fun _ => 48 + x)) 1 (fun i => if i = 0 then 32 else 42))) ((n4 + 1) + 3) (fun _ => (k + 97))) (show n4 = n4 + 0 by omega)).trans ((h3.2.1 0 (by omega) (by omega)).trans (by first | omega | (show (45 : Int) = _; omega) | (show (43 : Int) = _; omega)))) htr
                              have hiT5 : iT (sbC (sbC (sbC f4 n4 (fun _ => 43)) (n4 + 1) (sbC (sbC (fun _ => 0) 0 (fun _ => 48 + x)) 1 (fun i => if i = 0 then 32 else 42))) ((n4 + 1) + 3) (fun _ => (k + 97))) (((n4 + 1) + 3) + 1) c (t + 1) (σ5 4) (σ5 8) := by rw [h58, show (((n4 + 1) + 3) + 1) = n4 + 1 + trL x by omega]; exact iT_f hiT4 (fun i i0 i1 => h54 i)
                              refine z_sub [1, 2, 3, 4, 0] (ls' := [(0, .ref (A 40)), (1, .ref b), (2, z_i c), (3, z_i (r300 + 1)), (4, z_i (t + 1))]) rfl ?_
                              refine z_widen (k' := (10 + 40 * c.toNat + 4 + 10 * (t + 1).toNat)) (n' := (100 + 9000 * c.toNat + 1000 + 2600 * (t + 1).toNat)) (by omega) (by omega) ?_
                              exact ih118 (t + 1) (((n4 + 1) + 3) + 1) (sbC (sbC (sbC f4 n4 (fun _ => 43)) (n4 + 1) (sbC (sbC (fun _ => 0) 0 (fun _ => 48 + x)) 1 (fun i => if i = 0 then 32 else 42))) ((n4 + 1) + 3) (fun _ => (k + 97))) a306 σ5 hh306 (by omega) (by omega) hF5 hw5 (h58.trans hs84) hlt5 hb5 hsb306 hxa306 (by omega) hfb5 (Or.inr ⟨by omega, hiT5⟩)
                            · refine z_ldcS hY hSB eL_isOrdered_238 kO_81 (fun s307 hk307 => ?_)
                              refine z_goto hY eL_isOrdered_240 ?_
                              have hup308 := sbS_up (D := D) (σ := σ5) hsb303 hxb hxa303
                              refine z_callV (As := [.ref s307]) (rest := []) hY eL_isOrdered_263 (sb_appS (w := 0) (g := (fun _ => 0)) hG hSB hup308 (sbT_c hk307 (by decide) (fun i hi => absurd hi (by omega))) (by omega)) (show gH D B κ A σ5 hh303 b = some (z_ob 10 _) from hup308.choose_spec.choose_spec.choose_spec.1) (by decide) (Nat.le_of_ble_eq_true rfl) (by rw [hmc, hms]; omega) (fun _ _ q => q.elim) (fun vv308 hh308 q308 => ?_)
                              obtain ⟨a308, rfl, hsb308, hor308, hfr308⟩ := q308
                              have hgh308 := gH_fr (gS_J hI) (gS_X hI) hxb hxa303 hfr308
                              have hxa308 := sbX_or (gS_J hI) (gS_X hI) hxa303 hor308
                              refine z_heq hgh308.symm ?_
                              refine z_const hY eL_isOrdered_266 ?_
                              refine z_iload hY eL_isOrdered_268 7 rfl ?_
                              refine z_iadd hY eL_isOrdered_270 ?_
                              refine z_top (b := k + 97) (by omega) ?_
                              refine z_i2c hY eL_isOrdered_271 (by omega) ?_
                              have hup309 := sbS_up (D := D) (σ := σ5) hsb308 hxb hxa308
                              refine z_callV (As := [z_i (k + 97)]) (rest := []) hY eL_isOrdered_272 (sb_appC (c := (k + 97)) hG hSB hup309 (by omega) (by omega)) (show gH D B κ A σ5 hh308 b = some (z_ob 10 _) from hup309.choose_spec.choose_spec.choose_spec.1) (by decide) (Nat.le_of_ble_eq_true rfl) (by rw [hmc, hms]; omega) (fun _ _ q => q.elim) (fun vv309 hh309 q309 => ?_)
                              obtain ⟨a309, rfl, hsb309, hor309, hfr309⟩ := q309
                              have hgh309 := gH_fr (gS_J hI) (gS_X hI) hxb hxa308 hfr309
                              have hxa309 := sbX_or (gS_J hI) (gS_X hI) hxa308 hor309
                              refine z_heq hgh309.symm ?_
                              refine z_pop hY eL_isOrdered_275 rfl ?_
                              refine z_iinc hY eL_isOrdered_276 4 rfl (ls' := [(4, z_i (t + 1)), (0, .ref (A 40)), (1, .ref b), (2, z_i c), (3, z_i (r300 + 1)), (5, z_i s), (6, z_i x), (7, z_i k)]) rfl ?_
                              refine z_goto hY eL_isOrdered_279 ?_
                              have h3 := sb3 (f := f4) (g1 := (fun _ => 43)) (g2 := (fun _ => 0)) (n := n4) (w1 := 1) (w2 := 0) (d := k + 97) (by decide) (by decide)
                              have hxw : x = 1 := by omega
                              have hlt5 : ∀ i, 0 ≤ i → i < 4 * c → σ5 4 i = σ1 4 i := fun i i0 i1 => (h54 i).trans ((if_neg (by omega)).trans (h4lt i i0 i1))
                              have hb5 : ∀ i, 4 * c ≤ i → i < 4 * c + 4 → -(4 * (t + 1)) ≤ σ5 4 i ∧ σ5 4 i ≤ 4 * (t + 1) := fun i i0 i1 => by rw [h54 i]; unfold z_up; have z9 := h4b i i0 i1; split; (have z8 := h4b (4 * c + k) (by omega) (by omega); omega); omega
                              have hfb5 : ∀ i, 0 ≤ i → i < (((n4 + 1) + 0) + 1) → 1 ≤ (sbC (sbC (sbC f4 n4 (fun _ => 43)) (n4 + 1) (fun _ => 0)) ((n4 + 1) + 0) (fun _ => (k + 97))) i ∧ (sbC (sbC (sbC f4 n4 (fun _ => 43)) (n4 + 1) (fun _ => 0)) ((n4 + 1) + 0) (fun _ => (k + 97))) i ≤ 127 := sb_bd (sb_bd (sb_bd hfb4 (fun i i0 i1 => by first | omega | (show 1 ≤ (45 : Int) ∧ (45 : Int) ≤ 127; omega) | (show 1 ≤ (43 : Int) ∧ (43 : Int) ≤ 127; omega))) (fun i i0 i1 => by first | omega | (rcases (show i = 0 ∨ i = 1 ∨ i = 2 by omega) with rfl | rfl | rfl; (show 1 ≤ 48 + x ∧ 48 + x ≤ 127; omega); (show 1 ≤ (32 : Int) ∧ (32 : Int) ≤ 127; omega); (show 1 ≤ (42 : Int) ∧ (42 : Int) ≤ 127; omega)))) (fun i i0 i1 => by show 1 ≤ k + 97 ∧ k + 97 ≤ 127; omega)
                              have htr : trT (sbC (sbC (sbC f4 n4 (fun _ => 43)) (n4 + 1) (fun _ => 0)) ((n4 + 1) + 0) (fun _ => (k + 97))) (n4 + 1) x k := by unfold trT; rw [if_pos hxw]; exact (congrArg (sbC (sbC (sbC f4 n4 (fun _ => 43)) (n4 + 1) (fun _ => 0)) ((n4 + 1) + 0) (fun _ => (k + 97))) (show n4 + 1 = n4 + 1 + 0 by omega)).trans (h3.2.2.2.trans (by omega))
                              have htl : trL x = 1 := by unfold trL; exact if_pos hxw
                              have hiT4 := iT_t (s := s) (hiT.resolve_left (by omega)).2 (by omega) (by omega) (by omega) (by omega) hxx hkk (fun i i0 i1 => h3.1 i i0 i1) ((congrArg (sbC (sbC (sbC f4 n4 (fun _ => 43)) (n4 + 1) (fun _ => 0)) ((n4 + 1) + 0) (fun _ => (k + 97))) (show n4 = n4 + 0 by omega)).trans ((h3.2.1 0 (by omega) (by omega)).trans (by first | omega | (show (45 : Int) = _; omega) | (show (43 : Int) = _; omega)))) htr
                              have hiT5 : iT (sbC (sbC (sbC f4 n4 (fun _ => 43)) (n4 + 1) (fun _ => 0)) ((n4 + 1) + 0) (fun _ => (k + 97))) (((n4 + 1) + 0) + 1) c (t + 1) (σ5 4) (σ5 8) := by rw [h58, show (((n4 + 1) + 0) + 1) = n4 + 1 + trL x by omega]; exact iT_f hiT4 (fun i i0 i1 => h54 i)
                              refine z_sub [1, 2, 3, 4, 0] (ls' := [(0, .ref (A 40)), (1, .ref b), (2, z_i c), (3, z_i (r300 + 1)), (4, z_i (t + 1))]) rfl ?_
                              refine z_widen (k' := (10 + 40 * c.toNat + 4 + 10 * (t + 1).toNat)) (n' := (100 + 9000 * c.toNat + 1000 + 2600 * (t + 1).toNat)) (by omega) (by omega) ?_
                              exact ih118 (t + 1) (((n4 + 1) + 0) + 1) (sbC (sbC (sbC f4 n4 (fun _ => 43)) (n4 + 1) (fun _ => 0)) ((n4 + 1) + 0) (fun _ => (k + 97))) a309 σ5 hh309 (by omega) (by omega) hF5 hw5 (h58.trans hs84) hlt5 hb5 hsb309 hxa309 (by omega) hfb5 (Or.inr ⟨by omega, hiT5⟩)
                          · refine z_ldcS hY hSB eL_isOrdered_222 kO_92 (fun s310 hk310 => ?_)
                            refine z_goto hY eL_isOrdered_224 ?_
                            have hup311 := sbS_up (D := D) (σ := σ5) hsb4 hxb hxa4
                            refine z_callV (As := [.ref s310]) (rest := []) hY eL_isOrdered_229 (sb_appS (w := 1) (g := (fun _ => 45)) hG hSB hup311 (sbT_c hk310 (by decide) (fun i hi => by rcases (show i = 0 by omega) with rfl; rfl)) (by omega)) (show gH D B κ A σ5 h4 b = some (z_ob 10 _) from hup311.choose_spec.choose_spec.choose_spec.1) (by decide) (Nat.le_of_ble_eq_true rfl) (by rw [hmc, hms]; omega) (fun _ _ q => q.elim) (fun vv311 hh311 q311 => ?_)
                            obtain ⟨a311, rfl, hsb311, hor311, hfr311⟩ := q311
                            have hgh311 := gH_fr (gS_J hI) (gS_X hI) hxb hxa4 hfr311
                            have hxa311 := sbX_or (gS_J hI) (gS_X hI) hxa4 hor311
                            refine z_heq hgh311.symm ?_
                            refine z_iload hY eL_isOrdered_232 6 rfl ?_
                            refine z_const hY eL_isOrdered_234 ?_
                            refine z_icmpne hY eL_isOrdered_235 (by omega) (fun c235 => ?_) (fun c235 => ?_)
                            · refine sb_temp hY hG hSB (q := 6) rfl (by omega) (Nat.le_of_ble_eq_true rfl) (by rw [hmc, hms]; omega) (fun s9 H9 hT9 hF9 => ?_)
                              have hgq := gH_mono (gS_J hI) (gS_X hI) hF9
                              have hsq := sbS_mono (sbS_up (D := D) (σ := σ5) hsb311 hxb hxa311) hF9
                              refine z_heq hgq.symm ?_
                              have hup313 := sbS_up (D := D) (σ := σ5) hsq hxb hxa311
                              refine z_callV (As := [.ref s9]) (rest := []) hY eL_isOrdered_263 (sb_appS (w := 3) (g := (sbC (sbC (fun _ => 0) 0 (fun _ => 48 + x)) 1 (fun i => if i = 0 then 32 else 42))) hG hSB hup313 (by rw [hgq]; exact hT9) (by omega)) (show gH D B κ A σ5 H9 b = some (z_ob 10 _) from hup313.choose_spec.choose_spec.choose_spec.1) (by decide) (Nat.le_of_ble_eq_true rfl) (by rw [hmc, hms]; omega) (fun _ _ q => q.elim) (fun vv313 hh313 q313 => ?_)
                              obtain ⟨a313, rfl, hsb313, hor313, hfr313⟩ := q313
                              have hgh313 := gH_fr (gS_J hI) (gS_X hI) hxb hxa311 hfr313
                              have hxa313 := sbX_or (gS_J hI) (gS_X hI) hxa311 hor313
                              refine z_heq hgh313.symm ?_
                              refine z_const hY eL_isOrdered_266 ?_
                              refine z_iload hY eL_isOrdered_268 7 rfl ?_
                              refine z_iadd hY eL_isOrdered_270 ?_
                              refine z_top (b := k + 97) (by omega) ?_
                              refine z_i2c hY eL_isOrdered_271 (by omega) ?_
                              have hup314 := sbS_up (D := D) (σ := σ5) hsb313 hxb hxa313
                              refine z_callV (As := [z_i (k + 97)]) (rest := []) hY eL_isOrdered_272 (sb_appC (c := (k + 97)) hG hSB hup314 (by omega) (by omega)) (show gH D B κ A σ5 hh313 b = some (z_ob 10 _) from hup314.choose_spec.choose_spec.choose_spec.1) (by decide) (Nat.le_of_ble_eq_true rfl) (by rw [hmc, hms]; omega) (fun _ _ q => q.elim) (fun vv314 hh314 q314 => ?_)
                              obtain ⟨a314, rfl, hsb314, hor314, hfr314⟩ := q314
                              have hgh314 := gH_fr (gS_J hI) (gS_X hI) hxb hxa313 hfr314
                              have hxa314 := sbX_or (gS_J hI) (gS_X hI) hxa313 hor314
                              refine z_heq hgh314.symm ?_
                              refine z_pop hY eL_isOrdered_275 rfl ?_
                              refine z_iinc hY eL_isOrdered_276 4 rfl (ls' := [(4, z_i (t + 1)), (0, .ref (A 40)), (1, .ref b), (2, z_i c), (3, z_i (r300 + 1)), (5, z_i s), (6, z_i x), (7, z_i k)]) rfl ?_
                              refine z_goto hY eL_isOrdered_279 ?_
                              have h3 := sb3 (f := f4) (g1 := (fun _ => 45)) (g2 := (sbC (sbC (fun _ => 0) 0 (fun _ => 48 + x)) 1 (fun i => if i = 0 then 32 else 42))) (n := n4) (w1 := 1) (w2 := 3) (d := k + 97) (by decide) (by decide)
                              have hxw : x ≠ 1 := by omega
                              have hlt5 : ∀ i, 0 ≤ i → i < 4 * c → σ5 4 i = σ1 4 i := fun i i0 i1 => (h54 i).trans ((if_neg (by omega)).trans (h4lt i i0 i1))
                              have hb5 : ∀ i, 4 * c ≤ i → i < 4 * c + 4 → -(4 * (t + 1)) ≤ σ5 4 i ∧ σ5 4 i ≤ 4 * (t + 1) := fun i i0 i1 => by rw [h54 i]; unfold z_up; have z9 := h4b i i0 i1; split; (have z8 := h4b (4 * c + k) (by omega) (by omega); omega); omega
                              have hfb5 : ∀ i, 0 ≤ i → i < (((n4 + 1) + 3) + 1) → 1 ≤ (sbC (sbC (sbC f4 n4 (fun _ => 45)) (n4 + 1) (sbC (sbC (fun _ => 0) 0 (fun _ => 48 + x)) 1 (fun i => if i = 0 then 32 else 42))) ((n4 + 1) + 3) (fun _ => (k + 97))) i ∧ (sbC (sbC (sbC f4 n4 (fun _ => 45)) (n4 + 1) (sbC (sbC (fun _ => 0) 0 (fun _ => 48 + x)) 1 (fun i => if i = 0 then 32 else 42))) ((n4 + 1) + 3) (fun _ => (k + 97))) i ≤ 127 := sb_bd (sb_bd (sb_bd hfb4 (fun i i0 i1 => by first | omega | (show 1 ≤ (45 : Int) ∧ (45 : Int) ≤ 127; omega) | (show 1 ≤ (43 : Int) ∧ (43 : Int) ≤ 127; omega))) (fun i i0 i1 => by first | omega | (rcases (show i = 0 ∨ i = 1 ∨ i = 2 by omega) with rfl | rfl | rfl; (show 1 ≤ 48 + x ∧ 48 + x ≤ 127; omega); (show 1 ≤ (32 : Int) ∧ (32 : Int) ≤ 127; omega); (show 1 ≤ (42 : Int) ∧ (42 : Int) ≤ 127; omega)))) (fun i i0 i1 => by show 1 ≤ k + 97 ∧ k + 97 ≤ 127; omega)
                              have htr : trT (sbC (sbC (sbC f4 n4 (fun _ => 45)) (n4 + 1) (sbC (sbC (fun _ => 0) 0 (fun _ => 48 + x)) 1 (fun i => if i = 0 then 32 else 42))) ((n4 + 1) + 3) (fun _ => (k + 97))) (n4 + 1) x k := by unfold trT; rw [if_neg hxw]; exact ⟨(congrArg (sbC (sbC (sbC f4 n4 (fun _ => 45)) (n4 + 1) (sbC (sbC (fun _ => 0) 0 (fun _ => 48 + x)) 1 (fun i => if i = 0 then 32 else 42))) ((n4 + 1) + 3) (fun _ => (k + 97))) (show n4 + 1 = n4 + 1 + 0 by omega)).trans (h3.2.2.1 0 (by omega) (by omega)), h3.2.2.1 1 (by omega) (by omega), h3.2.2.1 2 (by omega) (by omega), h3.2.2.2.trans (by omega)⟩
                              have htl : trL x = 4 := by unfold trL; exact if_neg hxw
                              have hiT4 := iT_t (s := s) (hiT.resolve_left (by omega)).2 (by omega) (by omega) (by omega) (by omega) hxx hkk (fun i i0 i1 => h3.1 i i0 i1) ((congrArg (sbC (sbC (sbC f4 n4 (fun _ => 45)) (n4 + 1) (sbC (sbC (fun _ => 0) 0 (fun _ => 48 + x)) 1 (fun i => if i = 0 then 32 else 42))) ((n4 + 1) + 3) (fun _ => (k + 97))) (show n4 = n4 + 0 by omega)).trans ((h3.2.1 0 (by omega) (by omega)).trans (by first | omega | (show (45 : Int) = _; omega) | (show (43 : Int) = _; omega)))) htr
                              have hiT5 : iT (sbC (sbC (sbC f4 n4 (fun _ => 45)) (n4 + 1) (sbC (sbC (fun _ => 0) 0 (fun _ => 48 + x)) 1 (fun i => if i = 0 then 32 else 42))) ((n4 + 1) + 3) (fun _ => (k + 97))) (((n4 + 1) + 3) + 1) c (t + 1) (σ5 4) (σ5 8) := by rw [h58, show (((n4 + 1) + 3) + 1) = n4 + 1 + trL x by omega]; exact iT_f hiT4 (fun i i0 i1 => h54 i)
                              refine z_sub [1, 2, 3, 4, 0] (ls' := [(0, .ref (A 40)), (1, .ref b), (2, z_i c), (3, z_i (r300 + 1)), (4, z_i (t + 1))]) rfl ?_
                              refine z_widen (k' := (10 + 40 * c.toNat + 4 + 10 * (t + 1).toNat)) (n' := (100 + 9000 * c.toNat + 1000 + 2600 * (t + 1).toNat)) (by omega) (by omega) ?_
                              exact ih118 (t + 1) (((n4 + 1) + 3) + 1) (sbC (sbC (sbC f4 n4 (fun _ => 45)) (n4 + 1) (sbC (sbC (fun _ => 0) 0 (fun _ => 48 + x)) 1 (fun i => if i = 0 then 32 else 42))) ((n4 + 1) + 3) (fun _ => (k + 97))) a314 σ5 hh314 (by omega) (by omega) hF5 hw5 (h58.trans hs84) hlt5 hb5 hsb314 hxa314 (by omega) hfb5 (Or.inr ⟨by omega, hiT5⟩)
                            · refine z_ldcS hY hSB eL_isOrdered_238 kO_81 (fun s315 hk315 => ?_)
                              refine z_goto hY eL_isOrdered_240 ?_
                              have hup316 := sbS_up (D := D) (σ := σ5) hsb311 hxb hxa311
                              refine z_callV (As := [.ref s315]) (rest := []) hY eL_isOrdered_263 (sb_appS (w := 0) (g := (fun _ => 0)) hG hSB hup316 (sbT_c hk315 (by decide) (fun i hi => absurd hi (by omega))) (by omega)) (show gH D B κ A σ5 hh311 b = some (z_ob 10 _) from hup316.choose_spec.choose_spec.choose_spec.1) (by decide) (Nat.le_of_ble_eq_true rfl) (by rw [hmc, hms]; omega) (fun _ _ q => q.elim) (fun vv316 hh316 q316 => ?_)
                              obtain ⟨a316, rfl, hsb316, hor316, hfr316⟩ := q316
                              have hgh316 := gH_fr (gS_J hI) (gS_X hI) hxb hxa311 hfr316
                              have hxa316 := sbX_or (gS_J hI) (gS_X hI) hxa311 hor316
                              refine z_heq hgh316.symm ?_
                              refine z_const hY eL_isOrdered_266 ?_
                              refine z_iload hY eL_isOrdered_268 7 rfl ?_
                              refine z_iadd hY eL_isOrdered_270 ?_
                              refine z_top (b := k + 97) (by omega) ?_
                              refine z_i2c hY eL_isOrdered_271 (by omega) ?_
                              have hup317 := sbS_up (D := D) (σ := σ5) hsb316 hxb hxa316
                              refine z_callV (As := [z_i (k + 97)]) (rest := []) hY eL_isOrdered_272 (sb_appC (c := (k + 97)) hG hSB hup317 (by omega) (by omega)) (show gH D B κ A σ5 hh316 b = some (z_ob 10 _) from hup317.choose_spec.choose_spec.choose_spec.1) (by decide) (Nat.le_of_ble_eq_true rfl) (by rw [hmc, hms]; omega) (fun _ _ q => q.elim) (fun vv317 hh317 q317 => ?_)
                              obtain ⟨a317, rfl, hsb317, hor317, hfr317⟩ := q317
                              have hgh317 := gH_fr (gS_J hI) (gS_X hI) hxb hxa316 hfr317
                              have hxa317 := sbX_or (gS_J hI) (gS_X hI) hxa316 hor317
                              refine z_heq hgh317.symm ?_
                              refine z_pop hY eL_isOrdered_275 rfl ?_
                              refine z_iinc hY eL_isOrdered_276 4 rfl (ls' := [(4, z_i (t + 1)), (0, .ref (A 40)), (1, .ref b), (2, z_i c), (3, z_i (r300 + 1)), (5, z_i s), (6, z_i x), (7, z_i k)]) rfl ?_
                              refine z_goto hY eL_isOrdered_279 ?_
                              have h3 := sb3 (f := f4) (g1 := (fun _ => 45)) (g2 := (fun _ => 0)) (n := n4) (w1 := 1) (w2 := 0) (d := k + 97) (by decide) (by decide)
                              have hxw : x = 1 := by omega
                              have hlt5 : ∀ i, 0 ≤ i → i < 4 * c → σ5 4 i = σ1 4 i := fun i i0 i1 => (h54 i).trans ((if_neg (by omega)).trans (h4lt i i0 i1))
                              have hb5 : ∀ i, 4 * c ≤ i → i < 4 * c + 4 → -(4 * (t + 1)) ≤ σ5 4 i ∧ σ5 4 i ≤ 4 * (t + 1) := fun i i0 i1 => by rw [h54 i]; unfold z_up; have z9 := h4b i i0 i1; split; (have z8 := h4b (4 * c + k) (by omega) (by omega); omega); omega
                              have hfb5 : ∀ i, 0 ≤ i → i < (((n4 + 1) + 0) + 1) → 1 ≤ (sbC (sbC (sbC f4 n4 (fun _ => 45)) (n4 + 1) (fun _ => 0)) ((n4 + 1) + 0) (fun _ => (k + 97))) i ∧ (sbC (sbC (sbC f4 n4 (fun _ => 45)) (n4 + 1) (fun _ => 0)) ((n4 + 1) + 0) (fun _ => (k + 97))) i ≤ 127 := sb_bd (sb_bd (sb_bd hfb4 (fun i i0 i1 => by first | omega | (show 1 ≤ (45 : Int) ∧ (45 : Int) ≤ 127; omega) | (show 1 ≤ (43 : Int) ∧ (43 : Int) ≤ 127; omega))) (fun i i0 i1 => by first | omega | (rcases (show i = 0 ∨ i = 1 ∨ i = 2 by omega) with rfl | rfl | rfl; (show 1 ≤ 48 + x ∧ 48 + x ≤ 127; omega); (show 1 ≤ (32 : Int) ∧ (32 : Int) ≤ 127; omega); (show 1 ≤ (42 : Int) ∧ (42 : Int) ≤ 127; omega)))) (fun i i0 i1 => by show 1 ≤ k + 97 ∧ k + 97 ≤ 127; omega)
                              have htr : trT (sbC (sbC (sbC f4 n4 (fun _ => 45)) (n4 + 1) (fun _ => 0)) ((n4 + 1) + 0) (fun _ => (k + 97))) (n4 + 1) x k := by unfold trT; rw [if_pos hxw]; exact (congrArg (sbC (sbC (sbC f4 n4 (fun _ => 45)) (n4 + 1) (fun _ => 0)) ((n4 + 1) + 0) (fun _ => (k + 97))) (show n4 + 1 = n4 + 1 + 0 by omega)).trans (h3.2.2.2.trans (by omega))
                              have htl : trL x = 1 := by unfold trL; exact if_pos hxw
                              have hiT4 := iT_t (s := s) (hiT.resolve_left (by omega)).2 (by omega) (by omega) (by omega) (by omega) hxx hkk (fun i i0 i1 => h3.1 i i0 i1) ((congrArg (sbC (sbC (sbC f4 n4 (fun _ => 45)) (n4 + 1) (fun _ => 0)) ((n4 + 1) + 0) (fun _ => (k + 97))) (show n4 = n4 + 0 by omega)).trans ((h3.2.1 0 (by omega) (by omega)).trans (by first | omega | (show (45 : Int) = _; omega) | (show (43 : Int) = _; omega)))) htr
                              have hiT5 : iT (sbC (sbC (sbC f4 n4 (fun _ => 45)) (n4 + 1) (fun _ => 0)) ((n4 + 1) + 0) (fun _ => (k + 97))) (((n4 + 1) + 0) + 1) c (t + 1) (σ5 4) (σ5 8) := by rw [h58, show (((n4 + 1) + 0) + 1) = n4 + 1 + trL x by omega]; exact iT_f hiT4 (fun i i0 i1 => h54 i)
                              refine z_sub [1, 2, 3, 4, 0] (ls' := [(0, .ref (A 40)), (1, .ref b), (2, z_i c), (3, z_i (r300 + 1)), (4, z_i (t + 1))]) rfl ?_
                              refine z_widen (k' := (10 + 40 * c.toNat + 4 + 10 * (t + 1).toNat)) (n' := (100 + 9000 * c.toNat + 1000 + 2600 * (t + 1).toNat)) (by omega) (by omega) ?_
                              exact ih118 (t + 1) (((n4 + 1) + 0) + 1) (sbC (sbC (sbC f4 n4 (fun _ => 45)) (n4 + 1) (fun _ => 0)) ((n4 + 1) + 0) (fun _ => (k + 97))) a317 σ5 hh317 (by omega) (by omega) hF5 hw5 (h58.trans hs84) hlt5 hb5 hsb317 hxa317 (by omega) hfb5 (Or.inr ⟨by omega, hiT5⟩)
                        · refine z_ldcS hY hSB eL_isOrdered_212 kO_81 (fun s318 hk318 => ?_)
                          refine z_goto hY eL_isOrdered_214 ?_
                          have hup319 := sbS_up (D := D) (σ := σ5) hsb4 hxb hxa4
                          refine z_callV (As := [.ref s318]) (rest := []) hY eL_isOrdered_229 (sb_appS (w := 0) (g := (fun _ => 0)) hG hSB hup319 (sbT_c hk318 (by decide) (fun i hi => absurd hi (by omega))) (by omega)) (show gH D B κ A σ5 h4 b = some (z_ob 10 _) from hup319.choose_spec.choose_spec.choose_spec.1) (by decide) (Nat.le_of_ble_eq_true rfl) (by rw [hmc, hms]; omega) (fun _ _ q => q.elim) (fun vv319 hh319 q319 => ?_)
                          obtain ⟨a319, rfl, hsb319, hor319, hfr319⟩ := q319
                          have hgh319 := gH_fr (gS_J hI) (gS_X hI) hxb hxa4 hfr319
                          have hxa319 := sbX_or (gS_J hI) (gS_X hI) hxa4 hor319
                          refine z_heq hgh319.symm ?_
                          refine z_iload hY eL_isOrdered_232 6 rfl ?_
                          refine z_const hY eL_isOrdered_234 ?_
                          refine z_icmpne hY eL_isOrdered_235 (by omega) (fun c235 => ?_) (fun c235 => ?_)
                          · refine sb_temp hY hG hSB (q := 6) rfl (by omega) (Nat.le_of_ble_eq_true rfl) (by rw [hmc, hms]; omega) (fun s9 H9 hT9 hF9 => ?_)
                            have hgq := gH_mono (gS_J hI) (gS_X hI) hF9
                            have hsq := sbS_mono (sbS_up (D := D) (σ := σ5) hsb319 hxb hxa319) hF9
                            refine z_heq hgq.symm ?_
                            have hup321 := sbS_up (D := D) (σ := σ5) hsq hxb hxa319
                            refine z_callV (As := [.ref s9]) (rest := []) hY eL_isOrdered_263 (sb_appS (w := 3) (g := (sbC (sbC (fun _ => 0) 0 (fun _ => 48 + x)) 1 (fun i => if i = 0 then 32 else 42))) hG hSB hup321 (by rw [hgq]; exact hT9) (by omega)) (show gH D B κ A σ5 H9 b = some (z_ob 10 _) from hup321.choose_spec.choose_spec.choose_spec.1) (by decide) (Nat.le_of_ble_eq_true rfl) (by rw [hmc, hms]; omega) (fun _ _ q => q.elim) (fun vv321 hh321 q321 => ?_)
                            obtain ⟨a321, rfl, hsb321, hor321, hfr321⟩ := q321
                            have hgh321 := gH_fr (gS_J hI) (gS_X hI) hxb hxa319 hfr321
                            have hxa321 := sbX_or (gS_J hI) (gS_X hI) hxa319 hor321
                            refine z_heq hgh321.symm ?_
                            refine z_const hY eL_isOrdered_266 ?_
                            refine z_iload hY eL_isOrdered_268 7 rfl ?_
                            refine z_iadd hY eL_isOrdered_270 ?_
                            refine z_top (b := k + 97) (by omega) ?_
                            refine z_i2c hY eL_isOrdered_271 (by omega) ?_
                            have hup322 := sbS_up (D := D) (σ := σ5) hsb321 hxb hxa321
                            refine z_callV (As := [z_i (k + 97)]) (rest := []) hY eL_isOrdered_272 (sb_appC (c := (k + 97)) hG hSB hup322 (by omega) (by omega)) (show gH D B κ A σ5 hh321 b = some (z_ob 10 _) from hup322.choose_spec.choose_spec.choose_spec.1) (by decide) (Nat.le_of_ble_eq_true rfl) (by rw [hmc, hms]; omega) (fun _ _ q => q.elim) (fun vv322 hh322 q322 => ?_)
                            obtain ⟨a322, rfl, hsb322, hor322, hfr322⟩ := q322
                            have hgh322 := gH_fr (gS_J hI) (gS_X hI) hxb hxa321 hfr322
                            have hxa322 := sbX_or (gS_J hI) (gS_X hI) hxa321 hor322
                            refine z_heq hgh322.symm ?_
                            refine z_pop hY eL_isOrdered_275 rfl ?_
                            refine z_iinc hY eL_isOrdered_276 4 rfl (ls' := [(4, z_i (t + 1)), (0, .ref (A 40)), (1, .ref b), (2, z_i c), (3, z_i (r300 + 1)), (5, z_i s), (6, z_i x), (7, z_i k)]) rfl ?_
                            refine z_goto hY eL_isOrdered_279 ?_
                            have h3 := sb3 (f := f4) (g1 := (fun _ => 0)) (g2 := (sbC (sbC (fun _ => 0) 0 (fun _ => 48 + x)) 1 (fun i => if i = 0 then 32 else 42))) (n := n4) (w1 := 0) (w2 := 3) (d := k + 97) (by decide) (by decide)
                            have hxw : x ≠ 1 := by omega
                            have hlt5 : ∀ i, 0 ≤ i → i < 4 * c → σ5 4 i = σ1 4 i := fun i i0 i1 => (h54 i).trans ((if_neg (by omega)).trans (h4lt i i0 i1))
                            have hb5 : ∀ i, 4 * c ≤ i → i < 4 * c + 4 → -(4 * (t + 1)) ≤ σ5 4 i ∧ σ5 4 i ≤ 4 * (t + 1) := fun i i0 i1 => by rw [h54 i]; unfold z_up; have z9 := h4b i i0 i1; split; (have z8 := h4b (4 * c + k) (by omega) (by omega); omega); omega
                            have hfb5 : ∀ i, 0 ≤ i → i < (((n4 + 0) + 3) + 1) → 1 ≤ (sbC (sbC (sbC f4 n4 (fun _ => 0)) (n4 + 0) (sbC (sbC (fun _ => 0) 0 (fun _ => 48 + x)) 1 (fun i => if i = 0 then 32 else 42))) ((n4 + 0) + 3) (fun _ => (k + 97))) i ∧ (sbC (sbC (sbC f4 n4 (fun _ => 0)) (n4 + 0) (sbC (sbC (fun _ => 0) 0 (fun _ => 48 + x)) 1 (fun i => if i = 0 then 32 else 42))) ((n4 + 0) + 3) (fun _ => (k + 97))) i ≤ 127 := sb_bd (sb_bd (sb_bd hfb4 (fun i i0 i1 => by first | omega | (show 1 ≤ (45 : Int) ∧ (45 : Int) ≤ 127; omega) | (show 1 ≤ (43 : Int) ∧ (43 : Int) ≤ 127; omega))) (fun i i0 i1 => by first | omega | (rcases (show i = 0 ∨ i = 1 ∨ i = 2 by omega) with rfl | rfl | rfl; (show 1 ≤ 48 + x ∧ 48 + x ≤ 127; omega); (show 1 ≤ (32 : Int) ∧ (32 : Int) ≤ 127; omega); (show 1 ≤ (42 : Int) ∧ (42 : Int) ≤ 127; omega)))) (fun i i0 i1 => by show 1 ≤ k + 97 ∧ k + 97 ≤ 127; omega)
                            have htr : trT (sbC (sbC (sbC f4 n4 (fun _ => 0)) (n4 + 0) (sbC (sbC (fun _ => 0) 0 (fun _ => 48 + x)) 1 (fun i => if i = 0 then 32 else 42))) ((n4 + 0) + 3) (fun _ => (k + 97))) (n4 + 0) x k := by unfold trT; rw [if_neg hxw]; exact ⟨(congrArg (sbC (sbC (sbC f4 n4 (fun _ => 0)) (n4 + 0) (sbC (sbC (fun _ => 0) 0 (fun _ => 48 + x)) 1 (fun i => if i = 0 then 32 else 42))) ((n4 + 0) + 3) (fun _ => (k + 97))) (show n4 + 0 = n4 + 0 + 0 by omega)).trans (h3.2.2.1 0 (by omega) (by omega)), h3.2.2.1 1 (by omega) (by omega), h3.2.2.1 2 (by omega) (by omega), h3.2.2.2.trans (by omega)⟩
                            have htl : trL x = 4 := by unfold trL; exact if_neg hxw
                            have hiT4 := iD_t (hiT.resolve_right (by omega)).2 (by omega) (by omega) hxx hkk (fun i i0 i1 => h3.1 i i0 i1) (trT_c htr (by omega))
                            have hiT5 : iT (sbC (sbC (sbC f4 n4 (fun _ => 0)) (n4 + 0) (sbC (sbC (fun _ => 0) 0 (fun _ => 48 + x)) 1 (fun i => if i = 0 then 32 else 42))) ((n4 + 0) + 3) (fun _ => (k + 97))) (((n4 + 0) + 3) + 1) c (t + 1) (σ5 4) (σ5 8) := by rw [h58, show (((n4 + 0) + 3) + 1) = n4 + trL x by omega, show t + 1 = 1 by omega]; exact iT_f hiT4 (fun i i0 i1 => by rw [h54 i, show s = 1 by omega])
                            refine z_sub [1, 2, 3, 4, 0] (ls' := [(0, .ref (A 40)), (1, .ref b), (2, z_i c), (3, z_i (r300 + 1)), (4, z_i (t + 1))]) rfl ?_
                            refine z_widen (k' := (10 + 40 * c.toNat + 4 + 10 * (t + 1).toNat)) (n' := (100 + 9000 * c.toNat + 1000 + 2600 * (t + 1).toNat)) (by omega) (by omega) ?_
                            exact ih118 (t + 1) (((n4 + 0) + 3) + 1) (sbC (sbC (sbC f4 n4 (fun _ => 0)) (n4 + 0) (sbC (sbC (fun _ => 0) 0 (fun _ => 48 + x)) 1 (fun i => if i = 0 then 32 else 42))) ((n4 + 0) + 3) (fun _ => (k + 97))) a322 σ5 hh322 (by omega) (by omega) hF5 hw5 (h58.trans hs84) hlt5 hb5 hsb322 hxa322 (by omega) hfb5 (Or.inr ⟨by omega, hiT5⟩)
                          · refine z_ldcS hY hSB eL_isOrdered_238 kO_81 (fun s323 hk323 => ?_)
                            refine z_goto hY eL_isOrdered_240 ?_
                            have hup324 := sbS_up (D := D) (σ := σ5) hsb319 hxb hxa319
                            refine z_callV (As := [.ref s323]) (rest := []) hY eL_isOrdered_263 (sb_appS (w := 0) (g := (fun _ => 0)) hG hSB hup324 (sbT_c hk323 (by decide) (fun i hi => absurd hi (by omega))) (by omega)) (show gH D B κ A σ5 hh319 b = some (z_ob 10 _) from hup324.choose_spec.choose_spec.choose_spec.1) (by decide) (Nat.le_of_ble_eq_true rfl) (by rw [hmc, hms]; omega) (fun _ _ q => q.elim) (fun vv324 hh324 q324 => ?_)
                            obtain ⟨a324, rfl, hsb324, hor324, hfr324⟩ := q324
                            have hgh324 := gH_fr (gS_J hI) (gS_X hI) hxb hxa319 hfr324
                            have hxa324 := sbX_or (gS_J hI) (gS_X hI) hxa319 hor324
                            refine z_heq hgh324.symm ?_
                            refine z_const hY eL_isOrdered_266 ?_
                            refine z_iload hY eL_isOrdered_268 7 rfl ?_
                            refine z_iadd hY eL_isOrdered_270 ?_
                            refine z_top (b := k + 97) (by omega) ?_
                            refine z_i2c hY eL_isOrdered_271 (by omega) ?_
                            have hup325 := sbS_up (D := D) (σ := σ5) hsb324 hxb hxa324
                            refine z_callV (As := [z_i (k + 97)]) (rest := []) hY eL_isOrdered_272 (sb_appC (c := (k + 97)) hG hSB hup325 (by omega) (by omega)) (show gH D B κ A σ5 hh324 b = some (z_ob 10 _) from hup325.choose_spec.choose_spec.choose_spec.1) (by decide) (Nat.le_of_ble_eq_true rfl) (by rw [hmc, hms]; omega) (fun _ _ q => q.elim) (fun vv325 hh325 q325 => ?_)
                            obtain ⟨a325, rfl, hsb325, hor325, hfr325⟩ := q325
                            have hgh325 := gH_fr (gS_J hI) (gS_X hI) hxb hxa324 hfr325
                            have hxa325 := sbX_or (gS_J hI) (gS_X hI) hxa324 hor325
                            refine z_heq hgh325.symm ?_
                            refine z_pop hY eL_isOrdered_275 rfl ?_
                            refine z_iinc hY eL_isOrdered_276 4 rfl (ls' := [(4, z_i (t + 1)), (0, .ref (A 40)), (1, .ref b), (2, z_i c), (3, z_i (r300 + 1)), (5, z_i s), (6, z_i x), (7, z_i k)]) rfl ?_
                            refine z_goto hY eL_isOrdered_279 ?_
                            have h3 := sb3 (f := f4) (g1 := (fun _ => 0)) (g2 := (fun _ => 0)) (n := n4) (w1 := 0) (w2 := 0) (d := k + 97) (by decide) (by decide)
                            have hxw : x = 1 := by omega
                            have hlt5 : ∀ i, 0 ≤ i → i < 4 * c → σ5 4 i = σ1 4 i := fun i i0 i1 => (h54 i).trans ((if_neg (by omega)).trans (h4lt i i0 i1))
                            have hb5 : ∀ i, 4 * c ≤ i → i < 4 * c + 4 → -(4 * (t + 1)) ≤ σ5 4 i ∧ σ5 4 i ≤ 4 * (t + 1) := fun i i0 i1 => by rw [h54 i]; unfold z_up; have z9 := h4b i i0 i1; split; (have z8 := h4b (4 * c + k) (by omega) (by omega); omega); omega
                            have hfb5 : ∀ i, 0 ≤ i → i < (((n4 + 0) + 0) + 1) → 1 ≤ (sbC (sbC (sbC f4 n4 (fun _ => 0)) (n4 + 0) (fun _ => 0)) ((n4 + 0) + 0) (fun _ => (k + 97))) i ∧ (sbC (sbC (sbC f4 n4 (fun _ => 0)) (n4 + 0) (fun _ => 0)) ((n4 + 0) + 0) (fun _ => (k + 97))) i ≤ 127 := sb_bd (sb_bd (sb_bd hfb4 (fun i i0 i1 => by first | omega | (show 1 ≤ (45 : Int) ∧ (45 : Int) ≤ 127; omega) | (show 1 ≤ (43 : Int) ∧ (43 : Int) ≤ 127; omega))) (fun i i0 i1 => by first | omega | (rcases (show i = 0 ∨ i = 1 ∨ i = 2 by omega) with rfl | rfl | rfl; (show 1 ≤ 48 + x ∧ 48 + x ≤ 127; omega); (show 1 ≤ (32 : Int) ∧ (32 : Int) ≤ 127; omega); (show 1 ≤ (42 : Int) ∧ (42 : Int) ≤ 127; omega)))) (fun i i0 i1 => by show 1 ≤ k + 97 ∧ k + 97 ≤ 127; omega)
                            have htr : trT (sbC (sbC (sbC f4 n4 (fun _ => 0)) (n4 + 0) (fun _ => 0)) ((n4 + 0) + 0) (fun _ => (k + 97))) (n4 + 0) x k := by unfold trT; rw [if_pos hxw]; exact (congrArg (sbC (sbC (sbC f4 n4 (fun _ => 0)) (n4 + 0) (fun _ => 0)) ((n4 + 0) + 0) (fun _ => (k + 97))) (show n4 + 0 = n4 + 0 + 0 by omega)).trans (h3.2.2.2.trans (by omega))
                            have htl : trL x = 1 := by unfold trL; exact if_pos hxw
                            have hiT4 := iD_t (hiT.resolve_right (by omega)).2 (by omega) (by omega) hxx hkk (fun i i0 i1 => h3.1 i i0 i1) (trT_c htr (by omega))
                            have hiT5 : iT (sbC (sbC (sbC f4 n4 (fun _ => 0)) (n4 + 0) (fun _ => 0)) ((n4 + 0) + 0) (fun _ => (k + 97))) (((n4 + 0) + 0) + 1) c (t + 1) (σ5 4) (σ5 8) := by rw [h58, show (((n4 + 0) + 0) + 1) = n4 + trL x by omega, show t + 1 = 1 by omega]; exact iT_f hiT4 (fun i i0 i1 => by rw [h54 i, show s = 1 by omega])
                            refine z_sub [1, 2, 3, 4, 0] (ls' := [(0, .ref (A 40)), (1, .ref b), (2, z_i c), (3, z_i (r300 + 1)), (4, z_i (t + 1))]) rfl ?_
                            refine z_widen (k' := (10 + 40 * c.toNat + 4 + 10 * (t + 1).toNat)) (n' := (100 + 9000 * c.toNat + 1000 + 2600 * (t + 1).toNat)) (by omega) (by omega) ?_
                            exact ih118 (t + 1) (((n4 + 0) + 0) + 1) (sbC (sbC (sbC f4 n4 (fun _ => 0)) (n4 + 0) (fun _ => 0)) ((n4 + 0) + 0) (fun _ => (k + 97))) a325 σ5 hh325 (by omega) (by omega) hF5 hw5 (h58.trans hs84) hlt5 hb5 hsb325 hxa325 (by omega) hfb5 (Or.inr ⟨by omega, hiT5⟩)
                      refine z_iload hY eL_isOrdered_118 4 rfl ?_
                      refine z_iload hY eL_isOrdered_120 3 rfl ?_
                      refine z_icmpge hY eL_isOrdered_121 (by omega) (fun c121 => ?_) (fun c121 => ?_)
                      · refine z_iinc hY eL_isOrdered_282 2 rfl (ls' := [(2, z_i (c + 1)), (0, .ref (A 40)), (1, .ref b), (3, z_i (r300 + 1)), (4, z_i t)]) rfl ?_
                        refine z_goto hY eL_isOrdered_285 ?_
                        have hiE := iT_e (hiT.resolve_left (by omega)).2 (by omega) (by omega)
                        refine z_sub [1, 2, 0] (ls' := [(0, .ref (A 40)), (1, .ref b), (2, z_i (c + 1))]) rfl ?_
                        refine z_widen (k' := (10 + 40 * (c + 1).toNat)) (n' := (100 + 9000 * (c + 1).toNat)) (by omega) (by omega) ?_
                        exact ih21 (c + 1) n4 f4 a4 σ4 h4 (by omega) (by omega) (fun k k0 k1 k2 k3 k4 => hF4 k k0 k1 k2 k3 k4) hw4 hsb4 hxa4 (by omega) hfb4 hiE
                      · refine z_iload hY eL_isOrdered_124 4 rfl ?_
                        refine z_ifle hY eL_isOrdered_126 (by omega) (fun c126 => ?_) (fun c126 => ?_)
                        · refine z_const hY eL_isOrdered_141 ?_
                          refine z_istore hY eL_isOrdered_142 (ls' := [(5, z_i 1), (0, .ref (A 40)), (1, .ref b), (2, z_i c), (3, z_i (r300 + 1)), (4, z_i t)]) rfl ?_
                          refine z_aload hY eL_isOrdered_144 1 rfl ?_
                          refine z_const hY eL_isOrdered_145 ?_
                          refine z_callV (As := [z_i 2]) (rest := []) hY eL_isOrdered_146 (la_next (B := B) (κ := κ) (σ := σ4) hG (gS_X hI) (n := 2) (by omega)) ((gH_at (gS_X hI) (by decide)).trans (congrArg some lC_40)) (by decide) (Nat.le_of_ble_eq_true rfl) (by rw [hmc, hms]; omega) (fun _ _ q => q.elim) (fun vv327 hh327 q327 => ?_)
                          obtain ⟨r326, X326, rfl, hr326, hX326, rfl⟩ := q327
                          refine z_ifne hY eL_isOrdered_149 (by omega) (fun c149 => ?_) (fun c149 => ?_)
                          · refine z_aload hY eL_isOrdered_156 1 rfl ?_
                            refine z_const hY eL_isOrdered_157 ?_
                            refine z_callV (As := [z_i 5]) (rest := []) hY eL_isOrdered_158 (la_next (B := B) (κ := κ) (σ := (z_u σ4 0 0 X326)) hG (gS_X hI) (n := 5) (by omega)) ((gH_at (gS_X hI) (by decide)).trans (congrArg some lC_40)) (by decide) (Nat.le_of_ble_eq_true rfl) (by rw [hmc, hms]; omega) (fun _ _ q => q.elim) (fun vv329 hh329 q329 => ?_)
                            obtain ⟨r328, X328, rfl, hr328, hX328, rfl⟩ := q329
                            refine z_istore hY eL_isOrdered_161 (ls' := [(6, z_i r328), (5, z_i 1), (0, .ref (A 40)), (1, .ref b), (2, z_i c), (3, z_i (r300 + 1)), (4, z_i t)]) rfl ?_
                            refine z_iload hY eL_isOrdered_163 4 rfl ?_
                            refine z_ifne hY eL_isOrdered_164 (by omega) (fun c164 => ?_) (fun c164 => ?_)
                            · refine z_aload hY eL_isOrdered_180 2 rfl ?_
                              refine z_const hY eL_isOrdered_181 ?_
                              refine z_callV (As := [z_i 4]) (rest := []) hY eL_isOrdered_182 (la_next (B := B) (κ := κ) (σ := (z_u (z_u σ4 0 0 X326) 0 0 X328)) hG (gS_X hI) (n := 4) (by omega)) ((gH_at (gS_X hI) (by decide)).trans (congrArg some lC_40)) (by decide) (Nat.le_of_ble_eq_true rfl) (by rw [hmc, hms]; omega) (fun _ _ q => q.elim) (fun vv331 hh331 q331 => ?_)
                              obtain ⟨r330, X330, rfl, hr330, hX330, rfl⟩ := q331
                              refine z_istore hY eL_isOrdered_185 (ls' := [(7, z_i r330), (6, z_i r328), (5, z_i 1), (0, .ref (A 40)), (1, .ref b), (2, z_i c), (3, z_i (r300 + 1)), (4, z_i t)]) rfl ?_
                              refine z_aload hY eL_isOrdered_187 3 rfl ?_
                              refine g_gf hY (gS_X hI) eL_isOrdered_188 (v := .ref (A 4)) rfl ?_
                              refine z_const hY eL_isOrdered_191 ?_
                              refine z_iload hY eL_isOrdered_192 5 rfl ?_
                              refine z_imul hY eL_isOrdered_193 ?_
                              refine z_iload hY eL_isOrdered_194 0 rfl ?_
                              refine z_iadd hY eL_isOrdered_196 ?_
                              refine z_dup2 hY eL_isOrdered_197 rfl rfl ?_
                              have hb332 := hw4.s4 (4 * c + r330)
                              refine g_ial hY (gS_X hI) eL_isOrdered_198 (j := 4) (N := 16) (x := σ4 4 (4 * c + r330)) (by decide) rfl (by omega) (Eq.trans (congrFun (z_u_ne (by decide)) _) (Eq.trans (congrFun (z_u_ne (by decide)) _) (congrFun (z_u_ne (by decide)) _))) ?_
                              refine z_iload hY eL_isOrdered_199 2 rfl ?_
                              refine z_iload hY eL_isOrdered_201 1 rfl ?_
                              refine z_imul hY eL_isOrdered_203 ?_
                              refine z_top (b := r328) (by omega) ?_
                              refine z_iadd hY eL_isOrdered_204 ?_
                              refine g_ias hY (gS_X hI) eL_isOrdered_205 (j := 4) (N := 16) (by decide) (fun _ => rfl) (by omega) ?_
                              refine z_sub [3, 4, 5, 6, 7, 2, 1, 0] (ls' := [(0, .ref (A 40)), (1, .ref b), (2, z_i c), (3, z_i (r300 + 1)), (4, z_i t), (5, z_i 1), (6, z_i r328), (7, z_i r330)]) rfl ?_
                              have hq4 := h4b (4 * c + r330) (by omega) (by omega)
                              exact rest206 1 r328 r330 (z_u (z_u (z_u (z_u σ4 0 0 X326) 0 0 X328) 0 0 X330) 4 (4 * c + r330) ((σ4 4 (4 * c + r330)) + r328)) (by omega) (by omega) (by omega) (fun k k0 k1 k2 k3 k4 => (z_u_ne (by omega)).trans ((z_u_ne (by omega)).trans ((z_u_ne (by omega)).trans ((z_u_ne (by omega)).trans (hF4 k k0 k1 k2 k3 k4))))) (wB_u (wB_u (wB_u (wB_u hw4 (by show (-2147483648 : Int) ≤ _ ∧ _ ≤ (2147483647 : Int); omega)) (by show (-2147483648 : Int) ≤ _ ∧ _ ≤ (2147483647 : Int); omega)) (by show (-2147483648 : Int) ≤ _ ∧ _ ≤ (2147483647 : Int); omega)) (by show (-3996 : Int) ≤ _ ∧ _ ≤ (3996 : Int); omega)) rfl (fun i => by show z_u σ4 4 (4 * c + r330) ((σ4 4 (4 * c + r330)) + r328) 4 i = _; unfold z_up; by_cases c9 : i = 4 * c + r330; (rw [c9, if_pos rfl]; exact (congrArg (fun q => z_u σ4 4 q ((σ4 4 (4 * c + r330)) + r328) 4 (4 * c + r330)) (by omega)).trans (z_u_at.trans (by omega))); (rw [if_neg c9]; exact z_u_at' (by omega))) (by omega)
                            · refine z_iload hY eL_isOrdered_167 6 rfl ?_
                              refine z_ifne hY eL_isOrdered_169 (by omega) (fun c169 => ?_) (fun c169 => ?_)
                              · refine z_aload hY eL_isOrdered_180 2 rfl ?_
                                refine z_const hY eL_isOrdered_181 ?_
                                refine z_callV (As := [z_i 4]) (rest := []) hY eL_isOrdered_182 (la_next (B := B) (κ := κ) (σ := (z_u (z_u σ4 0 0 X326) 0 0 X328)) hG (gS_X hI) (n := 4) (by omega)) ((gH_at (gS_X hI) (by decide)).trans (congrArg some lC_40)) (by decide) (Nat.le_of_ble_eq_true rfl) (by rw [hmc, hms]; omega) (fun _ _ q => q.elim) (fun vv334 hh334 q334 => ?_)
                                obtain ⟨r333, X333, rfl, hr333, hX333, rfl⟩ := q334
                                refine z_istore hY eL_isOrdered_185 (ls' := [(7, z_i r333), (6, z_i r328), (5, z_i 1), (0, .ref (A 40)), (1, .ref b), (2, z_i c), (3, z_i (r300 + 1)), (4, z_i t)]) rfl ?_
                                refine z_aload hY eL_isOrdered_187 3 rfl ?_
                                refine g_gf hY (gS_X hI) eL_isOrdered_188 (v := .ref (A 4)) rfl ?_
                                refine z_const hY eL_isOrdered_191 ?_
                                refine z_iload hY eL_isOrdered_192 5 rfl ?_
                                refine z_imul hY eL_isOrdered_193 ?_
                                refine z_iload hY eL_isOrdered_194 0 rfl ?_
                                refine z_iadd hY eL_isOrdered_196 ?_
                                refine z_dup2 hY eL_isOrdered_197 rfl rfl ?_
                                have hb335 := hw4.s4 (4 * c + r333)
                                refine g_ial hY (gS_X hI) eL_isOrdered_198 (j := 4) (N := 16) (x := σ4 4 (4 * c + r333)) (by decide) rfl (by omega) (Eq.trans (congrFun (z_u_ne (by decide)) _) (Eq.trans (congrFun (z_u_ne (by decide)) _) (congrFun (z_u_ne (by decide)) _))) ?_
                                refine z_iload hY eL_isOrdered_199 2 rfl ?_
                                refine z_iload hY eL_isOrdered_201 1 rfl ?_
                                refine z_imul hY eL_isOrdered_203 ?_
                                refine z_top (b := r328) (by omega) ?_
                                refine z_iadd hY eL_isOrdered_204 ?_
                                refine g_ias hY (gS_X hI) eL_isOrdered_205 (j := 4) (N := 16) (by decide) (fun _ => rfl) (by omega) ?_
                                refine z_sub [3, 4, 5, 6, 7, 2, 1, 0] (ls' := [(0, .ref (A 40)), (1, .ref b), (2, z_i c), (3, z_i (r300 + 1)), (4, z_i t), (5, z_i 1), (6, z_i r328), (7, z_i r333)]) rfl ?_
                                have hq4 := h4b (4 * c + r333) (by omega) (by omega)
                                exact rest206 1 r328 r333 (z_u (z_u (z_u (z_u σ4 0 0 X326) 0 0 X328) 0 0 X333) 4 (4 * c + r333) ((σ4 4 (4 * c + r333)) + r328)) (by omega) (by omega) (by omega) (fun k k0 k1 k2 k3 k4 => (z_u_ne (by omega)).trans ((z_u_ne (by omega)).trans ((z_u_ne (by omega)).trans ((z_u_ne (by omega)).trans (hF4 k k0 k1 k2 k3 k4))))) (wB_u (wB_u (wB_u (wB_u hw4 (by show (-2147483648 : Int) ≤ _ ∧ _ ≤ (2147483647 : Int); omega)) (by show (-2147483648 : Int) ≤ _ ∧ _ ≤ (2147483647 : Int); omega)) (by show (-2147483648 : Int) ≤ _ ∧ _ ≤ (2147483647 : Int); omega)) (by show (-3996 : Int) ≤ _ ∧ _ ≤ (3996 : Int); omega)) rfl (fun i => by show z_u σ4 4 (4 * c + r333) ((σ4 4 (4 * c + r333)) + r328) 4 i = _; unfold z_up; by_cases c9 : i = 4 * c + r333; (rw [c9, if_pos rfl]; exact (congrArg (fun q => z_u σ4 4 q ((σ4 4 (4 * c + r333)) + r328) 4 (4 * c + r333)) (by omega)).trans (z_u_at.trans (by omega))); (rw [if_neg c9]; exact z_u_at' (by omega))) (by omega)
                              · refine z_aload hY eL_isOrdered_172 2 rfl ?_
                                refine z_const hY eL_isOrdered_173 ?_
                                refine z_callV (As := [z_i 2]) (rest := []) hY eL_isOrdered_174 (la_next (B := B) (κ := κ) (σ := (z_u (z_u σ4 0 0 X326) 0 0 X328)) hG (gS_X hI) (n := 2) (by omega)) ((gH_at (gS_X hI) (by decide)).trans (congrArg some lC_40)) (by decide) (Nat.le_of_ble_eq_true rfl) (by rw [hmc, hms]; omega) (fun _ _ q => q.elim) (fun vv337 hh337 q337 => ?_)
                                obtain ⟨r336, X336, rfl, hr336, hX336, rfl⟩ := q337
                                refine z_goto hY eL_isOrdered_177 ?_
                                refine z_istore hY eL_isOrdered_185 (ls' := [(7, z_i r336), (6, z_i r328), (5, z_i 1), (0, .ref (A 40)), (1, .ref b), (2, z_i c), (3, z_i (r300 + 1)), (4, z_i t)]) rfl ?_
                                refine z_aload hY eL_isOrdered_187 3 rfl ?_
                                refine g_gf hY (gS_X hI) eL_isOrdered_188 (v := .ref (A 4)) rfl ?_
                                refine z_const hY eL_isOrdered_191 ?_
                                refine z_iload hY eL_isOrdered_192 5 rfl ?_
                                refine z_imul hY eL_isOrdered_193 ?_
                                refine z_iload hY eL_isOrdered_194 0 rfl ?_
                                refine z_iadd hY eL_isOrdered_196 ?_
                                refine z_dup2 hY eL_isOrdered_197 rfl rfl ?_
                                have hb338 := hw4.s4 (4 * c + r336)
                                refine g_ial hY (gS_X hI) eL_isOrdered_198 (j := 4) (N := 16) (x := σ4 4 (4 * c + r336)) (by decide) rfl (by omega) (Eq.trans (congrFun (z_u_ne (by decide)) _) (Eq.trans (congrFun (z_u_ne (by decide)) _) (congrFun (z_u_ne (by decide)) _))) ?_
                                refine z_iload hY eL_isOrdered_199 2 rfl ?_
                                refine z_iload hY eL_isOrdered_201 1 rfl ?_
                                refine z_imul hY eL_isOrdered_203 ?_
                                refine z_top (b := r328) (by omega) ?_
                                refine z_iadd hY eL_isOrdered_204 ?_
                                refine g_ias hY (gS_X hI) eL_isOrdered_205 (j := 4) (N := 16) (by decide) (fun _ => rfl) (by omega) ?_
                                refine z_sub [3, 4, 5, 6, 7, 2, 1, 0] (ls' := [(0, .ref (A 40)), (1, .ref b), (2, z_i c), (3, z_i (r300 + 1)), (4, z_i t), (5, z_i 1), (6, z_i r328), (7, z_i r336)]) rfl ?_
                                have hq4 := h4b (4 * c + r336) (by omega) (by omega)
                                exact rest206 1 r328 r336 (z_u (z_u (z_u (z_u σ4 0 0 X326) 0 0 X328) 0 0 X336) 4 (4 * c + r336) ((σ4 4 (4 * c + r336)) + r328)) (by omega) (by omega) (by omega) (fun k k0 k1 k2 k3 k4 => (z_u_ne (by omega)).trans ((z_u_ne (by omega)).trans ((z_u_ne (by omega)).trans ((z_u_ne (by omega)).trans (hF4 k k0 k1 k2 k3 k4))))) (wB_u (wB_u (wB_u (wB_u hw4 (by show (-2147483648 : Int) ≤ _ ∧ _ ≤ (2147483647 : Int); omega)) (by show (-2147483648 : Int) ≤ _ ∧ _ ≤ (2147483647 : Int); omega)) (by show (-2147483648 : Int) ≤ _ ∧ _ ≤ (2147483647 : Int); omega)) (by show (-3996 : Int) ≤ _ ∧ _ ≤ (3996 : Int); omega)) rfl (fun i => by show z_u σ4 4 (4 * c + r336) ((σ4 4 (4 * c + r336)) + r328) 4 i = _; unfold z_up; by_cases c9 : i = 4 * c + r336; (rw [c9, if_pos rfl]; exact (congrArg (fun q => z_u σ4 4 q ((σ4 4 (4 * c + r336)) + r328) 4 (4 * c + r336)) (by omega)).trans (z_u_at.trans (by omega))); (rw [if_neg c9]; exact z_u_at' (by omega))) (by omega)
                          · refine z_const hY eL_isOrdered_152 ?_
                            refine z_goto hY eL_isOrdered_153 ?_
                            refine z_istore hY eL_isOrdered_161 (ls' := [(6, z_i 1), (5, z_i 1), (0, .ref (A 40)), (1, .ref b), (2, z_i c), (3, z_i (r300 + 1)), (4, z_i t)]) rfl ?_
                            refine z_iload hY eL_isOrdered_163 4 rfl ?_
                            refine z_ifne hY eL_isOrdered_164 (by omega) (fun c164 => ?_) (fun c164 => ?_)
                            · refine z_aload hY eL_isOrdered_180 2 rfl ?_
                              refine z_const hY eL_isOrdered_181 ?_
                              refine z_callV (As := [z_i 4]) (rest := []) hY eL_isOrdered_182 (la_next (B := B) (κ := κ) (σ := (z_u σ4 0 0 X326)) hG (gS_X hI) (n := 4) (by omega)) ((gH_at (gS_X hI) (by decide)).trans (congrArg some lC_40)) (by decide) (Nat.le_of_ble_eq_true rfl) (by rw [hmc, hms]; omega) (fun _ _ q => q.elim) (fun vv340 hh340 q340 => ?_)
                              obtain ⟨r339, X339, rfl, hr339, hX339, rfl⟩ := q340
                              refine z_istore hY eL_isOrdered_185 (ls' := [(7, z_i r339), (6, z_i 1), (5, z_i 1), (0, .ref (A 40)), (1, .ref b), (2, z_i c), (3, z_i (r300 + 1)), (4, z_i t)]) rfl ?_
                              refine z_aload hY eL_isOrdered_187 3 rfl ?_
                              refine g_gf hY (gS_X hI) eL_isOrdered_188 (v := .ref (A 4)) rfl ?_
                              refine z_const hY eL_isOrdered_191 ?_
                              refine z_iload hY eL_isOrdered_192 5 rfl ?_
                              refine z_imul hY eL_isOrdered_193 ?_
                              refine z_iload hY eL_isOrdered_194 0 rfl ?_
                              refine z_iadd hY eL_isOrdered_196 ?_
                              refine z_dup2 hY eL_isOrdered_197 rfl rfl ?_
                              have hb341 := hw4.s4 (4 * c + r339)
                              refine g_ial hY (gS_X hI) eL_isOrdered_198 (j := 4) (N := 16) (x := σ4 4 (4 * c + r339)) (by decide) rfl (by omega) (Eq.trans (congrFun (z_u_ne (by decide)) _) (congrFun (z_u_ne (by decide)) _)) ?_
                              refine z_iload hY eL_isOrdered_199 2 rfl ?_
                              refine z_iload hY eL_isOrdered_201 1 rfl ?_
                              refine z_imul hY eL_isOrdered_203 ?_
                              refine z_top (b := 1) (by omega) ?_
                              refine z_iadd hY eL_isOrdered_204 ?_
                              refine g_ias hY (gS_X hI) eL_isOrdered_205 (j := 4) (N := 16) (by decide) (fun _ => rfl) (by omega) ?_
                              refine z_sub [3, 4, 5, 6, 7, 2, 1, 0] (ls' := [(0, .ref (A 40)), (1, .ref b), (2, z_i c), (3, z_i (r300 + 1)), (4, z_i t), (5, z_i 1), (6, z_i 1), (7, z_i r339)]) rfl ?_
                              have hq4 := h4b (4 * c + r339) (by omega) (by omega)
                              exact rest206 1 1 r339 (z_u (z_u (z_u σ4 0 0 X326) 0 0 X339) 4 (4 * c + r339) ((σ4 4 (4 * c + r339)) + 1)) (by omega) (by omega) (by omega) (fun k k0 k1 k2 k3 k4 => (z_u_ne (by omega)).trans ((z_u_ne (by omega)).trans ((z_u_ne (by omega)).trans (hF4 k k0 k1 k2 k3 k4)))) (wB_u (wB_u (wB_u hw4 (by show (-2147483648 : Int) ≤ _ ∧ _ ≤ (2147483647 : Int); omega)) (by show (-2147483648 : Int) ≤ _ ∧ _ ≤ (2147483647 : Int); omega)) (by show (-3996 : Int) ≤ _ ∧ _ ≤ (3996 : Int); omega)) rfl (fun i => by show z_u σ4 4 (4 * c + r339) ((σ4 4 (4 * c + r339)) + 1) 4 i = _; unfold z_up; by_cases c9 : i = 4 * c + r339; (rw [c9, if_pos rfl]; exact (congrArg (fun q => z_u σ4 4 q ((σ4 4 (4 * c + r339)) + 1) 4 (4 * c + r339)) (by omega)).trans (z_u_at.trans (by omega))); (rw [if_neg c9]; exact z_u_at' (by omega))) (by omega)
                            · refine z_iload hY eL_isOrdered_167 6 rfl ?_
                              refine z_ifne hY eL_isOrdered_169 (by omega) (fun c169 => ?_) (fun c169 => ?_)
                              · refine z_aload hY eL_isOrdered_180 2 rfl ?_
                                refine z_const hY eL_isOrdered_181 ?_
                                refine z_callV (As := [z_i 4]) (rest := []) hY eL_isOrdered_182 (la_next (B := B) (κ := κ) (σ := (z_u σ4 0 0 X326)) hG (gS_X hI) (n := 4) (by omega)) ((gH_at (gS_X hI) (by decide)).trans (congrArg some lC_40)) (by decide) (Nat.le_of_ble_eq_true rfl) (by rw [hmc, hms]; omega) (fun _ _ q => q.elim) (fun vv343 hh343 q343 => ?_)
                                obtain ⟨r342, X342, rfl, hr342, hX342, rfl⟩ := q343
                                refine z_istore hY eL_isOrdered_185 (ls' := [(7, z_i r342), (6, z_i 1), (5, z_i 1), (0, .ref (A 40)), (1, .ref b), (2, z_i c), (3, z_i (r300 + 1)), (4, z_i t)]) rfl ?_
                                refine z_aload hY eL_isOrdered_187 3 rfl ?_
                                refine g_gf hY (gS_X hI) eL_isOrdered_188 (v := .ref (A 4)) rfl ?_
                                refine z_const hY eL_isOrdered_191 ?_
                                refine z_iload hY eL_isOrdered_192 5 rfl ?_
                                refine z_imul hY eL_isOrdered_193 ?_
                                refine z_iload hY eL_isOrdered_194 0 rfl ?_
                                refine z_iadd hY eL_isOrdered_196 ?_
                                refine z_dup2 hY eL_isOrdered_197 rfl rfl ?_
                                have hb344 := hw4.s4 (4 * c + r342)
                                refine g_ial hY (gS_X hI) eL_isOrdered_198 (j := 4) (N := 16) (x := σ4 4 (4 * c + r342)) (by decide) rfl (by omega) (Eq.trans (congrFun (z_u_ne (by decide)) _) (congrFun (z_u_ne (by decide)) _)) ?_
                                refine z_iload hY eL_isOrdered_199 2 rfl ?_
                                refine z_iload hY eL_isOrdered_201 1 rfl ?_
                                refine z_imul hY eL_isOrdered_203 ?_
                                refine z_top (b := 1) (by omega) ?_
                                refine z_iadd hY eL_isOrdered_204 ?_
                                refine g_ias hY (gS_X hI) eL_isOrdered_205 (j := 4) (N := 16) (by decide) (fun _ => rfl) (by omega) ?_
                                refine z_sub [3, 4, 5, 6, 7, 2, 1, 0] (ls' := [(0, .ref (A 40)), (1, .ref b), (2, z_i c), (3, z_i (r300 + 1)), (4, z_i t), (5, z_i 1), (6, z_i 1), (7, z_i r342)]) rfl ?_
                                have hq4 := h4b (4 * c + r342) (by omega) (by omega)
                                exact rest206 1 1 r342 (z_u (z_u (z_u σ4 0 0 X326) 0 0 X342) 4 (4 * c + r342) ((σ4 4 (4 * c + r342)) + 1)) (by omega) (by omega) (by omega) (fun k k0 k1 k2 k3 k4 => (z_u_ne (by omega)).trans ((z_u_ne (by omega)).trans ((z_u_ne (by omega)).trans (hF4 k k0 k1 k2 k3 k4)))) (wB_u (wB_u (wB_u hw4 (by show (-2147483648 : Int) ≤ _ ∧ _ ≤ (2147483647 : Int); omega)) (by show (-2147483648 : Int) ≤ _ ∧ _ ≤ (2147483647 : Int); omega)) (by show (-3996 : Int) ≤ _ ∧ _ ≤ (3996 : Int); omega)) rfl (fun i => by show z_u σ4 4 (4 * c + r342) ((σ4 4 (4 * c + r342)) + 1) 4 i = _; unfold z_up; by_cases c9 : i = 4 * c + r342; (rw [c9, if_pos rfl]; exact (congrArg (fun q => z_u σ4 4 q ((σ4 4 (4 * c + r342)) + 1) 4 (4 * c + r342)) (by omega)).trans (z_u_at.trans (by omega))); (rw [if_neg c9]; exact z_u_at' (by omega))) (by omega)
                              · refine z_aload hY eL_isOrdered_172 2 rfl ?_
                                refine z_const hY eL_isOrdered_173 ?_
                                refine z_callV (As := [z_i 2]) (rest := []) hY eL_isOrdered_174 (la_next (B := B) (κ := κ) (σ := (z_u σ4 0 0 X326)) hG (gS_X hI) (n := 2) (by omega)) ((gH_at (gS_X hI) (by decide)).trans (congrArg some lC_40)) (by decide) (Nat.le_of_ble_eq_true rfl) (by rw [hmc, hms]; omega) (fun _ _ q => q.elim) (fun vv346 hh346 q346 => ?_)
                                obtain ⟨r345, X345, rfl, hr345, hX345, rfl⟩ := q346
                                refine z_goto hY eL_isOrdered_177 ?_
                                refine z_istore hY eL_isOrdered_185 (ls' := [(7, z_i r345), (6, z_i 1), (5, z_i 1), (0, .ref (A 40)), (1, .ref b), (2, z_i c), (3, z_i (r300 + 1)), (4, z_i t)]) rfl ?_
                                refine z_aload hY eL_isOrdered_187 3 rfl ?_
                                refine g_gf hY (gS_X hI) eL_isOrdered_188 (v := .ref (A 4)) rfl ?_
                                refine z_const hY eL_isOrdered_191 ?_
                                refine z_iload hY eL_isOrdered_192 5 rfl ?_
                                refine z_imul hY eL_isOrdered_193 ?_
                                refine z_iload hY eL_isOrdered_194 0 rfl ?_
                                refine z_iadd hY eL_isOrdered_196 ?_
                                refine z_dup2 hY eL_isOrdered_197 rfl rfl ?_
                                have hb347 := hw4.s4 (4 * c + r345)
                                refine g_ial hY (gS_X hI) eL_isOrdered_198 (j := 4) (N := 16) (x := σ4 4 (4 * c + r345)) (by decide) rfl (by omega) (Eq.trans (congrFun (z_u_ne (by decide)) _) (congrFun (z_u_ne (by decide)) _)) ?_
                                refine z_iload hY eL_isOrdered_199 2 rfl ?_
                                refine z_iload hY eL_isOrdered_201 1 rfl ?_
                                refine z_imul hY eL_isOrdered_203 ?_
                                refine z_top (b := 1) (by omega) ?_
                                refine z_iadd hY eL_isOrdered_204 ?_
                                refine g_ias hY (gS_X hI) eL_isOrdered_205 (j := 4) (N := 16) (by decide) (fun _ => rfl) (by omega) ?_
                                refine z_sub [3, 4, 5, 6, 7, 2, 1, 0] (ls' := [(0, .ref (A 40)), (1, .ref b), (2, z_i c), (3, z_i (r300 + 1)), (4, z_i t), (5, z_i 1), (6, z_i 1), (7, z_i r345)]) rfl ?_
                                have hq4 := h4b (4 * c + r345) (by omega) (by omega)
                                exact rest206 1 1 r345 (z_u (z_u (z_u σ4 0 0 X326) 0 0 X345) 4 (4 * c + r345) ((σ4 4 (4 * c + r345)) + 1)) (by omega) (by omega) (by omega) (fun k k0 k1 k2 k3 k4 => (z_u_ne (by omega)).trans ((z_u_ne (by omega)).trans ((z_u_ne (by omega)).trans (hF4 k k0 k1 k2 k3 k4)))) (wB_u (wB_u (wB_u hw4 (by show (-2147483648 : Int) ≤ _ ∧ _ ≤ (2147483647 : Int); omega)) (by show (-2147483648 : Int) ≤ _ ∧ _ ≤ (2147483647 : Int); omega)) (by show (-3996 : Int) ≤ _ ∧ _ ≤ (3996 : Int); omega)) rfl (fun i => by show z_u σ4 4 (4 * c + r345) ((σ4 4 (4 * c + r345)) + 1) 4 i = _; unfold z_up; by_cases c9 : i = 4 * c + r345; (rw [c9, if_pos rfl]; exact (congrArg (fun q => z_u σ4 4 q ((σ4 4 (4 * c + r345)) + 1) 4 (4 * c + r345)) (by omega)).trans (z_u_at.trans (by omega))); (rw [if_neg c9]; exact z_u_at' (by omega))) (by omega)
                        · refine z_aload hY eL_isOrdered_129 0 rfl ?_
                          refine z_const hY eL_isOrdered_130 ?_
                          refine z_callV (As := [z_i 2]) (rest := []) hY eL_isOrdered_131 (la_next (B := B) (κ := κ) (σ := σ4) hG (gS_X hI) (n := 2) (by omega)) ((gH_at (gS_X hI) (by decide)).trans (congrArg some lC_40)) (by decide) (Nat.le_of_ble_eq_true rfl) (by rw [hmc, hms]; omega) (fun _ _ q => q.elim) (fun vv349 hh349 q349 => ?_)
                          obtain ⟨r348, X348, rfl, hr348, hX348, rfl⟩ := q349
                          refine z_ifne hY eL_isOrdered_134 (by omega) (fun c134 => ?_) (fun c134 => ?_)
                          · refine z_const hY eL_isOrdered_141 ?_
                            refine z_istore hY eL_isOrdered_142 (ls' := [(5, z_i 1), (0, .ref (A 40)), (1, .ref b), (2, z_i c), (3, z_i (r300 + 1)), (4, z_i t)]) rfl ?_
                            refine z_aload hY eL_isOrdered_144 1 rfl ?_
                            refine z_const hY eL_isOrdered_145 ?_
                            refine z_callV (As := [z_i 2]) (rest := []) hY eL_isOrdered_146 (la_next (B := B) (κ := κ) (σ := (z_u σ4 0 0 X348)) hG (gS_X hI) (n := 2) (by omega)) ((gH_at (gS_X hI) (by decide)).trans (congrArg some lC_40)) (by decide) (Nat.le_of_ble_eq_true rfl) (by rw [hmc, hms]; omega) (fun _ _ q => q.elim) (fun vv351 hh351 q351 => ?_)
                            obtain ⟨r350, X350, rfl, hr350, hX350, rfl⟩ := q351
                            refine z_ifne hY eL_isOrdered_149 (by omega) (fun c149 => ?_) (fun c149 => ?_)
                            · refine z_aload hY eL_isOrdered_156 1 rfl ?_
                              refine z_const hY eL_isOrdered_157 ?_
                              refine z_callV (As := [z_i 5]) (rest := []) hY eL_isOrdered_158 (la_next (B := B) (κ := κ) (σ := (z_u (z_u σ4 0 0 X348) 0 0 X350)) hG (gS_X hI) (n := 5) (by omega)) ((gH_at (gS_X hI) (by decide)).trans (congrArg some lC_40)) (by decide) (Nat.le_of_ble_eq_true rfl) (by rw [hmc, hms]; omega) (fun _ _ q => q.elim) (fun vv353 hh353 q353 => ?_)
                              obtain ⟨r352, X352, rfl, hr352, hX352, rfl⟩ := q353
                              refine z_istore hY eL_isOrdered_161 (ls' := [(6, z_i r352), (5, z_i 1), (0, .ref (A 40)), (1, .ref b), (2, z_i c), (3, z_i (r300 + 1)), (4, z_i t)]) rfl ?_
                              refine z_iload hY eL_isOrdered_163 4 rfl ?_
                              refine z_ifne hY eL_isOrdered_164 (by omega) (fun c164 => ?_) (fun c164 => ?_)
                              · refine z_aload hY eL_isOrdered_180 2 rfl ?_
                                refine z_const hY eL_isOrdered_181 ?_
                                refine z_callV (As := [z_i 4]) (rest := []) hY eL_isOrdered_182 (la_next (B := B) (κ := κ) (σ := (z_u (z_u (z_u σ4 0 0 X348) 0 0 X350) 0 0 X352)) hG (gS_X hI) (n := 4) (by omega)) ((gH_at (gS_X hI) (by decide)).trans (congrArg some lC_40)) (by decide) (Nat.le_of_ble_eq_true rfl) (by rw [hmc, hms]; omega) (fun _ _ q => q.elim) (fun vv355 hh355 q355 => ?_)
                                obtain ⟨r354, X354, rfl, hr354, hX354, rfl⟩ := q355
                                refine z_istore hY eL_isOrdered_185 (ls' := [(7, z_i r354), (6, z_i r352), (5, z_i 1), (0, .ref (A 40)), (1, .ref b), (2, z_i c), (3, z_i (r300 + 1)), (4, z_i t)]) rfl ?_
                                refine z_aload hY eL_isOrdered_187 3 rfl ?_
                                refine g_gf hY (gS_X hI) eL_isOrdered_188 (v := .ref (A 4)) rfl ?_
                                refine z_const hY eL_isOrdered_191 ?_
                                refine z_iload hY eL_isOrdered_192 5 rfl ?_
                                refine z_imul hY eL_isOrdered_193 ?_
                                refine z_iload hY eL_isOrdered_194 0 rfl ?_
                                refine z_iadd hY eL_isOrdered_196 ?_
                                refine z_dup2 hY eL_isOrdered_197 rfl rfl ?_
                                have hb356 := hw4.s4 (4 * c + r354)
                                refine g_ial hY (gS_X hI) eL_isOrdered_198 (j := 4) (N := 16) (x := σ4 4 (4 * c + r354)) (by decide) rfl (by omega) (Eq.trans (congrFun (z_u_ne (by decide)) _) (Eq.trans (congrFun (z_u_ne (by decide)) _) (Eq.trans (congrFun (z_u_ne (by decide)) _) (congrFun (z_u_ne (by decide)) _)))) ?_
                                refine z_iload hY eL_isOrdered_199 2 rfl ?_
                                refine z_iload hY eL_isOrdered_201 1 rfl ?_
                                refine z_imul hY eL_isOrdered_203 ?_
                                refine z_top (b := r352) (by omega) ?_
                                refine z_iadd hY eL_isOrdered_204 ?_
                                refine g_ias hY (gS_X hI) eL_isOrdered_205 (j := 4) (N := 16) (by decide) (fun _ => rfl) (by omega) ?_
                                refine z_sub [3, 4, 5, 6, 7, 2, 1, 0] (ls' := [(0, .ref (A 40)), (1, .ref b), (2, z_i c), (3, z_i (r300 + 1)), (4, z_i t), (5, z_i 1), (6, z_i r352), (7, z_i r354)]) rfl ?_
                                have hq4 := h4b (4 * c + r354) (by omega) (by omega)
                                exact rest206 1 r352 r354 (z_u (z_u (z_u (z_u (z_u σ4 0 0 X348) 0 0 X350) 0 0 X352) 0 0 X354) 4 (4 * c + r354) ((σ4 4 (4 * c + r354)) + r352)) (by omega) (by omega) (by omega) (fun k k0 k1 k2 k3 k4 => (z_u_ne (by omega)).trans ((z_u_ne (by omega)).trans ((z_u_ne (by omega)).trans ((z_u_ne (by omega)).trans ((z_u_ne (by omega)).trans (hF4 k k0 k1 k2 k3 k4)))))) (wB_u (wB_u (wB_u (wB_u (wB_u hw4 (by show (-2147483648 : Int) ≤ _ ∧ _ ≤ (2147483647 : Int); omega)) (by show (-2147483648 : Int) ≤ _ ∧ _ ≤ (2147483647 : Int); omega)) (by show (-2147483648 : Int) ≤ _ ∧ _ ≤ (2147483647 : Int); omega)) (by show (-2147483648 : Int) ≤ _ ∧ _ ≤ (2147483647 : Int); omega)) (by show (-3996 : Int) ≤ _ ∧ _ ≤ (3996 : Int); omega)) rfl (fun i => by show z_u σ4 4 (4 * c + r354) ((σ4 4 (4 * c + r354)) + r352) 4 i = _; unfold z_up; by_cases c9 : i = 4 * c + r354; (rw [c9, if_pos rfl]; exact (congrArg (fun q => z_u σ4 4 q ((σ4 4 (4 * c + r354)) + r352) 4 (4 * c + r354)) (by omega)).trans (z_u_at.trans (by omega))); (rw [if_neg c9]; exact z_u_at' (by omega))) (by omega)
                              · refine z_iload hY eL_isOrdered_167 6 rfl ?_
                                refine z_ifne hY eL_isOrdered_169 (by omega) (fun c169 => ?_) (fun c169 => ?_)
                                · refine z_aload hY eL_isOrdered_180 2 rfl ?_
                                  refine z_const hY eL_isOrdered_181 ?_
                                  refine z_callV (As := [z_i 4]) (rest := []) hY eL_isOrdered_182 (la_next (B := B) (κ := κ) (σ := (z_u (z_u (z_u σ4 0 0 X348) 0 0 X350) 0 0 X352)) hG (gS_X hI) (n := 4) (by omega)) ((gH_at (gS_X hI) (by decide)).trans (congrArg some lC_40)) (by decide) (Nat.le_of_ble_eq_true rfl) (by rw [hmc, hms]; omega) (fun _ _ q => q.elim) (fun vv358 hh358 q358 => ?_)
                                  obtain ⟨r357, X357, rfl, hr357, hX357, rfl⟩ := q358
                                  refine z_istore hY eL_isOrdered_185 (ls' := [(7, z_i r357), (6, z_i r352), (5, z_i 1), (0, .ref (A 40)), (1, .ref b), (2, z_i c), (3, z_i (r300 + 1)), (4, z_i t)]) rfl ?_
                                  refine z_aload hY eL_isOrdered_187 3 rfl ?_
                                  refine g_gf hY (gS_X hI) eL_isOrdered_188 (v := .ref (A 4)) rfl ?_
                                  refine z_const hY eL_isOrdered_191 ?_
                                  refine z_iload hY eL_isOrdered_192 5 rfl ?_
                                  refine z_imul hY eL_isOrdered_193 ?_
                                  refine z_iload hY eL_isOrdered_194 0 rfl ?_
                                  refine z_iadd hY eL_isOrdered_196 ?_
                                  refine z_dup2 hY eL_isOrdered_197 rfl rfl ?_
                                  have hb359 := hw4.s4 (4 * c + r357)
                                  refine g_ial hY (gS_X hI) eL_isOrdered_198 (j := 4) (N := 16) (x := σ4 4 (4 * c + r357)) (by decide) rfl (by omega) (Eq.trans (congrFun (z_u_ne (by decide)) _) (Eq.trans (congrFun (z_u_ne (by decide)) _) (Eq.trans (congrFun (z_u_ne (by decide)) _) (congrFun (z_u_ne (by decide)) _)))) ?_
                                  refine z_iload hY eL_isOrdered_199 2 rfl ?_
                                  refine z_iload hY eL_isOrdered_201 1 rfl ?_
                                  refine z_imul hY eL_isOrdered_203 ?_
                                  refine z_top (b := r352) (by omega) ?_
                                  refine z_iadd hY eL_isOrdered_204 ?_
                                  refine g_ias hY (gS_X hI) eL_isOrdered_205 (j := 4) (N := 16) (by decide) (fun _ => rfl) (by omega) ?_
                                  refine z_sub [3, 4, 5, 6, 7, 2, 1, 0] (ls' := [(0, .ref (A 40)), (1, .ref b), (2, z_i c), (3, z_i (r300 + 1)), (4, z_i t), (5, z_i 1), (6, z_i r352), (7, z_i r357)]) rfl ?_
                                  have hq4 := h4b (4 * c + r357) (by omega) (by omega)
                                  exact rest206 1 r352 r357 (z_u (z_u (z_u (z_u (z_u σ4 0 0 X348) 0 0 X350) 0 0 X352) 0 0 X357) 4 (4 * c + r357) ((σ4 4 (4 * c + r357)) + r352)) (by omega) (by omega) (by omega) (fun k k0 k1 k2 k3 k4 => (z_u_ne (by omega)).trans ((z_u_ne (by omega)).trans ((z_u_ne (by omega)).trans ((z_u_ne (by omega)).trans ((z_u_ne (by omega)).trans (hF4 k k0 k1 k2 k3 k4)))))) (wB_u (wB_u (wB_u (wB_u (wB_u hw4 (by show (-2147483648 : Int) ≤ _ ∧ _ ≤ (2147483647 : Int); omega)) (by show (-2147483648 : Int) ≤ _ ∧ _ ≤ (2147483647 : Int); omega)) (by show (-2147483648 : Int) ≤ _ ∧ _ ≤ (2147483647 : Int); omega)) (by show (-2147483648 : Int) ≤ _ ∧ _ ≤ (2147483647 : Int); omega)) (by show (-3996 : Int) ≤ _ ∧ _ ≤ (3996 : Int); omega)) rfl (fun i => by show z_u σ4 4 (4 * c + r357) ((σ4 4 (4 * c + r357)) + r352) 4 i = _; unfold z_up; by_cases c9 : i = 4 * c + r357; (rw [c9, if_pos rfl]; exact (congrArg (fun q => z_u σ4 4 q ((σ4 4 (4 * c + r357)) + r352) 4 (4 * c + r357)) (by omega)).trans (z_u_at.trans (by omega))); (rw [if_neg c9]; exact z_u_at' (by omega))) (by omega)
                                · refine z_aload hY eL_isOrdered_172 2 rfl ?_
                                  refine z_const hY eL_isOrdered_173 ?_
                                  refine z_callV (As := [z_i 2]) (rest := []) hY eL_isOrdered_174 (la_next (B := B) (κ := κ) (σ := (z_u (z_u (z_u σ4 0 0 X348) 0 0 X350) 0 0 X352)) hG (gS_X hI) (n := 2) (by omega)) ((gH_at (gS_X hI) (by decide)).trans (congrArg some lC_40)) (by decide) (Nat.le_of_ble_eq_true rfl) (by rw [hmc, hms]; omega) (fun _ _ q => q.elim) (fun vv361 hh361 q361 => ?_)
                                  obtain ⟨r360, X360, rfl, hr360, hX360, rfl⟩ := q361
                                  refine z_goto hY eL_isOrdered_177 ?_
                                  refine z_istore hY eL_isOrdered_185 (ls' := [(7, z_i r360), (6, z_i r352), (5, z_i 1), (0, .ref (A 40)), (1, .ref b), (2, z_i c), (3, z_i (r300 + 1)), (4, z_i t)]) rfl ?_
                                  refine z_aload hY eL_isOrdered_187 3 rfl ?_
                                  refine g_gf hY (gS_X hI) eL_isOrdered_188 (v := .ref (A 4)) rfl ?_
                                  refine z_const hY eL_isOrdered_191 ?_
                                  refine z_iload hY eL_isOrdered_192 5 rfl ?_
                                  refine z_imul hY eL_isOrdered_193 ?_
                                  refine z_iload hY eL_isOrdered_194 0 rfl ?_
                                  refine z_iadd hY eL_isOrdered_196 ?_
                                  refine z_dup2 hY eL_isOrdered_197 rfl rfl ?_
                                  have hb362 := hw4.s4 (4 * c + r360)
                                  refine g_ial hY (gS_X hI) eL_isOrdered_198 (j := 4) (N := 16) (x := σ4 4 (4 * c + r360)) (by decide) rfl (by omega) (Eq.trans (congrFun (z_u_ne (by decide)) _) (Eq.trans (congrFun (z_u_ne (by decide)) _) (Eq.trans (congrFun (z_u_ne (by decide)) _) (congrFun (z_u_ne (by decide)) _)))) ?_
                                  refine z_iload hY eL_isOrdered_199 2 rfl ?_
                                  refine z_iload hY eL_isOrdered_201 1 rfl ?_
                                  refine z_imul hY eL_isOrdered_203 ?_
                                  refine z_top (b := r352) (by omega) ?_
                                  refine z_iadd hY eL_isOrdered_204 ?_
                                  refine g_ias hY (gS_X hI) eL_isOrdered_205 (j := 4) (N := 16) (by decide) (fun _ => rfl) (by omega) ?_
                                  refine z_sub [3, 4, 5, 6, 7, 2, 1, 0] (ls' := [(0, .ref (A 40)), (1, .ref b), (2, z_i c), (3, z_i (r300 + 1)), (4, z_i t), (5, z_i 1), (6, z_i r352), (7, z_i r360)]) rfl ?_
                                  have hq4 := h4b (4 * c + r360) (by omega) (by omega)
                                  exact rest206 1 r352 r360 (z_u (z_u (z_u (z_u (z_u σ4 0 0 X348) 0 0 X350) 0 0 X352) 0 0 X360) 4 (4 * c + r360) ((σ4 4 (4 * c + r360)) + r352)) (by omega) (by omega) (by omega) (fun k k0 k1 k2 k3 k4 => (z_u_ne (by omega)).trans ((z_u_ne (by omega)).trans ((z_u_ne (by omega)).trans ((z_u_ne (by omega)).trans ((z_u_ne (by omega)).trans (hF4 k k0 k1 k2 k3 k4)))))) (wB_u (wB_u (wB_u (wB_u (wB_u hw4 (by show (-2147483648 : Int) ≤ _ ∧ _ ≤ (2147483647 : Int); omega)) (by show (-2147483648 : Int) ≤ _ ∧ _ ≤ (2147483647 : Int); omega)) (by show (-2147483648 : Int) ≤ _ ∧ _ ≤ (2147483647 : Int); omega)) (by show (-2147483648 : Int) ≤ _ ∧ _ ≤ (2147483647 : Int); omega)) (by show (-3996 : Int) ≤ _ ∧ _ ≤ (3996 : Int); omega)) rfl (fun i => by show z_u σ4 4 (4 * c + r360) ((σ4 4 (4 * c + r360)) + r352) 4 i = _; unfold z_up; by_cases c9 : i = 4 * c + r360; (rw [c9, if_pos rfl]; exact (congrArg (fun q => z_u σ4 4 q ((σ4 4 (4 * c + r360)) + r352) 4 (4 * c + r360)) (by omega)).trans (z_u_at.trans (by omega))); (rw [if_neg c9]; exact z_u_at' (by omega))) (by omega)
                            · refine z_const hY eL_isOrdered_152 ?_
                              refine z_goto hY eL_isOrdered_153 ?_
                              refine z_istore hY eL_isOrdered_161 (ls' := [(6, z_i 1), (5, z_i 1), (0, .ref (A 40)), (1, .ref b), (2, z_i c), (3, z_i (r300 + 1)), (4, z_i t)]) rfl ?_
                              refine z_iload hY eL_isOrdered_163 4 rfl ?_
                              refine z_ifne hY eL_isOrdered_164 (by omega) (fun c164 => ?_) (fun c164 => ?_)
                              · refine z_aload hY eL_isOrdered_180 2 rfl ?_
                                refine z_const hY eL_isOrdered_181 ?_
                                refine z_callV (As := [z_i 4]) (rest := []) hY eL_isOrdered_182 (la_next (B := B) (κ := κ) (σ := (z_u (z_u σ4 0 0 X348) 0 0 X350)) hG (gS_X hI) (n := 4) (by omega)) ((gH_at (gS_X hI) (by decide)).trans (congrArg some lC_40)) (by decide) (Nat.le_of_ble_eq_true rfl) (by rw [hmc, hms]; omega) (fun _ _ q => q.elim) (fun vv364 hh364 q364 => ?_)
                                obtain ⟨r363, X363, rfl, hr363, hX363, rfl⟩ := q364
                                refine z_istore hY eL_isOrdered_185 (ls' := [(7, z_i r363), (6, z_i 1), (5, z_i 1), (0, .ref (A 40)), (1, .ref b), (2, z_i c), (3, z_i (r300 + 1)), (4, z_i t)]) rfl ?_
                                refine z_aload hY eL_isOrdered_187 3 rfl ?_
                                refine g_gf hY (gS_X hI) eL_isOrdered_188 (v := .ref (A 4)) rfl ?_
                                refine z_const hY eL_isOrdered_191 ?_
                                refine z_iload hY eL_isOrdered_192 5 rfl ?_
                                refine z_imul hY eL_isOrdered_193 ?_
                                refine z_iload hY eL_isOrdered_194 0 rfl ?_
                                refine z_iadd hY eL_isOrdered_196 ?_
                                refine z_dup2 hY eL_isOrdered_197 rfl rfl ?_
                                have hb365 := hw4.s4 (4 * c + r363)
                                refine g_ial hY (gS_X hI) eL_isOrdered_198 (j := 4) (N := 16) (x := σ4 4 (4 * c + r363)) (by decide) rfl (by omega) (Eq.trans (congrFun (z_u_ne (by decide)) _) (Eq.trans (congrFun (z_u_ne (by decide)) _) (congrFun (z_u_ne (by decide)) _))) ?_
                                refine z_iload hY eL_isOrdered_199 2 rfl ?_
                                refine z_iload hY eL_isOrdered_201 1 rfl ?_
                                refine z_imul hY eL_isOrdered_203 ?_
                                refine z_top (b := 1) (by omega) ?_
                                refine z_iadd hY eL_isOrdered_204 ?_
                                refine g_ias hY (gS_X hI) eL_isOrdered_205 (j := 4) (N := 16) (by decide) (fun _ => rfl) (by omega) ?_
                                refine z_sub [3, 4, 5, 6, 7, 2, 1, 0] (ls' := [(0, .ref (A 40)), (1, .ref b), (2, z_i c), (3, z_i (r300 + 1)), (4, z_i t), (5, z_i 1), (6, z_i 1), (7, z_i r363)]) rfl ?_
                                have hq4 := h4b (4 * c + r363) (by omega) (by omega)
                                exact rest206 1 1 r363 (z_u (z_u (z_u (z_u σ4 0 0 X348) 0 0 X350) 0 0 X363) 4 (4 * c + r363) ((σ4 4 (4 * c + r363)) + 1)) (by omega) (by omega) (by omega) (fun k k0 k1 k2 k3 k4 => (z_u_ne (by omega)).trans ((z_u_ne (by omega)).trans ((z_u_ne (by omega)).trans ((z_u_ne (by omega)).trans (hF4 k k0 k1 k2 k3 k4))))) (wB_u (wB_u (wB_u (wB_u hw4 (by show (-2147483648 : Int) ≤ _ ∧ _ ≤ (2147483647 : Int); omega)) (by show (-2147483648 : Int) ≤ _ ∧ _ ≤ (2147483647 : Int); omega)) (by show (-2147483648 : Int) ≤ _ ∧ _ ≤ (2147483647 : Int); omega)) (by show (-3996 : Int) ≤ _ ∧ _ ≤ (3996 : Int); omega)) rfl (fun i => by show z_u σ4 4 (4 * c + r363) ((σ4 4 (4 * c + r363)) + 1) 4 i = _; unfold z_up; by_cases c9 : i = 4 * c + r363; (rw [c9, if_pos rfl]; exact (congrArg (fun q => z_u σ4 4 q ((σ4 4 (4 * c + r363)) + 1) 4 (4 * c + r363)) (by omega)).trans (z_u_at.trans (by omega))); (rw [if_neg c9]; exact z_u_at' (by omega))) (by omega)
                              · refine z_iload hY eL_isOrdered_167 6 rfl ?_
                                refine z_ifne hY eL_isOrdered_169 (by omega) (fun c169 => ?_) (fun c169 => ?_)
                                · refine z_aload hY eL_isOrdered_180 2 rfl ?_
                                  refine z_const hY eL_isOrdered_181 ?_
                                  refine z_callV (As := [z_i 4]) (rest := []) hY eL_isOrdered_182 (la_next (B := B) (κ := κ) (σ := (z_u (z_u σ4 0 0 X348) 0 0 X350)) hG (gS_X hI) (n := 4) (by omega)) ((gH_at (gS_X hI) (by decide)).trans (congrArg some lC_40)) (by decide) (Nat.le_of_ble_eq_true rfl) (by rw [hmc, hms]; omega) (fun _ _ q => q.elim) (fun vv367 hh367 q367 => ?_)
                                  obtain ⟨r366, X366, rfl, hr366, hX366, rfl⟩ := q367
                                  refine z_istore hY eL_isOrdered_185 (ls' := [(7, z_i r366), (6, z_i 1), (5, z_i 1), (0, .ref (A 40)), (1, .ref b), (2, z_i c), (3, z_i (r300 + 1)), (4, z_i t)]) rfl ?_
                                  refine z_aload hY eL_isOrdered_187 3 rfl ?_
                                  refine g_gf hY (gS_X hI) eL_isOrdered_188 (v := .ref (A 4)) rfl ?_
                                  refine z_const hY eL_isOrdered_191 ?_
                                  refine z_iload hY eL_isOrdered_192 5 rfl ?_
                                  refine z_imul hY eL_isOrdered_193 ?_
                                  refine z_iload hY eL_isOrdered_194 0 rfl ?_
                                  refine z_iadd hY eL_isOrdered_196 ?_
                                  refine z_dup2 hY eL_isOrdered_197 rfl rfl ?_
                                  have hb368 := hw4.s4 (4 * c + r366)
                                  refine g_ial hY (gS_X hI) eL_isOrdered_198 (j := 4) (N := 16) (x := σ4 4 (4 * c + r366)) (by decide) rfl (by omega) (Eq.trans (congrFun (z_u_ne (by decide)) _) (Eq.trans (congrFun (z_u_ne (by decide)) _) (congrFun (z_u_ne (by decide)) _))) ?_
                                  refine z_iload hY eL_isOrdered_199 2 rfl ?_
                                  refine z_iload hY eL_isOrdered_201 1 rfl ?_
                                  refine z_imul hY eL_isOrdered_203 ?_
                                  refine z_top (b := 1) (by omega) ?_
                                  refine z_iadd hY eL_isOrdered_204 ?_
                                  refine g_ias hY (gS_X hI) eL_isOrdered_205 (j := 4) (N := 16) (by decide) (fun _ => rfl) (by omega) ?_
                                  refine z_sub [3, 4, 5, 6, 7, 2, 1, 0] (ls' := [(0, .ref (A 40)), (1, .ref b), (2, z_i c), (3, z_i (r300 + 1)), (4, z_i t), (5, z_i 1), (6, z_i 1), (7, z_i r366)]) rfl ?_
                                  have hq4 := h4b (4 * c + r366) (by omega) (by omega)
                                  exact rest206 1 1 r366 (z_u (z_u (z_u (z_u σ4 0 0 X348) 0 0 X350) 0 0 X366) 4 (4 * c + r366) ((σ4 4 (4 * c + r366)) + 1)) (by omega) (by omega) (by omega) (fun k k0 k1 k2 k3 k4 => (z_u_ne (by omega)).trans ((z_u_ne (by omega)).trans ((z_u_ne (by omega)).trans ((z_u_ne (by omega)).trans (hF4 k k0 k1 k2 k3 k4))))) (wB_u (wB_u (wB_u (wB_u hw4 (by show (-2147483648 : Int) ≤ _ ∧ _ ≤ (2147483647 : Int); omega)) (by show (-2147483648 : Int) ≤ _ ∧ _ ≤ (2147483647 : Int); omega)) (by show (-2147483648 : Int) ≤ _ ∧ _ ≤ (2147483647 : Int); omega)) (by show (-3996 : Int) ≤ _ ∧ _ ≤ (3996 : Int); omega)) rfl (fun i => by show z_u σ4 4 (4 * c + r366) ((σ4 4 (4 * c + r366)) + 1) 4 i = _; unfold z_up; by_cases c9 : i = 4 * c + r366; (rw [c9, if_pos rfl]; exact (congrArg (fun q => z_u σ4 4 q ((σ4 4 (4 * c + r366)) + 1) 4 (4 * c + r366)) (by omega)).trans (z_u_at.trans (by omega))); (rw [if_neg c9]; exact z_u_at' (by omega))) (by omega)
                                · refine z_aload hY eL_isOrdered_172 2 rfl ?_
                                  refine z_const hY eL_isOrdered_173 ?_
                                  refine z_callV (As := [z_i 2]) (rest := []) hY eL_isOrdered_174 (la_next (B := B) (κ := κ) (σ := (z_u (z_u σ4 0 0 X348) 0 0 X350)) hG (gS_X hI) (n := 2) (by omega)) ((gH_at (gS_X hI) (by decide)).trans (congrArg some lC_40)) (by decide) (Nat.le_of_ble_eq_true rfl) (by rw [hmc, hms]; omega) (fun _ _ q => q.elim) (fun vv370 hh370 q370 => ?_)
                                  obtain ⟨r369, X369, rfl, hr369, hX369, rfl⟩ := q370
                                  refine z_goto hY eL_isOrdered_177 ?_
                                  refine z_istore hY eL_isOrdered_185 (ls' := [(7, z_i r369), (6, z_i 1), (5, z_i 1), (0, .ref (A 40)), (1, .ref b), (2, z_i c), (3, z_i (r300 + 1)), (4, z_i t)]) rfl ?_
                                  refine z_aload hY eL_isOrdered_187 3 rfl ?_
                                  refine g_gf hY (gS_X hI) eL_isOrdered_188 (v := .ref (A 4)) rfl ?_
                                  refine z_const hY eL_isOrdered_191 ?_
                                  refine z_iload hY eL_isOrdered_192 5 rfl ?_
                                  refine z_imul hY eL_isOrdered_193 ?_
                                  refine z_iload hY eL_isOrdered_194 0 rfl ?_
                                  refine z_iadd hY eL_isOrdered_196 ?_
                                  refine z_dup2 hY eL_isOrdered_197 rfl rfl ?_
                                  have hb371 := hw4.s4 (4 * c + r369)
                                  refine g_ial hY (gS_X hI) eL_isOrdered_198 (j := 4) (N := 16) (x := σ4 4 (4 * c + r369)) (by decide) rfl (by omega) (Eq.trans (congrFun (z_u_ne (by decide)) _) (Eq.trans (congrFun (z_u_ne (by decide)) _) (congrFun (z_u_ne (by decide)) _))) ?_
                                  refine z_iload hY eL_isOrdered_199 2 rfl ?_
                                  refine z_iload hY eL_isOrdered_201 1 rfl ?_
                                  refine z_imul hY eL_isOrdered_203 ?_
                                  refine z_top (b := 1) (by omega) ?_
                                  refine z_iadd hY eL_isOrdered_204 ?_
                                  refine g_ias hY (gS_X hI) eL_isOrdered_205 (j := 4) (N := 16) (by decide) (fun _ => rfl) (by omega) ?_
                                  refine z_sub [3, 4, 5, 6, 7, 2, 1, 0] (ls' := [(0, .ref (A 40)), (1, .ref b), (2, z_i c), (3, z_i (r300 + 1)), (4, z_i t), (5, z_i 1), (6, z_i 1), (7, z_i r369)]) rfl ?_
                                  have hq4 := h4b (4 * c + r369) (by omega) (by omega)
                                  exact rest206 1 1 r369 (z_u (z_u (z_u (z_u σ4 0 0 X348) 0 0 X350) 0 0 X369) 4 (4 * c + r369) ((σ4 4 (4 * c + r369)) + 1)) (by omega) (by omega) (by omega) (fun k k0 k1 k2 k3 k4 => (z_u_ne (by omega)).trans ((z_u_ne (by omega)).trans ((z_u_ne (by omega)).trans ((z_u_ne (by omega)).trans (hF4 k k0 k1 k2 k3 k4))))) (wB_u (wB_u (wB_u (wB_u hw4 (by show (-2147483648 : Int) ≤ _ ∧ _ ≤ (2147483647 : Int); omega)) (by show (-2147483648 : Int) ≤ _ ∧ _ ≤ (2147483647 : Int); omega)) (by show (-2147483648 : Int) ≤ _ ∧ _ ≤ (2147483647 : Int); omega)) (by show (-3996 : Int) ≤ _ ∧ _ ≤ (3996 : Int); omega)) rfl (fun i => by show z_u σ4 4 (4 * c + r369) ((σ4 4 (4 * c + r369)) + 1) 4 i = _; unfold z_up; by_cases c9 : i = 4 * c + r369; (rw [c9, if_pos rfl]; exact (congrArg (fun q => z_u σ4 4 q ((σ4 4 (4 * c + r369)) + 1) 4 (4 * c + r369)) (by omega)).trans (z_u_at.trans (by omega))); (rw [if_neg c9]; exact z_u_at' (by omega))) (by omega)
                          · refine z_const hY eL_isOrdered_137 ?_
                            refine z_goto hY eL_isOrdered_138 ?_
                            refine z_istore hY eL_isOrdered_142 (ls' := [(5, z_i (-1)), (0, .ref (A 40)), (1, .ref b), (2, z_i c), (3, z_i (r300 + 1)), (4, z_i t)]) rfl ?_
                            refine z_aload hY eL_isOrdered_144 1 rfl ?_
                            refine z_const hY eL_isOrdered_145 ?_
                            refine z_callV (As := [z_i 2]) (rest := []) hY eL_isOrdered_146 (la_next (B := B) (κ := κ) (σ := (z_u σ4 0 0 X348)) hG (gS_X hI) (n := 2) (by omega)) ((gH_at (gS_X hI) (by decide)).trans (congrArg some lC_40)) (by decide) (Nat.le_of_ble_eq_true rfl) (by rw [hmc, hms]; omega) (fun _ _ q => q.elim) (fun vv373 hh373 q373 => ?_)
                            obtain ⟨r372, X372, rfl, hr372, hX372, rfl⟩ := q373
                            refine z_ifne hY eL_isOrdered_149 (by omega) (fun c149 => ?_) (fun c149 => ?_)
                            · refine z_aload hY eL_isOrdered_156 1 rfl ?_
                              refine z_const hY eL_isOrdered_157 ?_
                              refine z_callV (As := [z_i 5]) (rest := []) hY eL_isOrdered_158 (la_next (B := B) (κ := κ) (σ := (z_u (z_u σ4 0 0 X348) 0 0 X372)) hG (gS_X hI) (n := 5) (by omega)) ((gH_at (gS_X hI) (by decide)).trans (congrArg some lC_40)) (by decide) (Nat.le_of_ble_eq_true rfl) (by rw [hmc, hms]; omega) (fun _ _ q => q.elim) (fun vv375 hh375 q375 => ?_)
                              obtain ⟨r374, X374, rfl, hr374, hX374, rfl⟩ := q375
                              refine z_istore hY eL_isOrdered_161 (ls' := [(6, z_i r374), (5, z_i (-1)), (0, .ref (A 40)), (1, .ref b), (2, z_i c), (3, z_i (r300 + 1)), (4, z_i t)]) rfl ?_
                              refine z_iload hY eL_isOrdered_163 4 rfl ?_
                              refine z_ifne hY eL_isOrdered_164 (by omega) (fun c164 => ?_) (fun c164 => ?_)
                              · refine z_aload hY eL_isOrdered_180 2 rfl ?_
                                refine z_const hY eL_isOrdered_181 ?_
                                refine z_callV (As := [z_i 4]) (rest := []) hY eL_isOrdered_182 (la_next (B := B) (κ := κ) (σ := (z_u (z_u (z_u σ4 0 0 X348) 0 0 X372) 0 0 X374)) hG (gS_X hI) (n := 4) (by omega)) ((gH_at (gS_X hI) (by decide)).trans (congrArg some lC_40)) (by decide) (Nat.le_of_ble_eq_true rfl) (by rw [hmc, hms]; omega) (fun _ _ q => q.elim) (fun vv377 hh377 q377 => ?_)
                                obtain ⟨r376, X376, rfl, hr376, hX376, rfl⟩ := q377
                                refine z_istore hY eL_isOrdered_185 (ls' := [(7, z_i r376), (6, z_i r374), (5, z_i (-1)), (0, .ref (A 40)), (1, .ref b), (2, z_i c), (3, z_i (r300 + 1)), (4, z_i t)]) rfl ?_
                                refine z_aload hY eL_isOrdered_187 3 rfl ?_
                                refine g_gf hY (gS_X hI) eL_isOrdered_188 (v := .ref (A 4)) rfl ?_
                                refine z_const hY eL_isOrdered_191 ?_
                                refine z_iload hY eL_isOrdered_192 5 rfl ?_
                                refine z_imul hY eL_isOrdered_193 ?_
                                refine z_iload hY eL_isOrdered_194 0 rfl ?_
                                refine z_iadd hY eL_isOrdered_196 ?_
                                refine z_dup2 hY eL_isOrdered_197 rfl rfl ?_
                                have hb378 := hw4.s4 (4 * c + r376)
                                refine g_ial hY (gS_X hI) eL_isOrdered_198 (j := 4) (N := 16) (x := σ4 4 (4 * c + r376)) (by decide) rfl (by omega) (Eq.trans (congrFun (z_u_ne (by decide)) _) (Eq.trans (congrFun (z_u_ne (by decide)) _) (Eq.trans (congrFun (z_u_ne (by decide)) _) (congrFun (z_u_ne (by decide)) _)))) ?_
                                refine z_iload hY eL_isOrdered_199 2 rfl ?_
                                refine z_iload hY eL_isOrdered_201 1 rfl ?_
                                refine z_imul hY eL_isOrdered_203 ?_
                                refine z_top (b := -r374) (by omega) ?_
                                refine z_iadd hY eL_isOrdered_204 ?_
                                refine z_top (b := (σ4 4 (4 * c + r376)) - r374) (by omega) ?_
                                refine g_ias hY (gS_X hI) eL_isOrdered_205 (j := 4) (N := 16) (by decide) (fun _ => rfl) (by omega) ?_
                                refine z_sub [3, 4, 5, 6, 7, 2, 1, 0] (ls' := [(0, .ref (A 40)), (1, .ref b), (2, z_i c), (3, z_i (r300 + 1)), (4, z_i t), (5, z_i (-1)), (6, z_i r374), (7, z_i r376)]) rfl ?_
                                have hq4 := h4b (4 * c + r376) (by omega) (by omega)
                                exact rest206 (-1) r374 r376 (z_u (z_u (z_u (z_u (z_u σ4 0 0 X348) 0 0 X372) 0 0 X374) 0 0 X376) 4 (4 * c + r376) ((σ4 4 (4 * c + r376)) - r374)) (by omega) (by omega) (by omega) (fun k k0 k1 k2 k3 k4 => (z_u_ne (by omega)).trans ((z_u_ne (by omega)).trans ((z_u_ne (by omega)).trans ((z_u_ne (by omega)).trans ((z_u_ne (by omega)).trans (hF4 k k0 k1 k2 k3 k4)))))) (wB_u (wB_u (wB_u (wB_u (wB_u hw4 (by show (-2147483648 : Int) ≤ _ ∧ _ ≤ (2147483647 : Int); omega)) (by show (-2147483648 : Int) ≤ _ ∧ _ ≤ (2147483647 : Int); omega)) (by show (-2147483648 : Int) ≤ _ ∧ _ ≤ (2147483647 : Int); omega)) (by show (-2147483648 : Int) ≤ _ ∧ _ ≤ (2147483647 : Int); omega)) (by show (-3996 : Int) ≤ _ ∧ _ ≤ (3996 : Int); omega)) rfl (fun i => by show z_u σ4 4 (4 * c + r376) ((σ4 4 (4 * c + r376)) - r374) 4 i = _; unfold z_up; by_cases c9 : i = 4 * c + r376; (rw [c9, if_pos rfl]; exact (congrArg (fun q => z_u σ4 4 q ((σ4 4 (4 * c + r376)) - r374) 4 (4 * c + r376)) (by omega)).trans (z_u_at.trans (by omega))); (rw [if_neg c9]; exact z_u_at' (by omega))) (by omega)
                              · refine z_iload hY eL_isOrdered_167 6 rfl ?_
                                refine z_ifne hY eL_isOrdered_169 (by omega) (fun c169 => ?_) (fun c169 => ?_)
                                · refine z_aload hY eL_isOrdered_180 2 rfl ?_
                                  refine z_const hY eL_isOrdered_181 ?_
                                  refine z_callV (As := [z_i 4]) (rest := []) hY eL_isOrdered_182 (la_next (B := B) (κ := κ) (σ := (z_u (z_u (z_u σ4 0 0 X348) 0 0 X372) 0 0 X374)) hG (gS_X hI) (n := 4) (by omega)) ((gH_at (gS_X hI) (by decide)).trans (congrArg some lC_40)) (by decide) (Nat.le_of_ble_eq_true rfl) (by rw [hmc, hms]; omega) (fun _ _ q => q.elim) (fun vv380 hh380 q380 => ?_)
                                  obtain ⟨r379, X379, rfl, hr379, hX379, rfl⟩ := q380
                                  refine z_istore hY eL_isOrdered_185 (ls' := [(7, z_i r379), (6, z_i r374), (5, z_i (-1)), (0, .ref (A 40)), (1, .ref b), (2, z_i c), (3, z_i (r300 + 1)), (4, z_i t)]) rfl ?_
                                  refine z_aload hY eL_isOrdered_187 3 rfl ?_
                                  refine g_gf hY (gS_X hI) eL_isOrdered_188 (v := .ref (A 4)) rfl ?_
                                  refine z_const hY eL_isOrdered_191 ?_
                                  refine z_iload hY eL_isOrdered_192 5 rfl ?_
                                  refine z_imul hY eL_isOrdered_193 ?_
                                  refine z_iload hY eL_isOrdered_194 0 rfl ?_
                                  refine z_iadd hY eL_isOrdered_196 ?_
                                  refine z_dup2 hY eL_isOrdered_197 rfl rfl ?_
                                  have hb381 := hw4.s4 (4 * c + r379)
                                  refine g_ial hY (gS_X hI) eL_isOrdered_198 (j := 4) (N := 16) (x := σ4 4 (4 * c + r379)) (by decide) rfl (by omega) (Eq.trans (congrFun (z_u_ne (by decide)) _) (Eq.trans (congrFun (z_u_ne (by decide)) _) (Eq.trans (congrFun (z_u_ne (by decide)) _) (congrFun (z_u_ne (by decide)) _)))) ?_
                                  refine z_iload hY eL_isOrdered_199 2 rfl ?_
                                  refine z_iload hY eL_isOrdered_201 1 rfl ?_
                                  refine z_imul hY eL_isOrdered_203 ?_
                                  refine z_top (b := -r374) (by omega) ?_
                                  refine z_iadd hY eL_isOrdered_204 ?_
                                  refine z_top (b := (σ4 4 (4 * c + r379)) - r374) (by omega) ?_
                                  refine g_ias hY (gS_X hI) eL_isOrdered_205 (j := 4) (N := 16) (by decide) (fun _ => rfl) (by omega) ?_
                                  refine z_sub [3, 4, 5, 6, 7, 2, 1, 0] (ls' := [(0, .ref (A 40)), (1, .ref b), (2, z_i c), (3, z_i (r300 + 1)), (4, z_i t), (5, z_i (-1)), (6, z_i r374), (7, z_i r379)]) rfl ?_
                                  have hq4 := h4b (4 * c + r379) (by omega) (by omega)
                                  exact rest206 (-1) r374 r379 (z_u (z_u (z_u (z_u (z_u σ4 0 0 X348) 0 0 X372) 0 0 X374) 0 0 X379) 4 (4 * c + r379) ((σ4 4 (4 * c + r379)) - r374)) (by omega) (by omega) (by omega) (fun k k0 k1 k2 k3 k4 => (z_u_ne (by omega)).trans ((z_u_ne (by omega)).trans ((z_u_ne (by omega)).trans ((z_u_ne (by omega)).trans ((z_u_ne (by omega)).trans (hF4 k k0 k1 k2 k3 k4)))))) (wB_u (wB_u (wB_u (wB_u (wB_u hw4 (by show (-2147483648 : Int) ≤ _ ∧ _ ≤ (2147483647 : Int); omega)) (by show (-2147483648 : Int) ≤ _ ∧ _ ≤ (2147483647 : Int); omega)) (by show (-2147483648 : Int) ≤ _ ∧ _ ≤ (2147483647 : Int); omega)) (by show (-2147483648 : Int) ≤ _ ∧ _ ≤ (2147483647 : Int); omega)) (by show (-3996 : Int) ≤ _ ∧ _ ≤ (3996 : Int); omega)) rfl (fun i => by show z_u σ4 4 (4 * c + r379) ((σ4 4 (4 * c + r379)) - r374) 4 i = _; unfold z_up; by_cases c9 : i = 4 * c + r379; (rw [c9, if_pos rfl]; exact (congrArg (fun q => z_u σ4 4 q ((σ4 4 (4 * c + r379)) - r374) 4 (4 * c + r379)) (by omega)).trans (z_u_at.trans (by omega))); (rw [if_neg c9]; exact z_u_at' (by omega))) (by omega)
                                · refine z_aload hY eL_isOrdered_172 2 rfl ?_
                                  refine z_const hY eL_isOrdered_173 ?_
                                  refine z_callV (As := [z_i 2]) (rest := []) hY eL_isOrdered_174 (la_next (B := B) (κ := κ) (σ := (z_u (z_u (z_u σ4 0 0 X348) 0 0 X372) 0 0 X374)) hG (gS_X hI) (n := 2) (by omega)) ((gH_at (gS_X hI) (by decide)).trans (congrArg some lC_40)) (by decide) (Nat.le_of_ble_eq_true rfl) (by rw [hmc, hms]; omega) (fun _ _ q => q.elim) (fun vv383 hh383 q383 => ?_)
                                  obtain ⟨r382, X382, rfl, hr382, hX382, rfl⟩ := q383
                                  refine z_goto hY eL_isOrdered_177 ?_
                                  refine z_istore hY eL_isOrdered_185 (ls' := [(7, z_i r382), (6, z_i r374), (5, z_i (-1)), (0, .ref (A 40)), (1, .ref b), (2, z_i c), (3, z_i (r300 + 1)), (4, z_i t)]) rfl ?_
                                  refine z_aload hY eL_isOrdered_187 3 rfl ?_
                                  refine g_gf hY (gS_X hI) eL_isOrdered_188 (v := .ref (A 4)) rfl ?_
                                  refine z_const hY eL_isOrdered_191 ?_
                                  refine z_iload hY eL_isOrdered_192 5 rfl ?_
                                  refine z_imul hY eL_isOrdered_193 ?_
                                  refine z_iload hY eL_isOrdered_194 0 rfl ?_
                                  refine z_iadd hY eL_isOrdered_196 ?_
                                  refine z_dup2 hY eL_isOrdered_197 rfl rfl ?_
                                  have hb384 := hw4.s4 (4 * c + r382)
                                  refine g_ial hY (gS_X hI) eL_isOrdered_198 (j := 4) (N := 16) (x := σ4 4 (4 * c + r382)) (by decide) rfl (by omega) (Eq.trans (congrFun (z_u_ne (by decide)) _) (Eq.trans (congrFun (z_u_ne (by decide)) _) (Eq.trans (congrFun (z_u_ne (by decide)) _) (congrFun (z_u_ne (by decide)) _)))) ?_
                                  refine z_iload hY eL_isOrdered_199 2 rfl ?_
                                  refine z_iload hY eL_isOrdered_201 1 rfl ?_
                                  refine z_imul hY eL_isOrdered_203 ?_
                                  refine z_top (b := -r374) (by omega) ?_
                                  refine z_iadd hY eL_isOrdered_204 ?_
                                  refine z_top (b := (σ4 4 (4 * c + r382)) - r374) (by omega) ?_
                                  refine g_ias hY (gS_X hI) eL_isOrdered_205 (j := 4) (N := 16) (by decide) (fun _ => rfl) (by omega) ?_
                                  refine z_sub [3, 4, 5, 6, 7, 2, 1, 0] (ls' := [(0, .ref (A 40)), (1, .ref b), (2, z_i c), (3, z_i (r300 + 1)), (4, z_i t), (5, z_i (-1)), (6, z_i r374), (7, z_i r382)]) rfl ?_
                                  have hq4 := h4b (4 * c + r382) (by omega) (by omega)
                                  exact rest206 (-1) r374 r382 (z_u (z_u (z_u (z_u (z_u σ4 0 0 X348) 0 0 X372) 0 0 X374) 0 0 X382) 4 (4 * c + r382) ((σ4 4 (4 * c + r382)) - r374)) (by omega) (by omega) (by omega) (fun k k0 k1 k2 k3 k4 => (z_u_ne (by omega)).trans ((z_u_ne (by omega)).trans ((z_u_ne (by omega)).trans ((z_u_ne (by omega)).trans ((z_u_ne (by omega)).trans (hF4 k k0 k1 k2 k3 k4)))))) (wB_u (wB_u (wB_u (wB_u (wB_u hw4 (by show (-2147483648 : Int) ≤ _ ∧ _ ≤ (2147483647 : Int); omega)) (by show (-2147483648 : Int) ≤ _ ∧ _ ≤ (2147483647 : Int); omega)) (by show (-2147483648 : Int) ≤ _ ∧ _ ≤ (2147483647 : Int); omega)) (by show (-2147483648 : Int) ≤ _ ∧ _ ≤ (2147483647 : Int); omega)) (by show (-3996 : Int) ≤ _ ∧ _ ≤ (3996 : Int); omega)) rfl (fun i => by show z_u σ4 4 (4 * c + r382) ((σ4 4 (4 * c + r382)) - r374) 4 i = _; unfold z_up; by_cases c9 : i = 4 * c + r382; (rw [c9, if_pos rfl]; exact (congrArg (fun q => z_u σ4 4 q ((σ4 4 (4 * c + r382)) - r374) 4 (4 * c + r382)) (by omega)).trans (z_u_at.trans (by omega))); (rw [if_neg c9]; exact z_u_at' (by omega))) (by omega)
                            · refine z_const hY eL_isOrdered_152 ?_
                              refine z_goto hY eL_isOrdered_153 ?_
                              refine z_istore hY eL_isOrdered_161 (ls' := [(6, z_i 1), (5, z_i (-1)), (0, .ref (A 40)), (1, .ref b), (2, z_i c), (3, z_i (r300 + 1)), (4, z_i t)]) rfl ?_
                              refine z_iload hY eL_isOrdered_163 4 rfl ?_
                              refine z_ifne hY eL_isOrdered_164 (by omega) (fun c164 => ?_) (fun c164 => ?_)
                              · refine z_aload hY eL_isOrdered_180 2 rfl ?_
                                refine z_const hY eL_isOrdered_181 ?_
                                refine z_callV (As := [z_i 4]) (rest := []) hY eL_isOrdered_182 (la_next (B := B) (κ := κ) (σ := (z_u (z_u σ4 0 0 X348) 0 0 X372)) hG (gS_X hI) (n := 4) (by omega)) ((gH_at (gS_X hI) (by decide)).trans (congrArg some lC_40)) (by decide) (Nat.le_of_ble_eq_true rfl) (by rw [hmc, hms]; omega) (fun _ _ q => q.elim) (fun vv386 hh386 q386 => ?_)
                                obtain ⟨r385, X385, rfl, hr385, hX385, rfl⟩ := q386
                                refine z_istore hY eL_isOrdered_185 (ls' := [(7, z_i r385), (6, z_i 1), (5, z_i (-1)), (0, .ref (A 40)), (1, .ref b), (2, z_i c), (3, z_i (r300 + 1)), (4, z_i t)]) rfl ?_
                                refine z_aload hY eL_isOrdered_187 3 rfl ?_
                                refine g_gf hY (gS_X hI) eL_isOrdered_188 (v := .ref (A 4)) rfl ?_
                                refine z_const hY eL_isOrdered_191 ?_
                                refine z_iload hY eL_isOrdered_192 5 rfl ?_
                                refine z_imul hY eL_isOrdered_193 ?_
                                refine z_iload hY eL_isOrdered_194 0 rfl ?_
                                refine z_iadd hY eL_isOrdered_196 ?_
                                refine z_dup2 hY eL_isOrdered_197 rfl rfl ?_
                                have hb387 := hw4.s4 (4 * c + r385)
                                refine g_ial hY (gS_X hI) eL_isOrdered_198 (j := 4) (N := 16) (x := σ4 4 (4 * c + r385)) (by decide) rfl (by omega) (Eq.trans (congrFun (z_u_ne (by decide)) _) (Eq.trans (congrFun (z_u_ne (by decide)) _) (congrFun (z_u_ne (by decide)) _))) ?_
                                refine z_iload hY eL_isOrdered_199 2 rfl ?_
                                refine z_iload hY eL_isOrdered_201 1 rfl ?_
                                refine z_imul hY eL_isOrdered_203 ?_
                                refine z_top (b := (-1)) (by omega) ?_
                                refine z_iadd hY eL_isOrdered_204 ?_
                                refine z_top (b := (σ4 4 (4 * c + r385)) - 1) (by omega) ?_
                                refine g_ias hY (gS_X hI) eL_isOrdered_205 (j := 4) (N := 16) (by decide) (fun _ => rfl) (by omega) ?_
                                refine z_sub [3, 4, 5, 6, 7, 2, 1, 0] (ls' := [(0, .ref (A 40)), (1, .ref b), (2, z_i c), (3, z_i (r300 + 1)), (4, z_i t), (5, z_i (-1)), (6, z_i 1), (7, z_i r385)]) rfl ?_
                                have hq4 := h4b (4 * c + r385) (by omega) (by omega)
                                exact rest206 (-1) 1 r385 (z_u (z_u (z_u (z_u σ4 0 0 X348) 0 0 X372) 0 0 X385) 4 (4 * c + r385) ((σ4 4 (4 * c + r385)) - 1)) (by omega) (by omega) (by omega) (fun k k0 k1 k2 k3 k4 => (z_u_ne (by omega)).trans ((z_u_ne (by omega)).trans ((z_u_ne (by omega)).trans ((z_u_ne (by omega)).trans (hF4 k k0 k1 k2 k3 k4))))) (wB_u (wB_u (wB_u (wB_u hw4 (by show (-2147483648 : Int) ≤ _ ∧ _ ≤ (2147483647 : Int); omega)) (by show (-2147483648 : Int) ≤ _ ∧ _ ≤ (2147483647 : Int); omega)) (by show (-2147483648 : Int) ≤ _ ∧ _ ≤ (2147483647 : Int); omega)) (by show (-3996 : Int) ≤ _ ∧ _ ≤ (3996 : Int); omega)) rfl (fun i => by show z_u σ4 4 (4 * c + r385) ((σ4 4 (4 * c + r385)) - 1) 4 i = _; unfold z_up; by_cases c9 : i = 4 * c + r385; (rw [c9, if_pos rfl]; exact (congrArg (fun q => z_u σ4 4 q ((σ4 4 (4 * c + r385)) - 1) 4 (4 * c + r385)) (by omega)).trans (z_u_at.trans (by omega))); (rw [if_neg c9]; exact z_u_at' (by omega))) (by omega)
                              · refine z_iload hY eL_isOrdered_167 6 rfl ?_
                                refine z_ifne hY eL_isOrdered_169 (by omega) (fun c169 => ?_) (fun c169 => ?_)
                                · refine z_aload hY eL_isOrdered_180 2 rfl ?_
                                  refine z_const hY eL_isOrdered_181 ?_
                                  refine z_callV (As := [z_i 4]) (rest := []) hY eL_isOrdered_182 (la_next (B := B) (κ := κ) (σ := (z_u (z_u σ4 0 0 X348) 0 0 X372)) hG (gS_X hI) (n := 4) (by omega)) ((gH_at (gS_X hI) (by decide)).trans (congrArg some lC_40)) (by decide) (Nat.le_of_ble_eq_true rfl) (by rw [hmc, hms]; omega) (fun _ _ q => q.elim) (fun vv389 hh389 q389 => ?_)
                                  obtain ⟨r388, X388, rfl, hr388, hX388, rfl⟩ := q389
                                  refine z_istore hY eL_isOrdered_185 (ls' := [(7, z_i r388), (6, z_i 1), (5, z_i (-1)), (0, .ref (A 40)), (1, .ref b), (2, z_i c), (3, z_i (r300 + 1)), (4, z_i t)]) rfl ?_
                                  refine z_aload hY eL_isOrdered_187 3 rfl ?_
                                  refine g_gf hY (gS_X hI) eL_isOrdered_188 (v := .ref (A 4)) rfl ?_
                                  refine z_const hY eL_isOrdered_191 ?_
                                  refine z_iload hY eL_isOrdered_192 5 rfl ?_
                                  refine z_imul hY eL_isOrdered_193 ?_
                                  refine z_iload hY eL_isOrdered_194 0 rfl ?_
                                  refine z_iadd hY eL_isOrdered_196 ?_
                                  refine z_dup2 hY eL_isOrdered_197 rfl rfl ?_
                                  have hb390 := hw4.s4 (4 * c + r388)
                                  refine g_ial hY (gS_X hI) eL_isOrdered_198 (j := 4) (N := 16) (x := σ4 4 (4 * c + r388)) (by decide) rfl (by omega) (Eq.trans (congrFun (z_u_ne (by decide)) _) (Eq.trans (congrFun (z_u_ne (by decide)) _) (congrFun (z_u_ne (by decide)) _))) ?_
                                  refine z_iload hY eL_isOrdered_199 2 rfl ?_
                                  refine z_iload hY eL_isOrdered_201 1 rfl ?_
                                  refine z_imul hY eL_isOrdered_203 ?_
                                  refine z_top (b := (-1)) (by omega) ?_
                                  refine z_iadd hY eL_isOrdered_204 ?_
                                  refine z_top (b := (σ4 4 (4 * c + r388)) - 1) (by omega) ?_
                                  refine g_ias hY (gS_X hI) eL_isOrdered_205 (j := 4) (N := 16) (by decide) (fun _ => rfl) (by omega) ?_
                                  refine z_sub [3, 4, 5, 6, 7, 2, 1, 0] (ls' := [(0, .ref (A 40)), (1, .ref b), (2, z_i c), (3, z_i (r300 + 1)), (4, z_i t), (5, z_i (-1)), (6, z_i 1), (7, z_i r388)]) rfl ?_
                                  have hq4 := h4b (4 * c + r388) (by omega) (by omega)
                                  exact rest206 (-1) 1 r388 (z_u (z_u (z_u (z_u σ4 0 0 X348) 0 0 X372) 0 0 X388) 4 (4 * c + r388) ((σ4 4 (4 * c + r388)) - 1)) (by omega) (by omega) (by omega) (fun k k0 k1 k2 k3 k4 => (z_u_ne (by omega)).trans ((z_u_ne (by omega)).trans ((z_u_ne (by omega)).trans ((z_u_ne (by omega)).trans (hF4 k k0 k1 k2 k3 k4))))) (wB_u (wB_u (wB_u (wB_u hw4 (by show (-2147483648 : Int) ≤ _ ∧ _ ≤ (2147483647 : Int); omega)) (by show (-2147483648 : Int) ≤ _ ∧ _ ≤ (2147483647 : Int); omega)) (by show (-2147483648 : Int) ≤ _ ∧ _ ≤ (2147483647 : Int); omega)) (by show (-3996 : Int) ≤ _ ∧ _ ≤ (3996 : Int); omega)) rfl (fun i => by show z_u σ4 4 (4 * c + r388) ((σ4 4 (4 * c + r388)) - 1) 4 i = _; unfold z_up; by_cases c9 : i = 4 * c + r388; (rw [c9, if_pos rfl]; exact (congrArg (fun q => z_u σ4 4 q ((σ4 4 (4 * c + r388)) - 1) 4 (4 * c + r388)) (by omega)).trans (z_u_at.trans (by omega))); (rw [if_neg c9]; exact z_u_at' (by omega))) (by omega)
                                · refine z_aload hY eL_isOrdered_172 2 rfl ?_
                                  refine z_const hY eL_isOrdered_173 ?_
                                  refine z_callV (As := [z_i 2]) (rest := []) hY eL_isOrdered_174 (la_next (B := B) (κ := κ) (σ := (z_u (z_u σ4 0 0 X348) 0 0 X372)) hG (gS_X hI) (n := 2) (by omega)) ((gH_at (gS_X hI) (by decide)).trans (congrArg some lC_40)) (by decide) (Nat.le_of_ble_eq_true rfl) (by rw [hmc, hms]; omega) (fun _ _ q => q.elim) (fun vv392 hh392 q392 => ?_)
                                  obtain ⟨r391, X391, rfl, hr391, hX391, rfl⟩ := q392
                                  refine z_goto hY eL_isOrdered_177 ?_
                                  refine z_istore hY eL_isOrdered_185 (ls' := [(7, z_i r391), (6, z_i 1), (5, z_i (-1)), (0, .ref (A 40)), (1, .ref b), (2, z_i c), (3, z_i (r300 + 1)), (4, z_i t)]) rfl ?_
                                  refine z_aload hY eL_isOrdered_187 3 rfl ?_
                                  refine g_gf hY (gS_X hI) eL_isOrdered_188 (v := .ref (A 4)) rfl ?_
                                  refine z_const hY eL_isOrdered_191 ?_
                                  refine z_iload hY eL_isOrdered_192 5 rfl ?_
                                  refine z_imul hY eL_isOrdered_193 ?_
                                  refine z_iload hY eL_isOrdered_194 0 rfl ?_
                                  refine z_iadd hY eL_isOrdered_196 ?_
                                  refine z_dup2 hY eL_isOrdered_197 rfl rfl ?_
                                  have hb393 := hw4.s4 (4 * c + r391)
                                  refine g_ial hY (gS_X hI) eL_isOrdered_198 (j := 4) (N := 16) (x := σ4 4 (4 * c + r391)) (by decide) rfl (by omega) (Eq.trans (congrFun (z_u_ne (by decide)) _) (Eq.trans (congrFun (z_u_ne (by decide)) _) (congrFun (z_u_ne (by decide)) _))) ?_
                                  refine z_iload hY eL_isOrdered_199 2 rfl ?_
                                  refine z_iload hY eL_isOrdered_201 1 rfl ?_
                                  refine z_imul hY eL_isOrdered_203 ?_
                                  refine z_top (b := (-1)) (by omega) ?_
                                  refine z_iadd hY eL_isOrdered_204 ?_
                                  refine z_top (b := (σ4 4 (4 * c + r391)) - 1) (by omega) ?_
                                  refine g_ias hY (gS_X hI) eL_isOrdered_205 (j := 4) (N := 16) (by decide) (fun _ => rfl) (by omega) ?_
                                  refine z_sub [3, 4, 5, 6, 7, 2, 1, 0] (ls' := [(0, .ref (A 40)), (1, .ref b), (2, z_i c), (3, z_i (r300 + 1)), (4, z_i t), (5, z_i (-1)), (6, z_i 1), (7, z_i r391)]) rfl ?_
                                  have hq4 := h4b (4 * c + r391) (by omega) (by omega)
                                  exact rest206 (-1) 1 r391 (z_u (z_u (z_u (z_u σ4 0 0 X348) 0 0 X372) 0 0 X391) 4 (4 * c + r391) ((σ4 4 (4 * c + r391)) - 1)) (by omega) (by omega) (by omega) (fun k k0 k1 k2 k3 k4 => (z_u_ne (by omega)).trans ((z_u_ne (by omega)).trans ((z_u_ne (by omega)).trans ((z_u_ne (by omega)).trans (hF4 k k0 k1 k2 k3 k4))))) (wB_u (wB_u (wB_u (wB_u hw4 (by show (-2147483648 : Int) ≤ _ ∧ _ ≤ (2147483647 : Int); omega)) (by show (-2147483648 : Int) ≤ _ ∧ _ ≤ (2147483647 : Int); omega)) (by show (-2147483648 : Int) ≤ _ ∧ _ ≤ (2147483647 : Int); omega)) (by show (-3996 : Int) ≤ _ ∧ _ ≤ (3996 : Int); omega)) rfl (fun i => by show z_u σ4 4 (4 * c + r391) ((σ4 4 (4 * c + r391)) - 1) 4 i = _; unfold z_up; by_cases c9 : i = 4 * c + r391; (rw [c9, if_pos rfl]; exact (congrArg (fun q => z_u σ4 4 q ((σ4 4 (4 * c + r391)) - 1) 4 (4 * c + r391)) (by omega)).trans (z_u_at.trans (by omega))); (rw [if_neg c9]; exact z_u_at' (by omega))) (by omega)
                  refine z_widen (k' := (10 + 40 * c.toNat + 4 + 10 * (0 : Int).toNat)) (n' := (100 + 9000 * c.toNat + 1000 + 2600 * (0 : Int).toNat)) (by omega) (by omega) ?_
                  exact lp118 _ 0 ((n + 0) + 1) (sbC (sbC f n (fun _ => 0)) (n + 0) (fun _ => 62)) a299 (z_u σ2 0 0 X300) hh299 (Nat.lt_succ_self _) (by omega) (fun k k0 k1 k2 k3 k4 => (z_u_ne (by omega)).trans (hF2 k k0 k1 k2 k3 k4)) (wB_u hw2 (by show (-2147483648 : Int) ≤ _ ∧ _ ≤ (2147483647 : Int); omega)) rfl (fun i i0 i1 => h42 i i0 i1) (fun i i0 i1 => by have z : (z_u σ2 0 0 X300) 4 i = 0 := h40 i i0 (by omega); rw [z]; omega) hsb299 hxa299 (by omega) hfbD (Or.inl ⟨rfl, hiD⟩)
              · refine z_aload hY eL_isOrdered_55 0 rfl ?_
                refine g_gf hY (gS_X hI) eL_isOrdered_56 (v := .ref (A 4)) rfl ?_
                refine z_const hY eL_isOrdered_59 ?_
                refine z_iload hY eL_isOrdered_60 2 rfl ?_
                refine z_imul hY eL_isOrdered_61 ?_
                refine z_iload hY eL_isOrdered_62 3 rfl ?_
                refine z_iadd hY eL_isOrdered_63 ?_
                refine z_const hY eL_isOrdered_64 ?_
                refine g_ias hY (gS_X hI) eL_isOrdered_65 (j := 4) (N := 16) (by decide) (fun _ => rfl) (by omega) ?_
                refine z_iinc hY eL_isOrdered_66 3 rfl (ls' := [(3, z_i (q + 1)), (0, .ref (A 40)), (1, .ref b), (2, z_i c)]) rfl ?_
                refine z_goto hY eL_isOrdered_69 ?_
                refine z_sub [1, 2, 3, 0] (ls' := [(0, .ref (A 40)), (1, .ref b), (2, z_i c), (3, z_i (q + 1))]) rfl ?_
                exact ih50 (q + 1) (z_u σ2 4 (4 * c + q) 0) (by omega) (by omega) (fun k k0 k1 k2 k3 k4 => (z_u_ne (by omega)).trans (hF2 k k0 k1 k2 k3 k4)) (wB_u hw2 (by show (-3996 : Int) ≤ _ ∧ _ ≤ (3996 : Int); omega)) hs8 (fun i i0 i1 => (z_u_at' (by omega)).trans (h42 i i0 i1)) (fun i i0 i1 => by by_cases c9 : i = 4 * c + q; (rw [c9, z_u_at]); (rw [z_u_at' c9]; exact h40 i i0 (by omega)))
          exact lp50 _ 0 (z_u (z_u σ1 0 0 X4) 8 c 1) (Nat.lt_succ_self _) (by omega) (fun k k0 k1 k2 k3 k4 => (z_u_ne (by omega)).trans ((z_u_ne (by omega)).trans (hF1 k k0 k1 k2 k3 k4))) (wB_u (wB_u hw1 (by show (-2147483648 : Int) ≤ _ ∧ _ ≤ (2147483647 : Int); omega)) (by show (0 : Int) ≤ _ ∧ _ ≤ (1 : Int); omega)) rfl (fun i _ _ => rfl) (fun i _ _ => by omega)
  refine z_widen (k' := (10 + 40 * (0 : Int).toNat)) (n' := (100 + 9000 * (0 : Int).toNat)) (by omega) (by omega) ?_
  exact lp21 _ 0 0 (fun _ => 0) a0 σ3 hh1 (Nat.lt_succ_self _) (by omega) (fun k _ _ _ _ _ => rfl) hw3 hsb0 hxa0 (by omega) (fun i _ _ => by omega) iC_0
end LV17
