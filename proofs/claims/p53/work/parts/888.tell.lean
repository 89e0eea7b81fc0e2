/-! THE LAW tells the class the text that it has printed (laid by wip/p53/gen/gl888.py). -/
section LV18
/-- the class's state and the model's while the text is told -/
def gP (t : Nat) (B : Nat → Int → Nat) (κ : c_K) (A : Nat → Nat) (ρ : z_S) : Prop := gXX B κ A ∧ cJ B κ ∧ (cV κ ∧ cS κ) ∧ jJ t κ ρ
theorem sbS_bk {B B' : Nat → Int → Nat} {κ κ' : c_K} {A : Nat → Nat} {h h' : z_H} {b a : Nat} {n : Int} {f : Int → Int} (hs : sbS h b a n f) (hb : sbX B κ A b) (ha : sbX B κ A a) (hP : ∀ x c, h x = some c → (∀ t i, cL κ t i → B t i ≠ x) → (∀ k ∈ lK, A k ≠ x) → h' x = some c ∧ ∀ t i, cL κ' t i → B' t i ≠ x) : sbS h' b a n f ∧ sbX B' κ' A b ∧ sbX B' κ' A a := by
  obtain ⟨ml, N, g, h1, h2, h3⟩ := hs
  have p1 := hP b _ h1 hb.1 hb.2
  have p2 := hP a _ h2 ha.1 ha.2
  exact ⟨⟨ml, N, g, p1.1, p2.1, h3⟩, ⟨p1.2, hb.2⟩, ⟨p2.2, ha.2⟩⟩
theorem gS_told {t : Nat} {m : Int} {o : Prop} {B B' : Nat → Int → Nat} {κ κ' : c_K} {A : Nat → Nat} {ρ ρ2 σ σ1 : z_S} {C : Int} (h : gS t m o B κ A ρ σ) (hF : ∀ k, k ≠ 0 → k ≠ 6 → k ≠ 20 → k ≠ 4 → k ≠ 8 → k ≠ 15 → σ1 k = σ k) (hw : wB σ1) (hC : σ1 15 0 = C) (ht : ∀ q, q ≠ 1 → q ≠ 2 → ρ2 q = ρ q) (e13 : (yRo ρ2).2 13 0 = C) (e9 : ∀ i, 0 ≤ i → i < 4 * C → (yRo ρ2).2 9 i = σ1 4 i) (e11 : ∀ j, 0 ≤ j → j < C → (yRo ρ2).2 11 j = σ1 8 j) (hX : gXX B' κ' A) (hJ : cJ B' κ') (hV : cV κ' ∧ cS κ') (hj : jJ t κ' (ySo ρ2)) : gS t m True B' κ' A (ySo ρ2) σ1 := by
  obtain ⟨-, -, -, -, hL, -, hp, -, -⟩ := h
  have F : ∀ k, (k ≠ 0 ∧ k ≠ 6 ∧ k ≠ 20 ∧ k ≠ 4 ∧ k ≠ 8 ∧ k ≠ 15) → σ1 k = σ k := fun k ⟨a, b, c, d, e, f⟩ => hF k a b c d e f
  have yk : ∀ k, (k ≠ 1 ∧ k ≠ 2 ∧ k ≠ 3 ∧ k ≠ 4 ∧ k ≠ 5 ∧ k ≠ 6 ∧ k ≠ 7 ∧ k ≠ 8 ∧ k ≠ 9 ∧ k ≠ 10 ∧ k ≠ 11 ∧ k ≠ 12 ∧ k ≠ 13) → ySo ρ2 k = ρ k := fun k hk => by
    unfold ySo
    rw [z_ur_ne (by omega), z_ur_ne (by omega), z_u_ne (by omega), z_u_ne (by omega), z_u_ne (by omega), yRo_o _ (by omega)]
    exact ht k (by omega) (by omega)
  refine ⟨hX, hJ, hV, hj, ?_, hw, ?_, fun _ => ⟨?_, fun j j0 j1 => ?_, fun c c0 c1 => ?_⟩, ?_⟩
  · unfold wL wLs wLe wLl wLg wLt at hL ⊢
    rw [yk 19 (by decide), yk 25 (by decide), yk 26 (by decide), yk 27 (by decide), yk 30 (by decide), yk 14 (by decide), yk 15 (by decide), yk 18 (by decide), yk 17 (by decide), yk 21 (by decide), yk 22 (by decide), yk 23 (by decide), yk 28 (by decide), yk 29 (by decide),
      F 14 (by decide), F 16 (by decide), F 17 (by decide), F 18 (by decide), F 19 (by decide), F 2 (by decide), F 3 (by decide), F 7 (by decide), F 5 (by decide), F 9 (by decide), F 10 (by decide), F 11 (by decide), F 12 (by decide), F 13 (by decide)]
    exact hL
  · rw [F 2 (by decide)]; exact hp
  · unfold ySo
    rw [z_ur_ne (by decide), z_ur_ne (by decide), z_u_at, e13, hC]
  · unfold ySo
    rw [z_ur_ne (by decide), z_ur_at]
    rw [hC] at j1
    show (if 0 ≤ j ∧ j < 4 * (yRo ρ2).2 13 0 then (yRo ρ2).2 9 j else _) = _
    rw [e13, if_pos ⟨j0, j1⟩]
    exact e9 j j0 j1
  · unfold ySo
    rw [z_ur_at]
    rw [hC] at c1
    show (if 0 ≤ c ∧ c < (yRo ρ2).2 13 0 then (yRo ρ2).2 11 c else _) = _
    rw [e13, if_pos ⟨c0, c1⟩]
    exact e11 c c0 c1
  · unfold ySo
    rw [z_ur_ne (by decide), z_ur_ne (by decide), z_u_ne (by decide)]
    exact z_u_at
theorem la_ord2 {Y : z_Y} {D : Nat} {B : Nat → Int → Nat} {κ : c_K} {A : Nat → Nat} {ρ σ σ1 : z_S} {h1 : z_H} {t : Nat} {m : Int} {o : Prop} {b a : Nat} {n C : Int} {f : Int → Int} (hY : z_ok Y 10 mL_isOrdered) (hmc : z_mc Y = 400) (hms : z_ms Y = 40000) (hφ : z_φ Y = fun v h' => ∃ (κ' : c_K) (B' : Nat → Int → Nat) (ρ' σ' : z_S) (h2 : z_H), v = some (z_i 1) ∧ gS t m True B' κ' A ρ' σ' ∧ σ' 14 0 = σ 14 0 ∧ h' = gH D B' κ' A σ' h2) (hG : z_OK (z_gg Y)) (hD : D = z_dc (z_gg Y)) (hM : z_MI (z_gg Y)) (hSB : z_SB (z_gg Y)) (hI : gS t m o B κ A ρ σ) (hF1 : ∀ k, k ≠ 0 → k ≠ 6 → k ≠ 20 → k ≠ 4 → k ≠ 8 → k ≠ 15 → σ1 k = σ k) (hw1 : wB σ1) (hC : σ1 15 0 = C ∧ 1 ≤ C ∧ C ≤ 4) (hsb : sbS h1 b a n f) (hxb : sbX B κ A b) (hxa : sbX B κ A a) (hn : 0 ≤ n ∧ n ≤ 72) (hfb : ∀ i, 0 ≤ i → i < n → 1 ≤ f i ∧ f i ≤ 127) (hiC : iC f n C (σ1 4) (σ1 8)) : z_W Y 288 [(0, .ref (A 40)), (1, .ref b)] [] (gH D B κ A σ1 h1) 200 37000 := by
  have hXX := gS_X hI
  refine z_const hY eL_isOrdered_288 ?_
  refine z_istore hY eL_isOrdered_289 (ls' := [(2, z_i 0), (0, .ref (A 40)), (1, .ref b)]) rfl ?_
  refine z_const hY eL_isOrdered_290 ?_
  refine z_istore hY eL_isOrdered_291 (ls' := [(3, z_i 0), (2, z_i 0), (0, .ref (A 40)), (1, .ref b)]) rfl ?_
  refine z_sub [2, 3, 0, 1] (ls' := [(0, .ref (A 40)), (1, .ref b), (3, z_i 0), (2, z_i 0)]) rfl ?_
  have lp292 : ∀ (fu : Nat) (k : Int) (g : Int) (p : Int) (κ2 : c_K) (B2 : Nat → Int → Nat) (ρ2 : z_S) (h2 : z_H), (n - k).toNat < fu → (0 ≤ k ∧ k ≤ n + 3) → (g = p ∧ ((p = k ∧ k ≤ n) ∨ (p = n ∧ n ≤ k))) → (gP t B2 κ2 A ρ2) → (tpR ρ ρ2 f p) → (sbS h2 b a n f) → (sbX B2 κ2 A b) → (sbX B2 κ2 A a) → z_W Y 292 [(0, .ref (A 40)), (1, .ref b), (3, z_i k), (2, z_i g)] [] (gH D B2 κ2 A σ1 h2) (200 + k.toNat) (37000 + 10 * k.toNat) := by
    intro fu
    induction fu with
    | zero => intro k g p κ2 B2 ρ2 h2 hf; exact absurd hf (Nat.not_lt_zero _)
    | succ fu ih292 =>
      intro k g p κ2 B2 ρ2 h2 hf hk hg hP2 htp hsb2 hxb2 hxa2
      refine z_iload hY eL_isOrdered_292 2 rfl ?_
      refine z_aload hY eL_isOrdered_293 1 rfl ?_
      have hup294 := sbS_up (D := D) (σ := σ1) hsb2 hxb2 hxa2
      refine z_callVr (As := []) (rest := [z_i k]) (r := z_i n) hY eL_isOrdered_294 (sb_len hG hup294) (show gH D B2 κ2 A σ1 h2 b = some (z_ob 10 _) from hup294.choose_spec.choose_spec.choose_spec.1) (by decide) (Nat.le_of_ble_eq_true rfl) (by rw [hmc, hms]; omega) ?_
      refine z_icmpge hY eL_isOrdered_297 (by omega) (fun c297 => ?_) (fun c297 => ?_)
      · refine z_iload hY eL_isOrdered_363 3 rfl ?_
        refine z_aload hY eL_isOrdered_364 1 rfl ?_
        have hup365 := sbS_up (D := D) (σ := σ1) hsb2 hxb2 hxa2
        refine z_callVr (As := []) (rest := [z_i g]) (r := z_i n) hY eL_isOrdered_365 (sb_len hG hup365) (show gH D B2 κ2 A σ1 h2 b = some (z_ob 10 _) from hup365.choose_spec.choose_spec.choose_spec.1) (by decide) (Nat.le_of_ble_eq_true rfl) (by rw [hmc, hms]; omega) ?_
        refine z_icmpne hY eL_isOrdered_368 (by omega) (fun c368 => by exfalso; omega) (fun c368 => ?_)
        refine z_aload hY eL_isOrdered_371 0 rfl ?_
        refine g_gf hY hP2.1 eL_isOrdered_372 (v := .ref (B2 0 0)) rfl ?_
        obtain ⟨hX2, hJ2, ⟨hV2, hS2⟩, hj2⟩ := hP2
        obtain ⟨hOO, h01⟩ := mO_ro hj2
        have h01q : (yRo ρ2).1 = 0 ∨ (yRo ρ2).1 = 1 := by omega
        have htpe := hj2.V.2.2.2.2.2.2.2.2.2.2.2.2.2.1
        have hpn : ρ2 2 0 = n := by have z := htp.2.1; omega
        obtain ⟨y1, y13, y9, y11⟩ := iC_end hiC hC.2 (⟨by omega, fun i i0 i1 => htp.2.2 i i0 (by omega)⟩ : tpA f n ρ2) hpn
        refine z_callV (As := []) (rest := []) hY eL_isOrdered_375 (q_setOrder (D := D) (h := lH A (B2 0 0) σ1 h2) hG hD hM hJ2 hS2.b hV2 hS2 hj2.1.t htpe (hj2.B 6 0) hOO.2.2.2.1 hOO.2.2.1 h01q) (cH_at (t := 0) (i := 0) hJ2 (by omega)) (by decide) (Nat.le_of_ble_eq_true rfl) (by rw [hmc, hms]; omega) (fun E9 h9 q => by obtain ⟨-, q, -⟩ := q; exfalso; omega) (fun vv9 hh9 q9 => ?_)
        obtain ⟨yne, rfl, κ3, B3, h3, rfl, hc3, κr, k1, k2, k3, k4, k5⟩ := q9
        obtain ⟨hgb3, hgX3, hgP3⟩ := gH_back (D := D) hX2 hc3
        refine z_heq hgb3 ?_
        have hj3 := jJ_order hj2 hV2 hS2 k1 k2 k3 k4 yne k5
        have hI3 := gS_told hI hF1 hw1 hC.1 htp.1 y13 y9 y11 hgX3 hc3.1 hc3.2.1 hj3
        refine z_top (b := C) y13 ?_
        refine z_aload hY eL_isOrdered_378 0 rfl ?_
        have hb1 := hw1.s15 0
        refine g_gf hY hgX3 eL_isOrdered_379 (v := z_i (σ1 15 0)) rfl ?_
        refine z_icmpne hY eL_isOrdered_382 (by omega) (fun c382 => by exfalso; omega) (fun c382 => ?_)
        refine z_aload hY eL_isOrdered_385 0 rfl ?_
        refine g_gf hY hgX3 eL_isOrdered_386 (v := .ref (B3 0 0)) rfl ?_
        refine z_callV (As := []) (rest := []) hY eL_isOrdered_389 (q_errorPosition (D := D) (h := lH A (B3 0 0) σ1 h3) hG (gS_J hI3) (gS_B hI3) (gS_V hI3) (gS_S hI3) ) (cH_at (t := 0) (i := 0) (gS_J hI3) (by omega)) (by decide) (Nat.le_of_ble_eq_true rfl) (by rw [hmc, hms]; omega) (fun _ _ q => q.elim) (fun vv3 hh3 q3 => ?_)
        obtain ⟨rfl, rfl⟩ := q3
        refine z_heq (show _ = gH D B3 κ3 A σ1 h3 from rfl) ?_
        refine z_top (b := -1) ((gS_R hI3).a.1.trans (by unfold ySo; rw [z_ur_ne (by decide), z_ur_ne (by decide), z_u_ne (by decide), z_u_ne (by decide)]; exact z_u_at)) ?_
        refine z_const hY eL_isOrdered_392 ?_
        refine z_icmpne hY eL_isOrdered_393 (by omega) (fun c393 => by exfalso; omega) (fun c393 => ?_)
        refine z_const hY eL_isOrdered_396 ?_
        refine z_goto hY eL_isOrdered_397 ?_
        exact z_zreturn hY eL_isOrdered_401 rfl (by omega) (by rw [hφ]; exact ⟨κ3, B3, ySo ρ2, σ1, h3, rfl, hI3, congrFun (hF1 14 (by decide) (by decide) (by decide) (by decide) (by decide) (by decide)) 0, rfl⟩) (by rw [hmc, hms]; omega)
      · refine z_const hY eL_isOrdered_300 ?_
        refine z_istore hY eL_isOrdered_301 (ls' := [(4, z_i 0), (0, .ref (A 40)), (1, .ref b), (3, z_i k), (2, z_i g)]) rfl ?_
        refine z_iload hY eL_isOrdered_303 3 rfl ?_
        refine z_istore hY eL_isOrdered_304 (ls' := [(5, z_i k), (4, z_i 0), (0, .ref (A 40)), (1, .ref b), (3, z_i k), (2, z_i g)]) rfl ?_
        refine z_sub [2, 3, 5, 4, 0, 1] (ls' := [(0, .ref (A 40)), (1, .ref b), (2, z_i g), (3, z_i k), (5, z_i k), (4, z_i 0)]) rfl ?_
        have lp306 : ∀ (fu : Nat) (i : Int) (v : Int), (n - i).toNat < fu → (k ≤ i ∧ i ≤ n ∧ i ≤ k + 4) → (wd4 f k i v) → z_W Y 306 [(0, .ref (A 40)), (1, .ref b), (2, z_i g), (3, z_i k), (5, z_i i), (4, z_i v)] [] (gH D B2 κ2 A σ1 h2) (200 + k.toNat) (37000 + 10 * k.toNat) := by
          intro fu
          induction fu with
          | zero => intro i v hf; exact absurd hf (Nat.not_lt_zero _)
          | succ fu ih306 =>
            intro i v hf hi hwd
            refine z_iload hY eL_isOrdered_306 4 rfl ?_
            refine z_iload hY eL_isOrdered_308 3 rfl ?_
            refine z_const hY eL_isOrdered_309 ?_
            refine z_iadd hY eL_isOrdered_310 ?_
            refine z_icmpge hY eL_isOrdered_311 (by omega) (fun c311 => ?_) (fun c311 => ?_)
            · refine z_aload hY eL_isOrdered_343 0 rfl ?_
              refine g_gf hY hP2.1 eL_isOrdered_344 (v := .ref (B2 0 0)) rfl ?_
              refine z_iload hY eL_isOrdered_347 5 rfl ?_
              refine z_const hY eL_isOrdered_349 ?_
              refine z_const hY eL_isOrdered_350 ?_
              refine z_const hY eL_isOrdered_351 ?_
              refine z_const hY eL_isOrdered_352 ?_
              obtain ⟨hX2, hJ2, ⟨hV2, hS2⟩, hj2⟩ := hP2
              have hwb := wd4_b hwd hfb (by omega) (by omega)
              obtain ⟨htp3, hby⟩ := tp_4 ((show p = k by omega) ▸ htp) hwd hfb (by omega) (by omega)
              have hk5 := hj2.1.t.1
              have hp2 := htp.2.1
              have hy0 := yBy_0
              refine z_callV (As := [z_i v, z_i 0, z_i 0, z_i 0, z_i 0]) (rest := []) hY eL_isOrdered_353 (q_append (D := D) (h := lH A (B2 0 0) σ1 h2) hG hD hM hJ2 hS2.b hV2 hS2 (a := v) (b := 0) (c := 0) (k := 0) (e := 0) (by omega) (by omega) (by omega) (by omega) (by omega)) (cH_at (t := 0) (i := 0) hJ2 (by omega)) (by decide) (Nat.le_of_ble_eq_true rfl) (by rw [hmc, hms]; omega) (fun E9 h9 q => by obtain ⟨-, q⟩ := q; exfalso; omega) (fun vv9 hh9 q9 => ?_)
              obtain ⟨-, rfl, κ3, B3, h3, rfl, hc3, hrel3⟩ := q9
              obtain ⟨hgb3, hgX3, hgP3⟩ := gH_back (D := D) hX2 hc3
              refine z_heq hgb3 ?_
              have hj3 : jJ t κ3 (yTk ρ2 v) := by have z := jJ_T5 hj2 (a := v) (b := 0) (k := 0) (d := 0) (e := 0) (by omega); rw [yTk_00, yTk_00, yTk_00, yTk_00] at z; rw [hrel3]; exact z
              obtain ⟨hsb3, hxb3, hxa3⟩ := sbS_bk hsb2 hxb2 hxa2 hgP3
              have hP3 : gP t B3 κ3 A (yTk ρ2 v) := ⟨hgX3, hc3.1, hc3.2.1, hj3⟩
              refine z_top (b := i) (by omega) ?_
              refine z_istore hY eL_isOrdered_356 (ls' := [(2, z_i i), (0, .ref (A 40)), (1, .ref b), (3, z_i k), (5, z_i i), (4, z_i v)]) rfl ?_
              refine z_iinc hY eL_isOrdered_357 3 rfl (ls' := [(3, z_i (k + 4)), (2, z_i i), (0, .ref (A 40)), (1, .ref b), (5, z_i i), (4, z_i v)]) rfl ?_
              refine z_goto hY eL_isOrdered_360 ?_
              refine z_sub [2, 3, 0, 1] (ls' := [(0, .ref (A 40)), (1, .ref b), (3, z_i (k + 4)), (2, z_i i)]) rfl ?_
              refine z_widen (k' := (200 + (k + 4).toNat)) (n' := (37000 + 10 * (k + 4).toNat)) (by omega) (by omega) ?_
              exact ih292 (k + 4) i i κ3 B3 (yTk ρ2 v) h3 (by omega) (by omega) (by omega) hP3 htp3 hsb3 hxb3 hxa3
            · refine z_iload hY eL_isOrdered_314 4 rfl ?_
              refine z_aload hY eL_isOrdered_316 1 rfl ?_
              have hup317 := sbS_up (D := D) (σ := σ1) hsb2 hxb2 hxa2
              refine z_callVr (As := []) (rest := [z_i i]) (r := z_i n) hY eL_isOrdered_317 (sb_len hG hup317) (show gH D B2 κ2 A σ1 h2 b = some (z_ob 10 _) from hup317.choose_spec.choose_spec.choose_spec.1) (by decide) (Nat.le_of_ble_eq_true rfl) (by rw [hmc, hms]; omega) ?_
              refine z_icmpge hY eL_isOrdered_320 (by omega) (fun c320 => ?_) (fun c320 => ?_)
              · refine z_aload hY eL_isOrdered_343 0 rfl ?_
                refine g_gf hY hP2.1 eL_isOrdered_344 (v := .ref (B2 0 0)) rfl ?_
                refine z_iload hY eL_isOrdered_347 5 rfl ?_
                refine z_const hY eL_isOrdered_349 ?_
                refine z_const hY eL_isOrdered_350 ?_
                refine z_const hY eL_isOrdered_351 ?_
                refine z_const hY eL_isOrdered_352 ?_
                obtain ⟨hX2, hJ2, ⟨hV2, hS2⟩, hj2⟩ := hP2
                have hwb := wd4_b hwd hfb (by omega) (by omega)
                obtain ⟨htp3, hby⟩ := tp_4 ((show p = k by omega) ▸ htp) hwd hfb (by omega) (by omega)
                have hk5 := hj2.1.t.1
                have hp2 := htp.2.1
                have hy0 := yBy_0
                refine z_callV (As := [z_i v, z_i 0, z_i 0, z_i 0, z_i 0]) (rest := []) hY eL_isOrdered_353 (q_append (D := D) (h := lH A (B2 0 0) σ1 h2) hG hD hM hJ2 hS2.b hV2 hS2 (a := v) (b := 0) (c := 0) (k := 0) (e := 0) (by omega) (by omega) (by omega) (by omega) (by omega)) (cH_at (t := 0) (i := 0) hJ2 (by omega)) (by decide) (Nat.le_of_ble_eq_true rfl) (by rw [hmc, hms]; omega) (fun E9 h9 q => by obtain ⟨-, q⟩ := q; exfalso; omega) (fun vv9 hh9 q9 => ?_)
                obtain ⟨-, rfl, κ3, B3, h3, rfl, hc3, hrel3⟩ := q9
                obtain ⟨hgb3, hgX3, hgP3⟩ := gH_back (D := D) hX2 hc3
                refine z_heq hgb3 ?_
                have hj3 : jJ t κ3 (yTk ρ2 v) := by have z := jJ_T5 hj2 (a := v) (b := 0) (k := 0) (d := 0) (e := 0) (by omega); rw [yTk_00, yTk_00, yTk_00, yTk_00] at z; rw [hrel3]; exact z
                obtain ⟨hsb3, hxb3, hxa3⟩ := sbS_bk hsb2 hxb2 hxa2 hgP3
                have hP3 : gP t B3 κ3 A (yTk ρ2 v) := ⟨hgX3, hc3.1, hc3.2.1, hj3⟩
                refine z_top (b := i) (by omega) ?_
                refine z_istore hY eL_isOrdered_356 (ls' := [(2, z_i i), (0, .ref (A 40)), (1, .ref b), (3, z_i k), (5, z_i i), (4, z_i v)]) rfl ?_
                refine z_iinc hY eL_isOrdered_357 3 rfl (ls' := [(3, z_i (k + 4)), (2, z_i i), (0, .ref (A 40)), (1, .ref b), (5, z_i i), (4, z_i v)]) rfl ?_
                refine z_goto hY eL_isOrdered_360 ?_
                refine z_sub [2, 3, 0, 1] (ls' := [(0, .ref (A 40)), (1, .ref b), (3, z_i (k + 4)), (2, z_i i)]) rfl ?_
                refine z_widen (k' := (200 + (k + 4).toNat)) (n' := (37000 + 10 * (k + 4).toNat)) (by omega) (by omega) ?_
                exact ih292 (k + 4) i i κ3 B3 (yTk ρ2 v) h3 (by omega) (by omega) (by omega) hP3 htp3 hsb3 hxb3 hxa3
              · refine z_iload hY eL_isOrdered_323 5 rfl ?_
                refine z_const hY eL_isOrdered_325 ?_
                have hwb := wd4_b hwd hfb (by omega) (by omega)
                refine z_ishl8 hY eL_isOrdered_327 (by omega) ?_
                refine z_aload hY eL_isOrdered_328 1 rfl ?_
                refine z_iload hY eL_isOrdered_329 4 rfl ?_
                have hup331 := sbS_up (D := D) (σ := σ1) hsb2 hxb2 hxa2
                have hfi := hfb i (by omega) (by omega)
                refine z_callVr (As := [z_i i]) (rest := [z_i (v * 256)]) (r := z_i (f i)) hY eL_isOrdered_331 (sb_char hG hSB hup331 (i := i) (by omega) (by omega)) (show gH D B2 κ2 A σ1 h2 b = some (z_ob 10 _) from hup331.choose_spec.choose_spec.choose_spec.1) (by decide) (Nat.le_of_ble_eq_true rfl) (by rw [hmc, hms]; omega) ?_
                refine z_ior8 hY eL_isOrdered_334 (by omega) (by omega) ?_
                refine z_istore hY eL_isOrdered_335 (ls' := [(4, z_i (v * 256 + f i)), (0, .ref (A 40)), (1, .ref b), (2, z_i g), (3, z_i k), (5, z_i i)]) rfl ?_
                refine z_iinc hY eL_isOrdered_337 5 rfl (ls' := [(5, z_i (i + 1)), (4, z_i (v * 256 + f i)), (0, .ref (A 40)), (1, .ref b), (2, z_i g), (3, z_i k)]) rfl ?_
                refine z_goto hY eL_isOrdered_340 ?_
                refine z_sub [2, 3, 4, 5, 0, 1] (ls' := [(0, .ref (A 40)), (1, .ref b), (2, z_i g), (3, z_i k), (5, z_i (i + 1)), (4, z_i (v * 256 + f i))]) rfl ?_
                exact ih306 (i + 1) (v * 256 + f i) (by omega) (by omega) (wd4_s hwd (by omega))
        exact lp306 _ k 0 (Nat.lt_succ_self _) (by omega) (Or.inl ⟨rfl, rfl⟩)
  refine z_widen (k' := (200 + (0 : Int).toNat)) (n' := (37000 + 10 * (0 : Int).toNat)) (by omega) (by omega) ?_
  exact lp292 _ 0 0 0 κ B ρ h1 (Nat.lt_succ_self _) (by omega) (by omega) ⟨gS_X hI, gS_J hI, ⟨gS_V hI, gS_S hI⟩, gS_j hI⟩ ⟨fun _ _ _ => rfl, gS_tp hI, fun i i0 i1 => by omega⟩ hsb hxb hxa
end LV18
