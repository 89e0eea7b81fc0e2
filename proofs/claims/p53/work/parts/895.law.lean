/-! THE LAW (laid by wip/p53/gen/gl895.py). -/
section LV16
theorem gS_o {t : Nat} {m : Int} {o o' : Prop} {B : Nat → Int → Nat} {κ : c_K} {A : Nat → Nat} {ρ σ : z_S} (h : gS t m o' B κ A ρ σ) (ho : o → o') : gS t m o B κ A ρ σ :=
  ⟨h.1, h.2.1, h.2.2.1, h.2.2.2.1, h.2.2.2.2.1, h.2.2.2.2.2.1, h.2.2.2.2.2.2.1, fun q => gS_O h (ho q), gS_tp h⟩
theorem la_law2 {Y : z_Y} {D : Nat} {B : Nat → Int → Nat} {κ : c_K} {A : Nat → Nat} {ρ σ : z_S} {h : z_H} {o : Prop} (hY : z_ok Y 11 mL_law) (hmc : z_mc Y = 400000) (hms : z_ms Y = 5000000) (hφ : z_φ Y = fun v _ => v = some (z_i 1)) (hG : z_OK (z_gg Y)) (hD : D = z_dc (z_gg Y)) (hM : z_MI (z_gg Y)) (hSB : z_SB (z_gg Y)) (ho : o) (hI : gS 9 0 o B κ A ρ σ) (hn0 : 1 ≤ σ 14 0) : z_W Y 53 [(1, .ref (A 40))] [] (gH D B κ A σ h) (20000) (70000) := by
  refine z_const hY eL_law_53 ?_
  refine z_istore hY eL_law_54 (ls' := [(2, z_i 0), (1, .ref (A 40))]) rfl ?_
  refine z_sub [1, 0] (ls' := [(1, .ref (A 40)), (2, z_i 0)]) rfl ?_
  have lp55 : ∀ (fu : Nat) (k : Int) (κ2 : c_K) (B2 : Nat → Int → Nat) (ρ2 : z_S) (σ2 : z_S) (h2 : z_H), (60 - k).toNat < fu → (0 ≤ k ∧ k ≤ 60) → (gS (9 + 4 * k.toNat) (1000 * k) o B2 κ2 A ρ2 σ2) → (1 ≤ σ2 14 0) → z_W Y 55 [(1, .ref (A 40)), (2, z_i k)] [] (gH D B2 κ2 A σ2 h2) (1200 * k.toNat + 20000) (45000 * k.toNat + 70000) := by
    intro fu
    induction fu with
    | zero => intro k κ2 B2 ρ2 σ2 h2 hf; exact absurd hf (Nat.not_lt_zero _)
    | succ fu ih55 =>
      intro k κ2 B2 ρ2 σ2 h2 hf hk hI2 hn2
      have rest263 : ∀ (κ1 : c_K) (B1 : Nat → Int → Nat) (ρ1 σ1 : z_S) (h1 : z_H) , (gS (9 + 4 * k.toNat + 4) (1000 * k + 1000) o B1 κ1 A ρ1 σ1) → (1 ≤ σ1 14 0) → (k < 60) → z_W Y 263 [(1, .ref (A 40)), (2, z_i k), (5, z_i 1)] [] (gH D B1 κ1 A σ1 h1) (1200 * k.toNat + 20700) (45000 * k.toNat + 110500) := by
        intro κ1 B1 ρ1 σ1 h1  hI1 hn1 hk60
        refine z_iload hY eL_law_263 2 rfl ?_
        refine z_ifeq hY eL_law_265 (by omega) (fun c => absurd c (by omega)) (fun _ => ?_)
        refine z_iload hY eL_law_268 1 rfl ?_
        refine z_const hY eL_law_269 ?_
        refine z_irem hY eL_law_270 (by omega) ?_
        refine z_ifne hY eL_law_271 (by omega) (fun c271 => ?_) (fun c271 => ?_)
        · refine z_iinc hY eL_law_290 1 rfl (ls' := [(2, z_i (k + 1)), (1, .ref (A 40)), (5, z_i 1)]) rfl ?_
          refine z_goto hY eL_law_293 ?_
          refine z_sub [1, 0] (ls' := [(1, .ref (A 40)), (2, z_i (k + 1))]) rfl ?_
          refine z_widen (k' := (1200 * (k + 1).toNat + 20000)) (n' := (45000 * (k + 1).toNat + 70000)) (by omega) (by omega) ?_
          exact ih55 (k + 1) κ1 B1 ρ1 σ1 h1 (by omega) (by omega) (gS_t (gS_m hI1 (by omega)) (by omega)) (by omega)
        · refine z_aload hY eL_law_274 0 rfl ?_
          refine z_callV (As := []) (rest := []) hY eL_law_275 (la_isStanding hG hI1 ho) ((gH_at (gS_X hI1) (by decide)).trans (congrArg some lC_40)) (by decide) (Nat.le_of_ble_eq_true rfl) (by rw [hmc, hms]; omega) (fun _ _ q => q.elim) (fun vv22 hh22 q22 => ?_)
          obtain ⟨σ21, rfl, hI21, hE21, rfl⟩ := q22
          have hn14_21 : σ21 14 0 = σ1 14 0 := (congrFun (hE21 14 (by decide) (by decide) (by decide)) 0).trans rfl
          refine z_ifeq hY eL_law_278 (by omega) (fun c => absurd c (by omega)) (fun _ => ?_)
          refine z_aload hY eL_law_281 0 rfl ?_
          refine z_callV (As := []) (rest := []) hY eL_law_282 (la_arePoints hG hI21 ) ((gH_at (gS_X hI21) (by decide)).trans (congrArg some lC_40)) (by decide) (Nat.le_of_ble_eq_true rfl) (by rw [hmc, hms]; omega) (fun _ _ q => q.elim) (fun vv24 hh24 q24 => ?_)
          obtain ⟨σ23, rfl, hI23, hE23, rfl⟩ := q24
          have hn14_23 : σ23 14 0 = σ21 14 0 := (congrFun (hE23 14 (by decide) (by decide) (by decide)) 0).trans rfl
          refine z_ifne hY eL_law_285 (by omega) (fun _ => ?_) (fun c => absurd c (by omega))
          refine z_iinc hY eL_law_290 1 rfl (ls' := [(2, z_i (k + 1)), (1, .ref (A 40)), (5, z_i 1)]) rfl ?_
          refine z_goto hY eL_law_293 ?_
          refine z_sub [1, 0] (ls' := [(1, .ref (A 40)), (2, z_i (k + 1))]) rfl ?_
          refine z_widen (k' := (1200 * (k + 1).toNat + 20000)) (n' := (45000 * (k + 1).toNat + 70000)) (by omega) (by omega) ?_
          exact ih55 (k + 1) κ1 B1 ρ1 σ23 h1 (by omega) (by omega) (gS_t (gS_m hI23 (by omega)) (by omega)) (by omega)
      refine z_iload hY eL_law_55 1 rfl ?_
      refine z_const hY eL_law_56 ?_
      refine z_icmpge hY eL_law_58 (by omega) (fun c58 => ?_) (fun c58 => ?_)
      · refine z_aload hY eL_law_296 0 rfl ?_
        refine z_callV (As := []) (rest := []) hY eL_law_297 (la_isStanding hG hI2 ho) ((gH_at (gS_X hI2) (by decide)).trans (congrArg some lC_40)) (by decide) (Nat.le_of_ble_eq_true rfl) (by rw [hmc, hms]; omega) (fun _ _ q => q.elim) (fun vv26 hh26 q26 => ?_)
        obtain ⟨σ25, rfl, hI25, hE25, rfl⟩ := q26
        have hn14_25 : σ25 14 0 = σ2 14 0 := (congrFun (hE25 14 (by decide) (by decide) (by decide)) 0).trans rfl
        refine z_ifeq hY eL_law_300 (by omega) (fun c => absurd c (by omega)) (fun _ => ?_)
        refine z_aload hY eL_law_303 0 rfl ?_
        refine z_callV (As := []) (rest := []) hY eL_law_304 (la_arePoints hG hI25 ) ((gH_at (gS_X hI25) (by decide)).trans (congrArg some lC_40)) (by decide) (Nat.le_of_ble_eq_true rfl) (by rw [hmc, hms]; omega) (fun _ _ q => q.elim) (fun vv28 hh28 q28 => ?_)
        obtain ⟨σ27, rfl, hI27, hE27, rfl⟩ := q28
        have hn14_27 : σ27 14 0 = σ25 14 0 := (congrFun (hE27 14 (by decide) (by decide) (by decide)) 0).trans rfl
        refine z_ifeq hY eL_law_307 (by omega) (fun c => absurd c (by omega)) (fun _ => ?_)
        refine z_aload hY eL_law_310 0 rfl ?_
        refine z_callV (As := []) (rest := []) hY eL_law_311 (la_areForms hG hD hM hI27 ho) ((gH_at (gS_X hI27) (by decide)).trans (congrArg some lC_40)) (by decide) (Nat.le_of_ble_eq_true rfl) (by rw [hmc, hms]; omega) (fun _ _ q => q.elim) (fun vv30 hh30 q30 => ?_)
        obtain ⟨κ29, B29, ρ29, σ29, h29, rfl, hI29, hn14_29, rfl⟩ := q30
        have hn15_29 : σ27 14 0 = σ27 14 0 := rfl
        refine z_ifeq hY eL_law_314 (by omega) (fun c => absurd c (by omega)) (fun _ => ?_)
        refine z_aload hY eL_law_317 0 rfl ?_
        refine z_callV (As := []) (rest := []) hY eL_law_318 (la_areApart hG hD hM hI29 ho) ((gH_at (gS_X hI29) (by decide)).trans (congrArg some lC_40)) (by decide) (Nat.le_of_ble_eq_true rfl) (by rw [hmc, hms]; omega) (fun _ _ q => q.elim) (fun vv32 hh32 q32 => ?_)
        obtain ⟨κ31, B31, ρ31, σ31, h31, rfl, hI31, hn14_31, rfl⟩ := q32
        have hn15_31 : σ29 14 0 = σ29 14 0 := rfl
        refine z_ifeq hY eL_law_321 (by omega) (fun c => absurd c (by omega)) (fun _ => ?_)
        refine z_aload hY eL_law_324 0 rfl ?_
        refine z_callVH (M' := mL_areGroups) (hh := hL_areGroups) (As := []) (rest := []) hY ⟨eL_law_325.1, w6_234, tL_areGroups, vL_areGroups⟩ (la_areGroups hG hD hM hI31 ho) ((gH_at (gS_X hI31) (by decide)).trans (congrArg some lC_40)) (by decide) (Nat.le_of_ble_eq_true rfl) (by rw [hmc, hms]; omega) (fun vv33 hh33 q33 => ?_)
        obtain ⟨κ33, B33, ρ33, σ33, h33, rfl, hI33, hn14_33, rfl⟩ := q33
        refine z_ifeq hY eL_law_328 (by omega) (fun c => absurd c (by omega)) (fun _ => ?_)
        refine z_aload hY eL_law_331 0 rfl ?_
        refine g_gf hY (gS_X hI33) eL_law_332 (v := .ref (B33 0 0)) rfl ?_
        refine z_callV (As := []) (rest := []) hY eL_law_335 (q_errors (D := D) (h := lH A (B33 0 0) σ33 h33) hG (gS_J hI33) (gS_B hI33) (gS_V hI33) (gS_S hI33)) (cH_at (t := 0) (i := 0) (gS_J hI33) (by omega)) (by decide) (Nat.le_of_ble_eq_true rfl) (by rw [hmc, hms]; omega) (fun _ _ q => q.elim) (fun vv35 hh35 q35 => ?_)
        obtain ⟨κ34, hEt34, rfl, rfl⟩ := q35
        have hI34 := gS_Et hI33 hEt34
        refine z_top (b := 0) (by rw [(gS_R hI33).aWl (gS_M hI33) (gS_S hI33), (gS_R hI34).aWp (gS_M hI34), (gS_R hI34).aWm (gS_M hI34), (gS_R hI34).aWm (gS_M hI34)]; rfl) ?_
        refine z_heq (show _ = gH D B33 κ34 A σ33 h33 from rfl) ?_
        refine z_ifne hY eL_law_338 (by omega) (fun c => absurd c (by omega)) (fun _ => ?_)
        refine z_const hY eL_law_341 ?_
        refine z_goto hY eL_law_342 ?_
        exact z_zreturn hY eL_law_346 rfl (by omega) (by rw [hφ]; try rfl) (by rw [hmc, hms]; omega)
      · refine z_aload hY eL_law_61 0 rfl ?_
        refine z_const hY eL_law_62 ?_
        refine z_callV (As := [z_i 24]) (rest := []) hY eL_law_64 (la_next (B := B2) (κ := κ2) (σ := σ2) hG (gS_X hI2) (n := 24) (by omega)) ((gH_at (gS_X hI2) (by decide)).trans (congrArg some lC_40)) (by decide) (Nat.le_of_ble_eq_true rfl) (by rw [hmc, hms]; omega) (fun _ _ q => q.elim) (fun vv37 hh37 q37 => ?_)
        obtain ⟨r36, X36, rfl, hr36, hX36, rfl⟩ := q37
        refine z_istore hY eL_law_67 (ls' := [(3, z_i r36), (1, .ref (A 40)), (2, z_i k)]) rfl ?_
        refine z_aload hY eL_law_68 1 rfl ?_
        have hu14 : (z_u σ2 0 0 X36) 14 0 = σ2 14 0 := rfl
        refine z_callV (As := []) (rest := []) hY eL_law_69 (la_anyone hG (gS_E hI2 (wE_u wE_r (by decide)) (wB_u (gS_b hI2) (by show (-2147483648 : Int) ≤ _ ∧ _ ≤ (2147483647 : Int); omega))) (by first | assumption | omega)) ((gH_at (gS_X hI2) (by decide)).trans (congrArg some lC_40)) (by decide) (Nat.le_of_ble_eq_true rfl) (by rw [hmc, hms]; omega) (fun _ _ q => q.elim) (fun vv39 hh39 q39 => ?_)
        obtain ⟨r38, X38, rfl, hr38, hX38, rfl⟩ := q39
        have hI400 : gS (9 + 4 * k.toNat) (1000 * k) o B2 κ2 A ρ2 (z_u (z_u σ2 0 0 X36) 0 0 X38) := (gS_E hI2 (wE_u (wE_u wE_r (by decide)) (by decide)) (wB_u (wB_u (gS_b hI2) (by show (-2147483648 : Int) ≤ _ ∧ _ ≤ (2147483647 : Int); omega)) (by show (-2147483648 : Int) ≤ _ ∧ _ ≤ (2147483647 : Int); omega)))
        obtain ⟨σ4, hs40⟩ : ∃ qq, qq = z_u (z_u σ2 0 0 X36) 0 0 X38 := ⟨_, rfl⟩
        refine z_heq (congrArg (fun q => gH D B2 κ2 A q h2) hs40.symm) ?_
        rw [← hs40] at hI400
        have hn14_40 : σ4 14 0 = σ2 14 0 := by rw [hs40]; try rfl
        obtain ⟨e, he0⟩ : ∃ e : Int, e = r38 := ⟨_, rfl⟩
        refine z_top (b := e) he0.symm ?_
        have heb := (gS_b hI400).s14 0
        have hep : e = -1 ∨ pr ρ2 e := by rcases hr38 with q9 | q9; (left; omega); (right; exact (gS_pr hI400).mpr ⟨by omega, by omega, by rw [he0, hs40]; exact q9.2.2⟩)
        refine z_istore hY eL_law_72 (ls' := [(4, z_i e), (3, z_i r36), (1, .ref (A 40)), (2, z_i k)]) rfl ?_
        refine z_iload hY eL_law_74 1 rfl ?_
        refine z_ifeq hY eL_law_75 (by omega) (fun c75 => ?_) (fun c75 => ?_)
        · refine z_aload hY eL_law_84 2 rfl ?_
          have hQ41 : gS (9 + 4 * k.toNat) (1000 * k) o B2 κ2 A ρ2 σ4 := hI400
          have hqb41 := (gS_b hQ41).s14 0
          refine z_callV (As := []) (rest := []) hY eL_law_85 (la_hasCome hG hD hM hQ41 (by omega)) ((gH_at (gS_X hI400) (by decide)).trans (congrArg some lC_40)) (by decide) (Nat.le_of_ble_eq_true rfl) (by rw [hmc, hms]; omega) (fun _ _ q => q.elim) (fun vv42 hh42 q42 => ?_)
          obtain ⟨κ41, B41, ρ41, σ41, h41, rfl, hI41, hn14_41, rfl⟩ := q42
          have hn16_41 : 1 ≤ σ41 14 0 := by rw [hn14_41]; split <;> omega
          refine z_istore hY eL_law_88 (ls' := [(5, z_i 1), (4, z_i e), (3, z_i r36), (1, .ref (A 40)), (2, z_i k)]) rfl ?_
          refine z_goto hY eL_law_90 ?_
          refine z_sub [3, 4, 0] (ls' := [(1, .ref (A 40)), (2, z_i k), (5, z_i 1)]) rfl ?_
          have hJ43 : gS (9 + 4 * k.toNat + 4) (1000 * k + 1000) o B41 κ41 A ρ41 σ41 := gS_t (gS_m hI41 (by omega)) (by omega)
          refine z_widen (k' := 1200 * k.toNat + 20700) (n' := 45000 * k.toNat + 110500) (by omega) (by omega) ?_
          exact rest263 κ41 B41 ρ41 σ41 h41  hJ43 (by omega) (by omega)
        · refine z_iload hY eL_law_78 0 rfl ?_
          refine z_const hY eL_law_80 ?_
          refine z_icmpne hY eL_law_81 (by omega) (fun c81 => ?_) (fun c81 => ?_)
          · have hp := hep.resolve_left c81
            refine z_iload hY eL_law_93 1 rfl ?_
            refine z_const hY eL_law_94 ?_
            refine z_icmpne hY eL_law_95 (by omega) (fun c95 => ?_) (fun c95 => ?_)
            · refine z_iload hY eL_law_117 1 rfl ?_
              refine z_const hY eL_law_118 ?_
              refine z_icmpge hY eL_law_120 (by omega) (fun c120 => ?_) (fun c120 => ?_)
              · refine z_iload hY eL_law_134 1 rfl ?_
                refine z_const hY eL_law_135 ?_
                refine z_icmpge hY eL_law_137 (by omega) (fun c137 => ?_) (fun c137 => ?_)
                · refine z_iload hY eL_law_164 1 rfl ?_
                  refine z_const hY eL_law_165 ?_
                  refine z_icmpge hY eL_law_167 (by omega) (fun c167 => ?_) (fun c167 => ?_)
                  · refine z_iload hY eL_law_203 1 rfl ?_
                    refine z_const hY eL_law_204 ?_
                    refine z_icmpne hY eL_law_206 (by omega) (fun c206 => ?_) (fun c206 => ?_)
                    · refine z_iload hY eL_law_218 1 rfl ?_
                      refine z_const hY eL_law_219 ?_
                      refine z_icmpne hY eL_law_221 (by omega) (fun c221 => ?_) (fun c221 => ?_)
                      · refine z_aload hY eL_law_235 2 rfl ?_
                        refine z_callV (As := []) (rest := []) hY eL_law_236 (la_areForms hG hD hM hI400 ho) ((gH_at (gS_X hI400) (by decide)).trans (congrArg some lC_40)) (by decide) (Nat.le_of_ble_eq_true rfl) (by rw [hmc, hms]; omega) (fun _ _ q => q.elim) (fun vv45 hh45 q45 => ?_)
                        obtain ⟨κ44, B44, ρ44, σ44, h44, rfl, hI44, hn14_44, rfl⟩ := q45
                        have hn15_44 : σ4 14 0 = σ4 14 0 := rfl
                        refine z_ifeq hY eL_law_239 (by omega) (fun c => absurd c (by omega)) (fun _ => ?_)
                        refine z_aload hY eL_law_242 2 rfl ?_
                        refine z_callV (As := []) (rest := []) hY eL_law_243 (la_areApart hG hD hM hI44 ho) ((gH_at (gS_X hI44) (by decide)).trans (congrArg some lC_40)) (by decide) (Nat.le_of_ble_eq_true rfl) (by rw [hmc, hms]; omega) (fun _ _ q => q.elim) (fun vv47 hh47 q47 => ?_)
                        obtain ⟨κ46, B46, ρ46, σ46, h46, rfl, hI46, hn14_46, rfl⟩ := q47
                        have hn15_46 : σ44 14 0 = σ44 14 0 := rfl
                        refine z_ifeq hY eL_law_246 (by omega) (fun c => absurd c (by omega)) (fun _ => ?_)
                        refine z_aload hY eL_law_249 2 rfl ?_
                        refine z_callVH (M' := mL_areGroups) (hh := hL_areGroups) (As := []) (rest := []) hY ⟨eL_law_250.1, w6_234, tL_areGroups, vL_areGroups⟩ (la_areGroups hG hD hM hI46 ho) ((gH_at (gS_X hI46) (by decide)).trans (congrArg some lC_40)) (by decide) (Nat.le_of_ble_eq_true rfl) (by rw [hmc, hms]; omega) (fun vv48 hh48 q48 => ?_)
                        obtain ⟨κ48, B48, ρ48, σ48, h48, rfl, hI48, hn14_48, rfl⟩ := q48
                        refine z_ifeq hY eL_law_253 (by omega) (fun c => absurd c (by omega)) (fun _ => ?_)
                        refine z_const hY eL_law_256 ?_
                        refine z_goto hY eL_law_257 ?_
                        refine z_istore hY eL_law_261 (ls' := [(5, z_i 1), (4, z_i e), (3, z_i r36), (1, .ref (A 40)), (2, z_i k)]) rfl ?_
                        refine z_sub [3, 4, 0] (ls' := [(1, .ref (A 40)), (2, z_i k), (5, z_i 1)]) rfl ?_
                        have hJ49 : gS (9 + 4 * k.toNat + 4) (1000 * k + 1000) o B48 κ48 A ρ48 σ48 := gS_t (gS_m hI48 (by omega)) (by omega)
                        refine z_widen (k' := 1200 * k.toNat + 20700) (n' := 45000 * k.toNat + 110500) (by omega) (by omega) ?_
                        exact rest263 κ48 B48 ρ48 σ48 h48  hJ49 (by omega) (by omega)
                      · refine z_aload hY eL_law_224 2 rfl ?_
                        refine z_iload hY eL_law_225 0 rfl ?_
                        refine z_callV (As := [z_i e]) (rest := []) hY eL_law_227 (la_isNeeded hG hD hM hI400 hp (by omega) (by omega)) ((gH_at (gS_X hI400) (by decide)).trans (congrArg some lC_40)) (by decide) (Nat.le_of_ble_eq_true rfl) (by rw [hmc, hms]; omega) (fun _ _ q => q.elim) (fun vv51 hh51 q51 => ?_)
                        obtain ⟨κ50, B50, ρ50, σ50, h50, rfl, hI50, hn14_50, rfl⟩ := q51
                        have hn15_50 : σ4 14 0 = σ4 14 0 := rfl
                        refine z_istore hY eL_law_230 (ls' := [(5, z_i 1), (4, z_i e), (3, z_i r36), (1, .ref (A 40)), (2, z_i k)]) rfl ?_
                        refine z_goto hY eL_law_232 ?_
                        refine z_sub [3, 4, 0] (ls' := [(1, .ref (A 40)), (2, z_i k), (5, z_i 1)]) rfl ?_
                        have hJ52 : gS (9 + 4 * k.toNat + 4) (1000 * k + 1000) o B50 κ50 A ρ50 σ50 := gS_t (gS_m hI50 (by omega)) (by omega)
                        refine z_widen (k' := 1200 * k.toNat + 20700) (n' := 45000 * k.toNat + 110500) (by omega) (by omega) ?_
                        exact rest263 κ50 B50 ρ50 σ50 h50  hJ52 (by omega) (by omega)
                    · refine z_aload hY eL_law_209 2 rfl ?_
                      refine z_callV (As := []) (rest := []) hY eL_law_210 (la_isOrdered hG hD hM hSB hI400 (by omega) (by omega)) ((gH_at (gS_X hI400) (by decide)).trans (congrArg some lC_40)) (by decide) (Nat.le_of_ble_eq_true rfl) (by rw [hmc, hms]; omega) (fun _ _ q => q.elim) (fun vv54 hh54 q54 => ?_)
                      obtain ⟨κ53, B53, ρ53, σ53, h53, rfl, hI53, hn14_53, rfl⟩ := q54
                      have hn15_53 : σ4 14 0 = σ4 14 0 := rfl
                      replace hI53 := gS_o (o := o) hI53 (fun _ => trivial)
                      refine z_istore hY eL_law_213 (ls' := [(5, z_i 1), (4, z_i e), (3, z_i r36), (1, .ref (A 40)), (2, z_i k)]) rfl ?_
                      refine z_goto hY eL_law_215 ?_
                      refine z_sub [3, 4, 0] (ls' := [(1, .ref (A 40)), (2, z_i k), (5, z_i 1)]) rfl ?_
                      have hJ55 : gS (9 + 4 * k.toNat + 4) (1000 * k + 1000) o B53 κ53 A ρ53 σ53 := gS_t (gS_m hI53 (by omega)) (by omega)
                      refine z_widen (k' := 1200 * k.toNat + 20700) (n' := 45000 * k.toNat + 110500) (by omega) (by omega) ?_
                      exact rest263 κ53 B53 ρ53 σ53 h53  hJ55 (by omega) (by omega)
                  · refine z_aload hY eL_law_170 2 rfl ?_
                    have hb56 := (gS_b hI400).s19 0
                    refine g_gf hY (gS_X hI400) eL_law_171 (v := z_i (σ4 19 0)) rfl ?_
                    refine z_const hY eL_law_174 ?_
                    refine z_icmpeq hY eL_law_176 (by omega) (fun c176 => ?_) (fun c176 => ?_)
                    · refine z_const hY eL_law_193 ?_
                      refine z_goto hY eL_law_194 ?_
                      refine z_istore hY eL_law_198 (ls' := [(5, z_i 1), (4, z_i e), (3, z_i r36), (1, .ref (A 40)), (2, z_i k)]) rfl ?_
                      refine z_goto hY eL_law_200 ?_
                      refine z_sub [3, 4, 0] (ls' := [(1, .ref (A 40)), (2, z_i k), (5, z_i 1)]) rfl ?_
                      have hJ57 : gS (9 + 4 * k.toNat + 4) (1000 * k + 1000) o B2 κ2 A ρ2 σ4 := gS_t (gS_m hI400 (by omega)) (by omega)
                      refine z_widen (k' := 1200 * k.toNat + 20700) (n' := 45000 * k.toNat + 110500) (by omega) (by omega) ?_
                      exact rest263 κ2 B2 ρ2 σ4 h2  hJ57 (by omega) (by omega)
                    · refine z_aload hY eL_law_179 2 rfl ?_
                      refine z_callV (As := []) (rest := []) hY eL_law_180 (la_isEnded hG hD hM hI400 ho (by omega)) ((gH_at (gS_X hI400) (by decide)).trans (congrArg some lC_40)) (by decide) (Nat.le_of_ble_eq_true rfl) (by rw [hmc, hms]; omega) (fun _ _ q => q.elim) (fun vv59 hh59 q59 => ?_)
                      obtain ⟨κ58, B58, ρ58, σ58, h58, rfl, hI58, hn14_58, rfl⟩ := q59
                      have hn15_58 : σ4 14 0 = σ4 14 0 := rfl
                      refine z_ifeq hY eL_law_183 (by omega) (fun c => absurd c (by omega)) (fun _ => ?_)
                      refine z_aload hY eL_law_186 2 rfl ?_
                      refine z_callV (As := []) (rest := []) hY eL_law_187 (la_isLadder hG hI58 ) ((gH_at (gS_X hI58) (by decide)).trans (congrArg some lC_40)) (by decide) (Nat.le_of_ble_eq_true rfl) (by rw [hmc, hms]; omega) (fun _ _ q => q.elim) (fun vv61 hh61 q61 => ?_)
                      obtain ⟨rfl, rfl⟩ := q61
                      refine z_heq (show _ = gH D B58 κ58 A σ58 h58 from rfl) ?_
                      refine z_ifeq hY eL_law_190 (by omega) (fun c => absurd c (by omega)) (fun _ => ?_)
                      refine z_const hY eL_law_193 ?_
                      refine z_goto hY eL_law_194 ?_
                      refine z_istore hY eL_law_198 (ls' := [(5, z_i 1), (4, z_i e), (3, z_i r36), (1, .ref (A 40)), (2, z_i k)]) rfl ?_
                      refine z_goto hY eL_law_200 ?_
                      refine z_sub [3, 4, 0] (ls' := [(1, .ref (A 40)), (2, z_i k), (5, z_i 1)]) rfl ?_
                      have hJ62 : gS (9 + 4 * k.toNat + 4) (1000 * k + 1000) o B58 κ58 A ρ58 σ58 := gS_t (gS_m hI58 (by omega)) (by omega)
                      refine z_widen (k' := 1200 * k.toNat + 20700) (n' := 45000 * k.toNat + 110500) (by omega) (by omega) ?_
                      exact rest263 κ58 B58 ρ58 σ58 h58  hJ62 (by omega) (by omega)
                · refine z_aload hY eL_law_140 2 rfl ?_
                  refine z_callV (As := []) (rest := []) hY eL_law_141 (la_isPlayed hG hD hM hI400 (by show 1 ≤ σ4 14 0; omega)) ((gH_at (gS_X hI400) (by decide)).trans (congrArg some lC_40)) (by decide) (Nat.le_of_ble_eq_true rfl) (by rw [hmc, hms]; omega) (fun _ _ q => q.elim) (fun vv64 hh64 q64 => ?_)
                  obtain ⟨κ63, B63, ρ63, σ63, h63, rfl, hI63, hn14_63, rfl⟩ := q64
                  have hn15_63 : σ4 14 0 = σ4 14 0 := rfl
                  refine z_ifeq hY eL_law_144 (by omega) (fun c => absurd c (by omega)) (fun _ => ?_)
                  refine z_aload hY eL_law_147 2 rfl ?_
                  refine z_callV (As := []) (rest := []) hY eL_law_148 (la_isLadder hG hI63 ) ((gH_at (gS_X hI63) (by decide)).trans (congrArg some lC_40)) (by decide) (Nat.le_of_ble_eq_true rfl) (by rw [hmc, hms]; omega) (fun _ _ q => q.elim) (fun vv66 hh66 q66 => ?_)
                  obtain ⟨rfl, rfl⟩ := q66
                  refine z_heq (show _ = gH D B63 κ63 A σ63 h63 from rfl) ?_
                  refine z_ifeq hY eL_law_151 (by omega) (fun c => absurd c (by omega)) (fun _ => ?_)
                  refine z_const hY eL_law_154 ?_
                  refine z_goto hY eL_law_155 ?_
                  refine z_istore hY eL_law_159 (ls' := [(5, z_i 1), (4, z_i e), (3, z_i r36), (1, .ref (A 40)), (2, z_i k)]) rfl ?_
                  refine z_goto hY eL_law_161 ?_
                  refine z_sub [3, 4, 0] (ls' := [(1, .ref (A 40)), (2, z_i k), (5, z_i 1)]) rfl ?_
                  have hJ67 : gS (9 + 4 * k.toNat + 4) (1000 * k + 1000) o B63 κ63 A ρ63 σ63 := gS_t (gS_m hI63 (by omega)) (by omega)
                  refine z_widen (k' := 1200 * k.toNat + 20700) (n' := 45000 * k.toNat + 110500) (by omega) (by omega) ?_
                  exact rest263 κ63 B63 ρ63 σ63 h63  hJ67 (by omega) (by omega)
              · refine z_aload hY eL_law_123 2 rfl ?_
                refine z_iload hY eL_law_124 0 rfl ?_
                refine z_callV (As := [z_i e]) (rest := []) hY eL_law_126 (la_isScored hG hD hM hI400 ho hp (by omega) (by omega)) ((gH_at (gS_X hI400) (by decide)).trans (congrArg some lC_40)) (by decide) (Nat.le_of_ble_eq_true rfl) (by rw [hmc, hms]; omega) (fun _ _ q => q.elim) (fun vv69 hh69 q69 => ?_)
                obtain ⟨κ68, B68, ρ68, σ68, h68, rfl, hI68, hn14_68, rfl⟩ := q69
                have hn15_68 : σ4 14 0 = σ4 14 0 := rfl
                refine z_istore hY eL_law_129 (ls' := [(5, z_i 1), (4, z_i e), (3, z_i r36), (1, .ref (A 40)), (2, z_i k)]) rfl ?_
                refine z_goto hY eL_law_131 ?_
                refine z_sub [3, 4, 0] (ls' := [(1, .ref (A 40)), (2, z_i k), (5, z_i 1)]) rfl ?_
                have hJ70 : gS (9 + 4 * k.toNat + 4) (1000 * k + 1000) o B68 κ68 A ρ68 σ68 := gS_t (gS_m hI68 (by omega)) (by omega)
                refine z_widen (k' := 1200 * k.toNat + 20700) (n' := 45000 * k.toNat + 110500) (by omega) (by omega) ?_
                exact rest263 κ68 B68 ρ68 σ68 h68  hJ70 (by omega) (by omega)
            · refine z_aload hY eL_law_98 2 rfl ?_
              refine z_const hY eL_law_99 ?_
              refine z_callV (As := [z_i 2]) (rest := []) hY eL_law_100 (la_next (B := B2) (κ := κ2) (σ := σ4) hG (gS_X hI400) (n := 2) (by omega)) ((gH_at (gS_X hI400) (by decide)).trans (congrArg some lC_40)) (by decide) (Nat.le_of_ble_eq_true rfl) (by rw [hmc, hms]; omega) (fun _ _ q => q.elim) (fun vv72 hh72 q72 => ?_)
              obtain ⟨r71, X71, rfl, hr71, hX71, rfl⟩ := q72
              refine z_ifne hY eL_law_103 (by omega) (fun c103 => ?_) (fun c103 => ?_)
              · refine z_iload hY eL_law_117 1 rfl ?_
                refine z_const hY eL_law_118 ?_
                refine z_icmpge hY eL_law_120 (by omega) (fun c120 => ?_) (fun c120 => ?_)
                · refine z_iload hY eL_law_134 1 rfl ?_
                  refine z_const hY eL_law_135 ?_
                  refine z_icmpge hY eL_law_137 (by omega) (fun c137 => ?_) (fun c137 => ?_)
                  · refine z_iload hY eL_law_164 1 rfl ?_
                    refine z_const hY eL_law_165 ?_
                    refine z_icmpge hY eL_law_167 (by omega) (fun c167 => ?_) (fun c167 => ?_)
                    · refine z_iload hY eL_law_203 1 rfl ?_
                      refine z_const hY eL_law_204 ?_
                      refine z_icmpne hY eL_law_206 (by omega) (fun c206 => ?_) (fun c206 => ?_)
                      · refine z_iload hY eL_law_218 1 rfl ?_
                        refine z_const hY eL_law_219 ?_
                        refine z_icmpne hY eL_law_221 (by omega) (fun c221 => ?_) (fun c221 => ?_)
                        · refine z_aload hY eL_law_235 2 rfl ?_
                          refine z_callV (As := []) (rest := []) hY eL_law_236 (la_areForms hG hD hM (gS_E hI400 (wE_u wE_r (by decide)) (wB_u (gS_b hI400) (by show (-2147483648 : Int) ≤ _ ∧ _ ≤ (2147483647 : Int); omega))) ho) ((gH_at (gS_X hI400) (by decide)).trans (congrArg some lC_40)) (by decide) (Nat.le_of_ble_eq_true rfl) (by rw [hmc, hms]; omega) (fun _ _ q => q.elim) (fun vv74 hh74 q74 => ?_)
                          obtain ⟨κ73, B73, ρ73, σ73, h73, rfl, hI73, hn14_73, rfl⟩ := q74
                          have hn15_73 : (z_u σ4 0 0 X71) 14 0 = σ4 14 0 := rfl
                          refine z_ifeq hY eL_law_239 (by omega) (fun c => absurd c (by omega)) (fun _ => ?_)
                          refine z_aload hY eL_law_242 2 rfl ?_
                          refine z_callV (As := []) (rest := []) hY eL_law_243 (la_areApart hG hD hM hI73 ho) ((gH_at (gS_X hI73) (by decide)).trans (congrArg some lC_40)) (by decide) (Nat.le_of_ble_eq_true rfl) (by rw [hmc, hms]; omega) (fun _ _ q => q.elim) (fun vv76 hh76 q76 => ?_)
                          obtain ⟨κ75, B75, ρ75, σ75, h75, rfl, hI75, hn14_75, rfl⟩ := q76
                          have hn15_75 : σ73 14 0 = σ73 14 0 := rfl
                          refine z_ifeq hY eL_law_246 (by omega) (fun c => absurd c (by omega)) (fun _ => ?_)
                          refine z_aload hY eL_law_249 2 rfl ?_
                          refine z_callVH (M' := mL_areGroups) (hh := hL_areGroups) (As := []) (rest := []) hY ⟨eL_law_250.1, w6_234, tL_areGroups, vL_areGroups⟩ (la_areGroups hG hD hM hI75 ho) ((gH_at (gS_X hI75) (by decide)).trans (congrArg some lC_40)) (by decide) (Nat.le_of_ble_eq_true rfl) (by rw [hmc, hms]; omega) (fun vv77 hh77 q77 => ?_)
                          obtain ⟨κ77, B77, ρ77, σ77, h77, rfl, hI77, hn14_77, rfl⟩ := q77
                          refine z_ifeq hY eL_law_253 (by omega) (fun c => absurd c (by omega)) (fun _ => ?_)
                          refine z_const hY eL_law_256 ?_
                          refine z_goto hY eL_law_257 ?_
                          refine z_istore hY eL_law_261 (ls' := [(5, z_i 1), (4, z_i e), (3, z_i r36), (1, .ref (A 40)), (2, z_i k)]) rfl ?_
                          refine z_sub [3, 4, 0] (ls' := [(1, .ref (A 40)), (2, z_i k), (5, z_i 1)]) rfl ?_
                          have hJ78 : gS (9 + 4 * k.toNat + 4) (1000 * k + 1000) o B77 κ77 A ρ77 σ77 := gS_t (gS_m hI77 (by omega)) (by omega)
                          refine z_widen (k' := 1200 * k.toNat + 20700) (n' := 45000 * k.toNat + 110500) (by omega) (by omega) ?_
                          exact rest263 κ77 B77 ρ77 σ77 h77  hJ78 (by omega) (by omega)
                        · refine z_aload hY eL_law_224 2 rfl ?_
                          refine z_iload hY eL_law_225 0 rfl ?_
                          refine z_callV (As := [z_i e]) (rest := []) hY eL_law_227 (la_isNeeded hG hD hM (gS_E hI400 (wE_u wE_r (by decide)) (wB_u (gS_b hI400) (by show (-2147483648 : Int) ≤ _ ∧ _ ≤ (2147483647 : Int); omega))) hp (by omega) (by omega)) ((gH_at (gS_X hI400) (by decide)).trans (congrArg some lC_40)) (by decide) (Nat.le_of_ble_eq_true rfl) (by rw [hmc, hms]; omega) (fun _ _ q => q.elim) (fun vv80 hh80 q80 => ?_)
                          obtain ⟨κ79, B79, ρ79, σ79, h79, rfl, hI79, hn14_79, rfl⟩ := q80
                          have hn15_79 : (z_u σ4 0 0 X71) 14 0 = σ4 14 0 := rfl
                          refine z_istore hY eL_law_230 (ls' := [(5, z_i 1), (4, z_i e), (3, z_i r36), (1, .ref (A 40)), (2, z_i k)]) rfl ?_
                          refine z_goto hY eL_law_232 ?_
                          refine z_sub [3, 4, 0] (ls' := [(1, .ref (A 40)), (2, z_i k), (5, z_i 1)]) rfl ?_
                          have hJ81 : gS (9 + 4 * k.toNat + 4) (1000 * k + 1000) o B79 κ79 A ρ79 σ79 := gS_t (gS_m hI79 (by omega)) (by omega)
                          refine z_widen (k' := 1200 * k.toNat + 20700) (n' := 45000 * k.toNat + 110500) (by omega) (by omega) ?_
                          exact rest263 κ79 B79 ρ79 σ79 h79  hJ81 (by omega) (by omega)
                      · refine z_aload hY eL_law_209 2 rfl ?_
                        refine z_callV (As := []) (rest := []) hY eL_law_210 (la_isOrdered hG hD hM hSB (gS_E hI400 (wE_u wE_r (by decide)) (wB_u (gS_b hI400) (by show (-2147483648 : Int) ≤ _ ∧ _ ≤ (2147483647 : Int); omega))) (by omega) (by omega)) ((gH_at (gS_X hI400) (by decide)).trans (congrArg some lC_40)) (by decide) (Nat.le_of_ble_eq_true rfl) (by rw [hmc, hms]; omega) (fun _ _ q => q.elim) (fun vv83 hh83 q83 => ?_)
                        obtain ⟨κ82, B82, ρ82, σ82, h82, rfl, hI82, hn14_82, rfl⟩ := q83
                        have hn15_82 : (z_u σ4 0 0 X71) 14 0 = σ4 14 0 := rfl
                        replace hI82 := gS_o (o := o) hI82 (fun _ => trivial)
                        refine z_istore hY eL_law_213 (ls' := [(5, z_i 1), (4, z_i e), (3, z_i r36), (1, .ref (A 40)), (2, z_i k)]) rfl ?_
                        refine z_goto hY eL_law_215 ?_
                        refine z_sub [3, 4, 0] (ls' := [(1, .ref (A 40)), (2, z_i k), (5, z_i 1)]) rfl ?_
                        have hJ84 : gS (9 + 4 * k.toNat + 4) (1000 * k + 1000) o B82 κ82 A ρ82 σ82 := gS_t (gS_m hI82 (by omega)) (by omega)
                        refine z_widen (k' := 1200 * k.toNat + 20700) (n' := 45000 * k.toNat + 110500) (by omega) (by omega) ?_
                        exact rest263 κ82 B82 ρ82 σ82 h82  hJ84 (by omega) (by omega)
                    · refine z_aload hY eL_law_170 2 rfl ?_
                      have hb85 := (gS_b hI400).s19 0
                      refine g_gf hY (gS_X hI400) eL_law_171 (v := z_i (σ4 19 0)) (congrArg (fun q => some (z_i q)) (congrFun (z_u_ne (by decide)) _)) ?_
                      refine z_const hY eL_law_174 ?_
                      refine z_icmpeq hY eL_law_176 (by omega) (fun c176 => ?_) (fun c176 => ?_)
                      · refine z_const hY eL_law_193 ?_
                        refine z_goto hY eL_law_194 ?_
                        refine z_istore hY eL_law_198 (ls' := [(5, z_i 1), (4, z_i e), (3, z_i r36), (1, .ref (A 40)), (2, z_i k)]) rfl ?_
                        refine z_goto hY eL_law_200 ?_
                        refine z_sub [3, 4, 0] (ls' := [(1, .ref (A 40)), (2, z_i k), (5, z_i 1)]) rfl ?_
                        have hJ86 : gS (9 + 4 * k.toNat + 4) (1000 * k + 1000) o B2 κ2 A ρ2 (z_u σ4 0 0 X71) := gS_t (gS_m (gS_E hI400 (wE_u wE_r (by decide)) (wB_u (gS_b hI400) (by show (-2147483648 : Int) ≤ _ ∧ _ ≤ (2147483647 : Int); omega))) (by omega)) (by omega)
                        refine z_widen (k' := 1200 * k.toNat + 20700) (n' := 45000 * k.toNat + 110500) (by omega) (by omega) ?_
                        exact rest263 κ2 B2 ρ2 (z_u σ4 0 0 X71) h2  hJ86 (by omega) (by omega)
                      · refine z_aload hY eL_law_179 2 rfl ?_
                        refine z_callV (As := []) (rest := []) hY eL_law_180 (la_isEnded hG hD hM (gS_E hI400 (wE_u wE_r (by decide)) (wB_u (gS_b hI400) (by show (-2147483648 : Int) ≤ _ ∧ _ ≤ (2147483647 : Int); omega))) ho (by omega)) ((gH_at (gS_X hI400) (by decide)).trans (congrArg some lC_40)) (by decide) (Nat.le_of_ble_eq_true rfl) (by rw [hmc, hms]; omega) (fun _ _ q => q.elim) (fun vv88 hh88 q88 => ?_)
                        obtain ⟨κ87, B87, ρ87, σ87, h87, rfl, hI87, hn14_87, rfl⟩ := q88
                        have hn15_87 : (z_u σ4 0 0 X71) 14 0 = σ4 14 0 := rfl
                        refine z_ifeq hY eL_law_183 (by omega) (fun c => absurd c (by omega)) (fun _ => ?_)
                        refine z_aload hY eL_law_186 2 rfl ?_
                        refine z_callV (As := []) (rest := []) hY eL_law_187 (la_isLadder hG hI87 ) ((gH_at (gS_X hI87) (by decide)).trans (congrArg some lC_40)) (by decide) (Nat.le_of_ble_eq_true rfl) (by rw [hmc, hms]; omega) (fun _ _ q => q.elim) (fun vv90 hh90 q90 => ?_)
                        obtain ⟨rfl, rfl⟩ := q90
                        refine z_heq (show _ = gH D B87 κ87 A σ87 h87 from rfl) ?_
                        refine z_ifeq hY eL_law_190 (by omega) (fun c => absurd c (by omega)) (fun _ => ?_)
                        refine z_const hY eL_law_193 ?_
                        refine z_goto hY eL_law_194 ?_
                        refine z_istore hY eL_law_198 (ls' := [(5, z_i 1), (4, z_i e), (3, z_i r36), (1, .ref (A 40)), (2, z_i k)]) rfl ?_
                        refine z_goto hY eL_law_200 ?_
                        refine z_sub [3, 4, 0] (ls' := [(1, .ref (A 40)), (2, z_i k), (5, z_i 1)]) rfl ?_
                        have hJ91 : gS (9 + 4 * k.toNat + 4) (1000 * k + 1000) o B87 κ87 A ρ87 σ87 := gS_t (gS_m hI87 (by omega)) (by omega)
                        refine z_widen (k' := 1200 * k.toNat + 20700) (n' := 45000 * k.toNat + 110500) (by omega) (by omega) ?_
                        exact rest263 κ87 B87 ρ87 σ87 h87  hJ91 (by omega) (by omega)
                  · refine z_aload hY eL_law_140 2 rfl ?_
                    refine z_callV (As := []) (rest := []) hY eL_law_141 (la_isPlayed hG hD hM (gS_E hI400 (wE_u wE_r (by decide)) (wB_u (gS_b hI400) (by show (-2147483648 : Int) ≤ _ ∧ _ ≤ (2147483647 : Int); omega))) (by show 1 ≤ σ4 14 0; omega)) ((gH_at (gS_X hI400) (by decide)).trans (congrArg some lC_40)) (by decide) (Nat.le_of_ble_eq_true rfl) (by rw [hmc, hms]; omega) (fun _ _ q => q.elim) (fun vv93 hh93 q93 => ?_)
                    obtain ⟨κ92, B92, ρ92, σ92, h92, rfl, hI92, hn14_92, rfl⟩ := q93
                    have hn15_92 : (z_u σ4 0 0 X71) 14 0 = σ4 14 0 := rfl
                    refine z_ifeq hY eL_law_144 (by omega) (fun c => absurd c (by omega)) (fun _ => ?_)
                    refine z_aload hY eL_law_147 2 rfl ?_
                    refine z_callV (As := []) (rest := []) hY eL_law_148 (la_isLadder hG hI92 ) ((gH_at (gS_X hI92) (by decide)).trans (congrArg some lC_40)) (by decide) (Nat.le_of_ble_eq_true rfl) (by rw [hmc, hms]; omega) (fun _ _ q => q.elim) (fun vv95 hh95 q95 => ?_)
                    obtain ⟨rfl, rfl⟩ := q95
                    refine z_heq (show _ = gH D B92 κ92 A σ92 h92 from rfl) ?_
                    refine z_ifeq hY eL_law_151 (by omega) (fun c => absurd c (by omega)) (fun _ => ?_)
                    refine z_const hY eL_law_154 ?_
                    refine z_goto hY eL_law_155 ?_
                    refine z_istore hY eL_law_159 (ls' := [(5, z_i 1), (4, z_i e), (3, z_i r36), (1, .ref (A 40)), (2, z_i k)]) rfl ?_
                    refine z_goto hY eL_law_161 ?_
                    refine z_sub [3, 4, 0] (ls' := [(1, .ref (A 40)), (2, z_i k), (5, z_i 1)]) rfl ?_
                    have hJ96 : gS (9 + 4 * k.toNat + 4) (1000 * k + 1000) o B92 κ92 A ρ92 σ92 := gS_t (gS_m hI92 (by omega)) (by omega)
                    refine z_widen (k' := 1200 * k.toNat + 20700) (n' := 45000 * k.toNat + 110500) (by omega) (by omega) ?_
                    exact rest263 κ92 B92 ρ92 σ92 h92  hJ96 (by omega) (by omega)
                · refine z_aload hY eL_law_123 2 rfl ?_
                  refine z_iload hY eL_law_124 0 rfl ?_
                  refine z_callV (As := [z_i e]) (rest := []) hY eL_law_126 (la_isScored hG hD hM (gS_E hI400 (wE_u wE_r (by decide)) (wB_u (gS_b hI400) (by show (-2147483648 : Int) ≤ _ ∧ _ ≤ (2147483647 : Int); omega))) ho hp (by omega) (by omega)) ((gH_at (gS_X hI400) (by decide)).trans (congrArg some lC_40)) (by decide) (Nat.le_of_ble_eq_true rfl) (by rw [hmc, hms]; omega) (fun _ _ q => q.elim) (fun vv98 hh98 q98 => ?_)
                  obtain ⟨κ97, B97, ρ97, σ97, h97, rfl, hI97, hn14_97, rfl⟩ := q98
                  have hn15_97 : (z_u σ4 0 0 X71) 14 0 = σ4 14 0 := rfl
                  refine z_istore hY eL_law_129 (ls' := [(5, z_i 1), (4, z_i e), (3, z_i r36), (1, .ref (A 40)), (2, z_i k)]) rfl ?_
                  refine z_goto hY eL_law_131 ?_
                  refine z_sub [3, 4, 0] (ls' := [(1, .ref (A 40)), (2, z_i k), (5, z_i 1)]) rfl ?_
                  have hJ99 : gS (9 + 4 * k.toNat + 4) (1000 * k + 1000) o B97 κ97 A ρ97 σ97 := gS_t (gS_m hI97 (by omega)) (by omega)
                  refine z_widen (k' := 1200 * k.toNat + 20700) (n' := 45000 * k.toNat + 110500) (by omega) (by omega) ?_
                  exact rest263 κ97 B97 ρ97 σ97 h97  hJ99 (by omega) (by omega)
              · refine z_aload hY eL_law_106 2 rfl ?_
                refine z_iload hY eL_law_107 0 rfl ?_
                refine z_callV (As := [z_i e]) (rest := []) hY eL_law_109 (la_hasLeft hG hD hM (gS_E hI400 (wE_u wE_r (by decide)) (wB_u (gS_b hI400) (by show (-2147483648 : Int) ≤ _ ∧ _ ≤ (2147483647 : Int); omega))) hp) ((gH_at (gS_X hI400) (by decide)).trans (congrArg some lC_40)) (by decide) (Nat.le_of_ble_eq_true rfl) (by rw [hmc, hms]; omega) (fun _ _ q => q.elim) (fun vv101 hh101 q101 => ?_)
                obtain ⟨κ100, B100, ρ100, σ100, h100, rfl, hI100, hn14_100, rfl⟩ := q101
                have hn15_100 : (z_u σ4 0 0 X71) 14 0 = σ4 14 0 := rfl
                refine z_istore hY eL_law_112 (ls' := [(5, z_i 1), (4, z_i e), (3, z_i r36), (1, .ref (A 40)), (2, z_i k)]) rfl ?_
                refine z_goto hY eL_law_114 ?_
                refine z_sub [3, 4, 0] (ls' := [(1, .ref (A 40)), (2, z_i k), (5, z_i 1)]) rfl ?_
                have hJ102 : gS (9 + 4 * k.toNat + 4) (1000 * k + 1000) o B100 κ100 A ρ100 σ100 := gS_t (gS_m hI100 (by omega)) (by omega)
                refine z_widen (k' := 1200 * k.toNat + 20700) (n' := 45000 * k.toNat + 110500) (by omega) (by omega) ?_
                exact rest263 κ100 B100 ρ100 σ100 h100  hJ102 (by omega) (by omega)
          · refine z_aload hY eL_law_84 2 rfl ?_
            have hQ103 : gS (9 + 4 * k.toNat) (1000 * k) o B2 κ2 A ρ2 σ4 := hI400
            have hqb103 := (gS_b hQ103).s14 0
            refine z_callV (As := []) (rest := []) hY eL_law_85 (la_hasCome hG hD hM hQ103 (by omega)) ((gH_at (gS_X hI400) (by decide)).trans (congrArg some lC_40)) (by decide) (Nat.le_of_ble_eq_true rfl) (by rw [hmc, hms]; omega) (fun _ _ q => q.elim) (fun vv104 hh104 q104 => ?_)
            obtain ⟨κ103, B103, ρ103, σ103, h103, rfl, hI103, hn14_103, rfl⟩ := q104
            have hn16_103 : 1 ≤ σ103 14 0 := by rw [hn14_103]; split <;> omega
            refine z_istore hY eL_law_88 (ls' := [(5, z_i 1), (4, z_i e), (3, z_i r36), (1, .ref (A 40)), (2, z_i k)]) rfl ?_
            refine z_goto hY eL_law_90 ?_
            refine z_sub [3, 4, 0] (ls' := [(1, .ref (A 40)), (2, z_i k), (5, z_i 1)]) rfl ?_
            have hJ105 : gS (9 + 4 * k.toNat + 4) (1000 * k + 1000) o B103 κ103 A ρ103 σ103 := gS_t (gS_m hI103 (by omega)) (by omega)
            refine z_widen (k' := 1200 * k.toNat + 20700) (n' := 45000 * k.toNat + 110500) (by omega) (by omega) ?_
            exact rest263 κ103 B103 ρ103 σ103 h103  hJ105 (by omega) (by omega)
  refine z_widen (k' := (1200 * (0 : Int).toNat + 20000)) (n' := (45000 * (0 : Int).toNat + 70000)) (by omega) (by omega) ?_
  exact lp55 _ 0 κ B ρ σ h (Nat.lt_succ_self _) (by omega) (gS_t (gS_m hI (by omega)) (by omega)) (by omega)
theorem la_law1 {Y : z_Y} {D : Nat} {B : Nat → Int → Nat} {κ : c_K} {A : Nat → Nat} {ρ σ : z_S} {h : z_H} {o : Prop} (hY : z_ok Y 11 mL_law) (hmc : z_mc Y = 400000) (hms : z_ms Y = 5000000) (hφ : z_φ Y = fun v _ => v = some (z_i 1)) (hG : z_OK (z_gg Y)) (hD : D = z_dc (z_gg Y)) (hM : z_MI (z_gg Y)) (hSB : z_SB (z_gg Y)) (hI : gS 0 0 o B κ A ρ σ) : z_W Y 16 [(1, .ref (A 40))] [] (gH D B κ A σ h) (1000) (20000) := by
  refine z_const hY eL_law_16 ?_
  refine z_aload hY eL_law_17 0 rfl ?_
  refine z_const hY eL_law_18 ?_
  refine z_callV (As := [z_i 8]) (rest := [z_i 2]) hY eL_law_20 (la_next (B := B) (κ := κ) (σ := σ) hG (gS_X hI) (n := 8) (by omega)) ((gH_at (gS_X hI) (by decide)).trans (congrArg some lC_40)) (by decide) (Nat.le_of_ble_eq_true rfl) (by rw [hmc, hms]; omega) (fun _ _ q => q.elim) (fun vv22 hh22 q22 => ?_)
  obtain ⟨r21, X21, rfl, hr21, hX21, rfl⟩ := q22
  refine z_iadd hY eL_law_23 ?_
  refine z_top (b := r21 + 2) (by omega) ?_
  refine z_istore hY eL_law_24 (ls' := [(2, z_i (r21 + 2)), (1, .ref (A 40))]) rfl ?_
  refine z_sub [1, 0] (ls' := [(1, .ref (A 40)), (2, z_i (r21 + 2))]) rfl ?_
  have lp25 : ∀ (fu : Nat) (k : Int) (κ2 : c_K) (B2 : Nat → Int → Nat) (ρ2 : z_S) (σ2 : z_S) (h2 : z_H), (k).toNat < fu → (0 ≤ k ∧ k ≤ 9) → (gS (9 - k.toNat) 0 o B2 κ2 A ρ2 σ2) → (1 ≤ k ∨ 1 ≤ σ2 14 0) → z_W Y 25 [(1, .ref (A 40)), (2, z_i k)] [] (gH D B2 κ2 A σ2 h2) (1000 + 61 * (9 - k.toNat)) (20000 + 606 * (9 - k.toNat)) := by
    intro fu
    induction fu with
    | zero => intro k κ2 B2 ρ2 σ2 h2 hf; exact absurd hf (Nat.not_lt_zero _)
    | succ fu ih25 =>
      intro k κ2 B2 ρ2 σ2 h2 hf hk hI2 hn2
      refine z_iload hY eL_law_25 1 rfl ?_
      refine z_ifle hY eL_law_26 (by omega) (fun c26 => ?_) (fun c26 => ?_)
      · refine z_aload hY eL_law_44 0 rfl ?_
        refine z_callV (As := []) (rest := []) hY eL_law_45 (la_isOrdered hG hD hM hSB hI2 (by omega) (by omega)) ((gH_at (gS_X hI2) (by decide)).trans (congrArg some lC_40)) (by decide) (Nat.le_of_ble_eq_true rfl) (by rw [hmc, hms]; omega) (fun _ _ q => q.elim) (fun vv24 hh24 q24 => ?_)
        obtain ⟨κ23, B23, ρ23, σ23, h23, rfl, hI23, hn14_23, rfl⟩ := q24
        have hn15_23 : σ2 14 0 = σ2 14 0 := rfl
        refine z_ifne hY eL_law_48 (by omega) (fun _ => ?_) (fun c => absurd c (by omega))
        refine z_sub [0] (ls' := [(1, .ref (A 40))]) rfl ?_
        refine z_widen (k' := 20000) (n' := 70000) (by omega) (by omega) ?_
        exact la_law2 hY hmc hms hφ hG hD hM hSB (o := True) trivial (gS_t hI23 (by omega)) (by omega)
      · refine z_aload hY eL_law_29 0 rfl ?_
        have hQ25 : gS (9 - k.toNat) 0 o B2 κ2 A ρ2 σ2 := hI2
        have hqb25 := (gS_b hQ25).s14 0
        refine z_callV (As := []) (rest := []) hY eL_law_30 (la_hasCome hG hD hM hQ25 (by omega)) ((gH_at (gS_X hI2) (by decide)).trans (congrArg some lC_40)) (by decide) (Nat.le_of_ble_eq_true rfl) (by rw [hmc, hms]; omega) (fun _ _ q => q.elim) (fun vv26 hh26 q26 => ?_)
        obtain ⟨κ25, B25, ρ25, σ25, h25, rfl, hI25, hn14_25, rfl⟩ := q26
        have hn16_25 : 1 ≤ σ25 14 0 := by rw [hn14_25]; split <;> omega
        refine z_ifne hY eL_law_33 (by omega) (fun _ => ?_) (fun c => absurd c (by omega))
        refine z_iinc hY eL_law_38 1 rfl (ls' := [(2, z_i (k + (-1))), (1, .ref (A 40))]) rfl ?_
        refine z_lq (ls' := [(2, z_i (k - 1)), (1, .ref (A 40))]) (by rw [show (k + (-1) : Int) = k - 1 by omega]) ?_
        refine z_goto hY eL_law_41 ?_
        refine z_sub [1, 0] (ls' := [(1, .ref (A 40)), (2, z_i (k - 1))]) rfl ?_
        refine z_widen (k' := (1000 + 61 * (9 - (k - 1).toNat))) (n' := (20000 + 606 * (9 - (k - 1).toNat))) (by omega) (by omega) ?_
        exact ih25 (k - 1) κ25 B25 ρ25 σ25 h25 (by omega) (by omega) (gS_t hI25 (by omega)) (Or.inr (by omega))
  refine z_widen (k' := (1000 + 61 * (9 - (r21 + 2).toNat))) (n' := (20000 + 606 * (9 - (r21 + 2).toNat))) (by omega) (by omega) ?_
  exact lp25 _ (r21 + 2) κ B ρ (z_u σ 0 0 X21) h (Nat.lt_succ_self _) (by omega) (gS_t (gS_E hI (wE_u wE_r (by decide)) (wB_u (gS_b hI) (by show (-2147483648 : Int) ≤ _ ∧ _ ≤ (2147483647 : Int); omega))) (by omega)) (by omega)
/-- the law, from its start, with any script -/
theorem la_law {Y : z_Y} {b L : Nat} {xs : Nat → Int32} (hY : z_ok Y 11 mL_law) (hmc : z_mc Y = 400000) (hms : z_ms Y = 5000000) (hφ : z_φ Y = fun v _ => v = some (z_i 1)) (hG : z_OK (z_gg Y)) (hM : z_MI (z_gg Y)) (hSB : z_SB (z_gg Y)) (hX : z_Xs (z_gg Y) b L xs) (hL : L ≤ 100000) : z_W Y 0 [(0, .ref b)] [] (fun _ => none) 0 0 := by
  refine z_new hY eL_law_0 (by rw [hmc, hms]; exact ⟨Nat.le_of_ble_eq_true rfl, Nat.le_of_ble_eq_true rfl⟩) (fun p hp => ?_)
  refine z_dup hY eL_law_3 rfl ?_
  refine z_callI (As := []) (b := p) (rest := [.ref p]) hY eL_law_4 (la_init hG z_set_at) (by decide) (Nat.le_of_ble_eq_true rfl) (by rw [hmc, hms]; exact ⟨Nat.le_of_ble_eq_true rfl, Nat.le_of_ble_eq_true rfl⟩) (fun _ _ q => q.elim) (fun vv1 hh1 q1 => ?_)
  obtain ⟨rfl, B, A, h2, hA, hXX, hJ, rfl⟩ := q1
  subst hA
  refine z_astore hY eL_law_7 (ls' := [(1, .ref (A 40)), (0, .ref b)]) rfl ?_
  refine z_aload hY eL_law_8 0 rfl ?_
  refine z_aload hY eL_law_9 1 rfl ?_
  refine z_callS (As := [.ref b]) (rest := [.ref (A 40)]) hY eL_law_10 (la_stirred hG hX hL) (by decide) (Nat.le_of_ble_eq_true rfl) (by rw [hmc, hms]; exact ⟨Nat.le_of_ble_eq_true rfl, Nat.le_of_ble_eq_true rfl⟩) (fun _ _ q => q.elim) (fun vv2 hh2 q2 => ?_)
  obtain ⟨r, rfl, hr, rfl⟩ := q2
  refine g_pf hY hXX eL_law_13 (by decide) ?_
  have hI : gS 0 0 False B k0 A yI1 (z_u sI 0 0 r) := gS_E (gS_first hXX hJ) (wE_u wE_r (by decide)) (wB_u sI_b (by show (-2147483648 : Int) ≤ _ ∧ _ ≤ (2147483647 : Int); omega))
  refine z_sub [0] (ls' := [(1, .ref (A 40))]) rfl ?_
  refine z_widen (k' := 1000) (n' := 20000) (by omega) (by omega) ?_
  exact la_law1 hY hmc hms hφ hG rfl hM hSB hI
end LV16
