/-! THE LAW's CASES (laid by wip/whole/gen/gen75.py). -/
section LC0
abbrev lV (b q a o1 o2 : Nat) (i : Int) : List (Nat × Value) := [(0, .ref b), (1, .ref q), (2, .ref a), (3, .ref o1), (4, .ref o2), (5, z_i i)]
def lC (Y : z_Y) (G : z_G) (b L : Nat) (xs : Nat → Int32) (i : Int) (k n : Nat) : Prop := z_ok Y 838 mL_law ∧ z_gg Y = G ∧ z_Xs G b L xs ∧ (0 ≤ i ∧ i + 6 ≤ L ∧ L ≤ 3072) ∧ (k + 60 ≤ z_mc Y ∧ n + 3000 ≤ z_ms Y)
def lK (Y : z_Y) (G : z_G) (b q : Nat) (A : Nat → Nat) (o1 o2 : Nat) (i : Int) (k n : Nat) (J : c_K → z_S → Prop) : Prop := ∀ (κ' : c_K) (σ' : z_S) (f' : Int → Int) (g' : Int → UInt64) (H' : z_H), lS G q A o1 o2 κ' σ' f' g' H' → J κ' σ' → z_W Y 2981 (lV b q (A 40) o1 o2 i) [] H' (k + 60) (n + 3000)
theorem z_okG {Y : z_Y} {d : Nat} {M : z_M} (hY : z_ok Y d M) : z_OK (z_gg Y) := by
  obtain ⟨G, ⟨p, e, R, s, m, args, below, meth, c⟩, nL, mc, ms, φ, ψ⟩ := Y
  exact hY.1
end LC0
section LC1
variable {Y : z_Y} {G : z_G} {b q o1 o2 L : Nat} {A : Nat → Nat} {xs : Nat → Int32} {J : c_K → z_S → Prop} {κ : c_K} {σ : z_S} {f : Int → Int} {g : Int → UInt64} {H : z_H} {i : Int} {k n : Nat}
theorem w_c0 (hC : lC Y G b L xs i k n) (hS : lS G q A o1 o2 κ σ f g H) (hv : vW G q A o1 o2 J κ σ mL_append hL_append mX8_append [z_i (zX xs (i + 1)), z_i (zX xs (i + 2)), z_i (zX xs (i + 3)), z_i (zX xs (i + 4)), z_i (zX xs (i + 5))]) (kk : lK Y G b q A o1 o2 i k n J) : z_W Y 260 (lV b q (A 40) o1 o2 i) [] H k n := by
  obtain ⟨hY, hg, hX, hi, hc⟩ := hC
  have hX1 : z_Xs (z_gg Y) b L xs := by rw [hg]; exact hX
  have hG : z_OK G := by rw [← hg]; exact z_okG hY
  refine z_aload hY eL_law_260 1 rfl ?_
  refine z_aload hY eL_law_261 0 rfl ?_
  refine z_iload hY eL_law_262 5 rfl ?_
  refine z_const hY eL_law_264 ?_
  refine z_iadd hY eL_law_265 ?_
  refine z_sld hY eL_law_266 hX1 (by omega) ?_
  refine z_aload hY eL_law_267 0 rfl ?_
  refine z_iload hY eL_law_268 5 rfl ?_
  refine z_const hY eL_law_270 ?_
  refine z_iadd hY eL_law_271 ?_
  refine z_sld hY eL_law_272 hX1 (by omega) ?_
  refine z_aload hY eL_law_273 0 rfl ?_
  refine z_iload hY eL_law_274 5 rfl ?_
  refine z_const hY eL_law_276 ?_
  refine z_iadd hY eL_law_277 ?_
  refine z_sld hY eL_law_278 hX1 (by omega) ?_
  refine z_aload hY eL_law_279 0 rfl ?_
  refine z_iload hY eL_law_280 5 rfl ?_
  refine z_const hY eL_law_282 ?_
  refine z_iadd hY eL_law_283 ?_
  refine z_sld hY eL_law_284 hX1 (by omega) ?_
  refine z_aload hY eL_law_285 0 rfl ?_
  refine z_iload hY eL_law_286 5 rfl ?_
  refine z_const hY eL_law_288 ?_
  refine z_iadd hY eL_law_289 ?_
  refine z_sld hY eL_law_290 hX1 (by omega) ?_
  refine z_aload hY eL_law_291 3 rfl ?_
  obtain ⟨d1, mc, ms, d2, hd1, hd2, hmc, hms, ht⟩ := hv f g H hS
  refine z_callSH (M' := mL_append) (As := [.ref q, z_i (zX xs (i + 1)), z_i (zX xs (i + 2)), z_i (zX xs (i + 3)), z_i (zX xs (i + 4)), z_i (zX xs (i + 5)), .ref o1]) (rest := []) (d1 := d1) (mc1 := mc) (ms1 := ms) hY eL_law_292 (by rw [hg]; exact ht) (by omega) (Nat.le_of_ble_eq_true rfl) (by omega) (fun v h1 hv1 => ?_)
  obtain ⟨κ1, f1, c, rfl, hS1, hf1, hc1, hm⟩ := hv1
  unfold lsR at hc1
  unfold lsR at hf1
  refine z_istore (ls' := [(6, z_i c), (0, .ref b), (1, .ref q), (2, .ref (A 40)), (3, .ref o1), (4, .ref o2), (5, z_i i)]) hY eL_law_295 rfl ?_
  refine z_aload hY eL_law_297 3 rfl ?_
  refine z_aload hY eL_law_298 1 rfl ?_
  refine z_iload hY eL_law_299 6 rfl ?_
  refine z_const hY eL_law_301 ?_
  refine z_iadd hY eL_law_302 ?_
  refine z_sld hY eL_law_303 hX1 (by omega) ?_
  refine z_aload hY eL_law_304 1 rfl ?_
  refine z_iload hY eL_law_305 6 rfl ?_
  refine z_const hY eL_law_307 ?_
  refine z_iadd hY eL_law_308 ?_
  refine z_sld hY eL_law_309 hX1 (by omega) ?_
  refine z_aload hY eL_law_310 1 rfl ?_
  refine z_iload hY eL_law_311 6 rfl ?_
  refine z_const hY eL_law_313 ?_
  refine z_iadd hY eL_law_314 ?_
  refine z_sld hY eL_law_315 hX1 (by omega) ?_
  refine z_aload hY eL_law_316 1 rfl ?_
  refine z_iload hY eL_law_317 6 rfl ?_
  refine z_const hY eL_law_319 ?_
  refine z_iadd hY eL_law_320 ?_
  refine z_sld hY eL_law_321 hX1 (by omega) ?_
  refine z_aload hY eL_law_322 1 rfl ?_
  refine z_iload hY eL_law_323 6 rfl ?_
  refine z_const hY eL_law_325 ?_
  refine z_iadd hY eL_law_326 ?_
  refine z_sld hY eL_law_327 hX1 (by omega) ?_
  refine z_callV (M' := mX8_append) (As := [z_i (zX xs (i + 1)), z_i (zX xs (i + 2)), z_i (zX xs (i + 3)), z_i (zX xs (i + 4)), z_i (zX xs (i + 5))]) (rest := []) (d1 := d2) (mc1 := 0) (ms1 := 0) (ψ1 := z_no) hY eL_law_328 (by rw [hg]; exact hm) hS1.za40 (by omega) (Nat.le_of_ble_eq_true rfl) (by omega) (fun _ _ z => False.elim z) (fun v2 h2 hv2 => ?_)
  obtain ⟨r, ρ, rfl, hr, hS2, hρ, hcr, hB2, hJ2⟩ := hv2
  unfold lsR at hr
  refine z_istore (ls' := [(7, z_i r), (6, z_i c), (0, .ref b), (1, .ref q), (2, .ref (A 40)), (3, .ref o1), (4, .ref o2), (5, z_i i)]) hY eL_law_331 rfl ?_
  refine z_aload hY eL_law_333 4 rfl ?_
  refine z_callVr (M' := mX8_thrown) (As := []) (rest := []) (r := z_i (ρ 0 0)) hY eL_law_334 (by rw [hg]; exact hS2.zth hG hB2) hS2.za40 (by decide) (Nat.le_of_ble_eq_true rfl) (by omega) ?_
  refine z_iload hY eL_law_337 1 rfl ?_
  refine z_icmpeq hY eL_law_339 (by omega) (fun _ => ?_) (fun hne => absurd hρ hne)
  refine z_iload hY eL_law_344 1 rfl ?_
  refine z_ifne hY eL_law_346 (by omega) (fun _ => ?_) (fun h0 => ?_)
  · refine z_goto hY eL_law_361 ?_
    exact z_sub [2, 3, 4, 5, 6, 7] rfl (z_widen (by omega) (by omega) (kk _ _ _ _ _ hS2 hJ2))
  · refine z_aload hY eL_law_349 5 rfl ?_
    refine z_const hY eL_law_350 ?_
    refine z_laload hY eL_law_351 hS2.zo1 (by omega) ?_
    refine z_iload hY eL_law_352 0 rfl ?_
    refine z_i2l hY eL_law_354 hr ?_
    refine z_lcmp hY eL_law_355 (by omega) ?_
    refine z_ifeq hY eL_law_356 (by have := z_cmp_s (f1 0) r; omega) (fun _ => ?_) (fun hne => absurd ((z_cmp_s (f1 0) r).2.2.1.mpr (hcr h0)) hne)
    refine z_goto hY eL_law_361 ?_
    exact z_sub [2, 3, 4, 5, 6, 7] rfl (z_widen (by omega) (by omega) (kk _ _ _ _ _ hS2 hJ2))
theorem w_c1 (hC : lC Y G b L xs i k n) (hS : lS G q A o1 o2 κ σ f g H) (hv : vD G q A o1 o2 J κ σ mX7_clearTape mX8_clearTape []) (kk : lK Y G b q A o1 o2 i k n J) : z_W Y 364 (lV b q (A 40) o1 o2 i) [] H k n := by
  obtain ⟨hY, hg, hX, hi, hc⟩ := hC
  have hX1 : z_Xs (z_gg Y) b L xs := by rw [hg]; exact hX
  have hG : z_OK G := by rw [← hg]; exact z_okG hY
  refine z_aload hY eL_law_364 1 rfl ?_
  obtain ⟨d1, mc, ms, d2, hd1, hd2, hmc, hms, ht⟩ := hv f g H hS
  obtain ⟨fs, hfs⟩ := hS.zq1
  refine z_callV (M' := mX7_clearTape) (As := []) (rest := []) (d1 := d1) (mc1 := mc) (ms1 := ms) (ψ1 := z_no) hY eL_law_365 (by rw [hg]; exact ht) hfs (by omega) (Nat.le_of_ble_eq_true rfl) (by omega) (fun _ _ z => False.elim z) (fun v1 h1 hv1 => ?_)
  obtain ⟨κ1, r, rfl, hr, hS1, hm⟩ := hv1
  unfold lsR at hr
  refine z_aload hY eL_law_368 2 rfl ?_
  refine z_callV (M' := mX8_clearTape) (As := []) (rest := [z_i r]) (d1 := d2) (mc1 := 0) (ms1 := 0) (ψ1 := z_no) hY eL_law_369 (by rw [hg]; exact hm) hS1.za40 (by omega) (Nat.le_of_ble_eq_true rfl) (by omega) (fun _ _ z => False.elim z) (fun v2 h2 hv2 => ?_)
  obtain ⟨ρ, rfl, hS2, hJ2⟩ := hv2
  refine z_icmpeq hY eL_law_372 (by omega) (fun _ => ?_) (fun hne => absurd rfl hne)
  exact z_sub [0, 1, 2, 3, 4, 5] rfl (z_widen (by omega) (by omega) (kk _ _ _ _ _ hS2 hJ2))
theorem w_c2 (hC : lC Y G b L xs i k n) (hS : lS G q A o1 o2 κ σ f g H) (hv : vW G q A o1 o2 J κ σ mL_setOrder hL_setOrder mX8_setOrder []) (kk : lK Y G b q A o1 o2 i k n J) : z_W Y 377 (lV b q (A 40) o1 o2 i) [] H k n := by
  obtain ⟨hY, hg, hX, hi, hc⟩ := hC
  have hX1 : z_Xs (z_gg Y) b L xs := by rw [hg]; exact hX
  have hG : z_OK G := by rw [← hg]; exact z_okG hY
  refine z_aload hY eL_law_377 1 rfl ?_
  refine z_aload hY eL_law_378 3 rfl ?_
  obtain ⟨d1, mc, ms, d2, hd1, hd2, hmc, hms, ht⟩ := hv f g H hS
  refine z_callSH (M' := mL_setOrder) (As := [.ref q, .ref o1]) (rest := []) (d1 := d1) (mc1 := mc) (ms1 := ms) hY eL_law_379 (by rw [hg]; exact ht) (by omega) (Nat.le_of_ble_eq_true rfl) (by omega) (fun v h1 hv1 => ?_)
  obtain ⟨κ1, f1, c, rfl, hS1, hf1, hc1, hm⟩ := hv1
  unfold lsR at hc1
  unfold lsR at hf1
  refine z_istore (ls' := [(6, z_i c), (0, .ref b), (1, .ref q), (2, .ref (A 40)), (3, .ref o1), (4, .ref o2), (5, z_i i)]) hY eL_law_382 rfl ?_
  refine z_aload hY eL_law_384 3 rfl ?_
  refine z_callV (M' := mX8_setOrder) (As := []) (rest := []) (d1 := d2) (mc1 := 0) (ms1 := 0) (ψ1 := z_no) hY eL_law_385 (by rw [hg]; exact hm) hS1.za40 (by omega) (Nat.le_of_ble_eq_true rfl) (by omega) (fun _ _ z => False.elim z) (fun v2 h2 hv2 => ?_)
  obtain ⟨r, ρ, rfl, hr, hS2, hρ, hcr, hB2, hJ2⟩ := hv2
  unfold lsR at hr
  refine z_istore (ls' := [(7, z_i r), (6, z_i c), (0, .ref b), (1, .ref q), (2, .ref (A 40)), (3, .ref o1), (4, .ref o2), (5, z_i i)]) hY eL_law_388 rfl ?_
  refine z_aload hY eL_law_390 4 rfl ?_
  refine z_callVr (M' := mX8_thrown) (As := []) (rest := []) (r := z_i (ρ 0 0)) hY eL_law_391 (by rw [hg]; exact hS2.zth hG hB2) hS2.za40 (by decide) (Nat.le_of_ble_eq_true rfl) (by omega) ?_
  refine z_iload hY eL_law_394 1 rfl ?_
  refine z_icmpeq hY eL_law_396 (by omega) (fun _ => ?_) (fun hne => absurd hρ hne)
  refine z_iload hY eL_law_401 1 rfl ?_
  refine z_ifne hY eL_law_403 (by omega) (fun _ => ?_) (fun h0 => ?_)
  · refine z_goto hY eL_law_418 ?_
    exact z_sub [2, 3, 4, 5, 6, 7] rfl (z_widen (by omega) (by omega) (kk _ _ _ _ _ hS2 hJ2))
  · refine z_aload hY eL_law_406 5 rfl ?_
    refine z_const hY eL_law_407 ?_
    refine z_laload hY eL_law_408 hS2.zo1 (by omega) ?_
    refine z_iload hY eL_law_409 0 rfl ?_
    refine z_i2l hY eL_law_411 hr ?_
    refine z_lcmp hY eL_law_412 (by omega) ?_
    refine z_ifeq hY eL_law_413 (by have := z_cmp_s (f1 0) r; omega) (fun _ => ?_) (fun hne => absurd ((z_cmp_s (f1 0) r).2.2.1.mpr (hcr h0)) hne)
    refine z_goto hY eL_law_418 ?_
    exact z_sub [2, 3, 4, 5, 6, 7] rfl (z_widen (by omega) (by omega) (kk _ _ _ _ _ hS2 hJ2))
theorem w_c3 (hC : lC Y G b L xs i k n) (hS : lS G q A o1 o2 κ σ f g H) (hv : vD G q A o1 o2 J κ σ mX7_errorPosition mX8_errorPosition []) (kk : lK Y G b q A o1 o2 i k n J) : z_W Y 421 (lV b q (A 40) o1 o2 i) [] H k n := by
  obtain ⟨hY, hg, hX, hi, hc⟩ := hC
  have hX1 : z_Xs (z_gg Y) b L xs := by rw [hg]; exact hX
  have hG : z_OK G := by rw [← hg]; exact z_okG hY
  refine z_aload hY eL_law_421 1 rfl ?_
  obtain ⟨d1, mc, ms, d2, hd1, hd2, hmc, hms, ht⟩ := hv f g H hS
  obtain ⟨fs, hfs⟩ := hS.zq1
  refine z_callV (M' := mX7_errorPosition) (As := []) (rest := []) (d1 := d1) (mc1 := mc) (ms1 := ms) (ψ1 := z_no) hY eL_law_422 (by rw [hg]; exact ht) hfs (by omega) (Nat.le_of_ble_eq_true rfl) (by omega) (fun _ _ z => False.elim z) (fun v1 h1 hv1 => ?_)
  obtain ⟨κ1, r, rfl, hr, hS1, hm⟩ := hv1
  unfold lsR at hr
  refine z_aload hY eL_law_425 2 rfl ?_
  refine z_callV (M' := mX8_errorPosition) (As := []) (rest := [z_i r]) (d1 := d2) (mc1 := 0) (ms1 := 0) (ψ1 := z_no) hY eL_law_426 (by rw [hg]; exact hm) hS1.za40 (by omega) (Nat.le_of_ble_eq_true rfl) (by omega) (fun _ _ z => False.elim z) (fun v2 h2 hv2 => ?_)
  obtain ⟨ρ, rfl, hS2, hJ2⟩ := hv2
  refine z_icmpeq hY eL_law_429 (by omega) (fun _ => ?_) (fun hne => absurd rfl hne)
  exact z_sub [0, 1, 2, 3, 4, 5] rfl (z_widen (by omega) (by omega) (kk _ _ _ _ _ hS2 hJ2))
theorem w_c4 (hC : lC Y G b L xs i k n) (hS : lS G q A o1 o2 κ σ f g H) (hv : vW G q A o1 o2 J κ σ mL_criterion hL_criterion mX8_criterion [z_i (zX xs (i + 1)), z_i (zX xs (i + 2))]) (kk : lK Y G b q A o1 o2 i k n J) : z_W Y 434 (lV b q (A 40) o1 o2 i) [] H k n := by
  obtain ⟨hY, hg, hX, hi, hc⟩ := hC
  have hX1 : z_Xs (z_gg Y) b L xs := by rw [hg]; exact hX
  have hG : z_OK G := by rw [← hg]; exact z_okG hY
  refine z_aload hY eL_law_434 1 rfl ?_
  refine z_aload hY eL_law_435 0 rfl ?_
  refine z_iload hY eL_law_436 5 rfl ?_
  refine z_const hY eL_law_438 ?_
  refine z_iadd hY eL_law_439 ?_
  refine z_sld hY eL_law_440 hX1 (by omega) ?_
  refine z_aload hY eL_law_441 0 rfl ?_
  refine z_iload hY eL_law_442 5 rfl ?_
  refine z_const hY eL_law_444 ?_
  refine z_iadd hY eL_law_445 ?_
  refine z_sld hY eL_law_446 hX1 (by omega) ?_
  refine z_aload hY eL_law_447 3 rfl ?_
  obtain ⟨d1, mc, ms, d2, hd1, hd2, hmc, hms, ht⟩ := hv f g H hS
  refine z_callSH (M' := mL_criterion) (As := [.ref q, z_i (zX xs (i + 1)), z_i (zX xs (i + 2)), .ref o1]) (rest := []) (d1 := d1) (mc1 := mc) (ms1 := ms) hY eL_law_448 (by rw [hg]; exact ht) (by omega) (Nat.le_of_ble_eq_true rfl) (by omega) (fun v h1 hv1 => ?_)
  obtain ⟨κ1, f1, c, rfl, hS1, hf1, hc1, hm⟩ := hv1
  unfold lsR at hc1
  unfold lsR at hf1
  refine z_istore (ls' := [(6, z_i c), (0, .ref b), (1, .ref q), (2, .ref (A 40)), (3, .ref o1), (4, .ref o2), (5, z_i i)]) hY eL_law_451 rfl ?_
  refine z_aload hY eL_law_453 3 rfl ?_
  refine z_aload hY eL_law_454 1 rfl ?_
  refine z_iload hY eL_law_455 6 rfl ?_
  refine z_const hY eL_law_457 ?_
  refine z_iadd hY eL_law_458 ?_
  refine z_sld hY eL_law_459 hX1 (by omega) ?_
  refine z_aload hY eL_law_460 1 rfl ?_
  refine z_iload hY eL_law_461 6 rfl ?_
  refine z_const hY eL_law_463 ?_
  refine z_iadd hY eL_law_464 ?_
  refine z_sld hY eL_law_465 hX1 (by omega) ?_
  refine z_callV (M' := mX8_criterion) (As := [z_i (zX xs (i + 1)), z_i (zX xs (i + 2))]) (rest := []) (d1 := d2) (mc1 := 0) (ms1 := 0) (ψ1 := z_no) hY eL_law_466 (by rw [hg]; exact hm) hS1.za40 (by omega) (Nat.le_of_ble_eq_true rfl) (by omega) (fun _ _ z => False.elim z) (fun v2 h2 hv2 => ?_)
  obtain ⟨r, ρ, rfl, hr, hS2, hρ, hcr, hB2, hJ2⟩ := hv2
  unfold lsR at hr
  refine z_istore (ls' := [(7, z_i r), (6, z_i c), (0, .ref b), (1, .ref q), (2, .ref (A 40)), (3, .ref o1), (4, .ref o2), (5, z_i i)]) hY eL_law_469 rfl ?_
  refine z_aload hY eL_law_471 4 rfl ?_
  refine z_callVr (M' := mX8_thrown) (As := []) (rest := []) (r := z_i (ρ 0 0)) hY eL_law_472 (by rw [hg]; exact hS2.zth hG hB2) hS2.za40 (by decide) (Nat.le_of_ble_eq_true rfl) (by omega) ?_
  refine z_iload hY eL_law_475 1 rfl ?_
  refine z_icmpeq hY eL_law_477 (by omega) (fun _ => ?_) (fun hne => absurd hρ hne)
  refine z_iload hY eL_law_482 1 rfl ?_
  refine z_ifne hY eL_law_484 (by omega) (fun _ => ?_) (fun h0 => ?_)
  · refine z_goto hY eL_law_499 ?_
    exact z_sub [2, 3, 4, 5, 6, 7] rfl (z_widen (by omega) (by omega) (kk _ _ _ _ _ hS2 hJ2))
  · refine z_aload hY eL_law_487 5 rfl ?_
    refine z_const hY eL_law_488 ?_
    refine z_laload hY eL_law_489 hS2.zo1 (by omega) ?_
    refine z_iload hY eL_law_490 0 rfl ?_
    refine z_i2l hY eL_law_492 hr ?_
    refine z_lcmp hY eL_law_493 (by omega) ?_
    refine z_ifeq hY eL_law_494 (by have := z_cmp_s (f1 0) r; omega) (fun _ => ?_) (fun hne => absurd ((z_cmp_s (f1 0) r).2.2.1.mpr (hcr h0)) hne)
    refine z_goto hY eL_law_499 ?_
    exact z_sub [2, 3, 4, 5, 6, 7] rfl (z_widen (by omega) (by omega) (kk _ _ _ _ _ hS2 hJ2))
theorem w_c5 (hC : lC Y G b L xs i k n) (hS : lS G q A o1 o2 κ σ f g H) (hv : vW G q A o1 o2 J κ σ mL_come hL_come mX8_come [z_i (zX xs (i + 1))]) (kk : lK Y G b q A o1 o2 i k n J) : z_W Y 502 (lV b q (A 40) o1 o2 i) [] H k n := by
  obtain ⟨hY, hg, hX, hi, hc⟩ := hC
  have hX1 : z_Xs (z_gg Y) b L xs := by rw [hg]; exact hX
  have hG : z_OK G := by rw [← hg]; exact z_okG hY
  refine z_aload hY eL_law_502 1 rfl ?_
  refine z_aload hY eL_law_503 0 rfl ?_
  refine z_iload hY eL_law_504 5 rfl ?_
  refine z_const hY eL_law_506 ?_
  refine z_iadd hY eL_law_507 ?_
  refine z_sld hY eL_law_508 hX1 (by omega) ?_
  refine z_aload hY eL_law_509 3 rfl ?_
  obtain ⟨d1, mc, ms, d2, hd1, hd2, hmc, hms, ht⟩ := hv f g H hS
  refine z_callSH (M' := mL_come) (As := [.ref q, z_i (zX xs (i + 1)), .ref o1]) (rest := []) (d1 := d1) (mc1 := mc) (ms1 := ms) hY eL_law_510 (by rw [hg]; exact ht) (by omega) (Nat.le_of_ble_eq_true rfl) (by omega) (fun v h1 hv1 => ?_)
  obtain ⟨κ1, f1, c, rfl, hS1, hf1, hc1, hm⟩ := hv1
  unfold lsR at hc1
  unfold lsR at hf1
  refine z_istore (ls' := [(6, z_i c), (0, .ref b), (1, .ref q), (2, .ref (A 40)), (3, .ref o1), (4, .ref o2), (5, z_i i)]) hY eL_law_513 rfl ?_
  refine z_aload hY eL_law_515 3 rfl ?_
  refine z_aload hY eL_law_516 1 rfl ?_
  refine z_iload hY eL_law_517 6 rfl ?_
  refine z_const hY eL_law_519 ?_
  refine z_iadd hY eL_law_520 ?_
  refine z_sld hY eL_law_521 hX1 (by omega) ?_
  refine z_callV (M' := mX8_come) (As := [z_i (zX xs (i + 1))]) (rest := []) (d1 := d2) (mc1 := 0) (ms1 := 0) (ψ1 := z_no) hY eL_law_522 (by rw [hg]; exact hm) hS1.za40 (by omega) (Nat.le_of_ble_eq_true rfl) (by omega) (fun _ _ z => False.elim z) (fun v2 h2 hv2 => ?_)
  obtain ⟨r, ρ, rfl, hr, hS2, hρ, hcr, hB2, hJ2⟩ := hv2
  unfold lsR at hr
  refine z_istore (ls' := [(7, z_i r), (6, z_i c), (0, .ref b), (1, .ref q), (2, .ref (A 40)), (3, .ref o1), (4, .ref o2), (5, z_i i)]) hY eL_law_525 rfl ?_
  refine z_aload hY eL_law_527 4 rfl ?_
  refine z_callVr (M' := mX8_thrown) (As := []) (rest := []) (r := z_i (ρ 0 0)) hY eL_law_528 (by rw [hg]; exact hS2.zth hG hB2) hS2.za40 (by decide) (Nat.le_of_ble_eq_true rfl) (by omega) ?_
  refine z_iload hY eL_law_531 1 rfl ?_
  refine z_icmpeq hY eL_law_533 (by omega) (fun _ => ?_) (fun hne => absurd hρ hne)
  refine z_iload hY eL_law_538 1 rfl ?_
  refine z_ifne hY eL_law_540 (by omega) (fun _ => ?_) (fun h0 => ?_)
  · refine z_goto hY eL_law_555 ?_
    exact z_sub [2, 3, 4, 5, 6, 7] rfl (z_widen (by omega) (by omega) (kk _ _ _ _ _ hS2 hJ2))
  · refine z_aload hY eL_law_543 5 rfl ?_
    refine z_const hY eL_law_544 ?_
    refine z_laload hY eL_law_545 hS2.zo1 (by omega) ?_
    refine z_iload hY eL_law_546 0 rfl ?_
    refine z_i2l hY eL_law_548 hr ?_
    refine z_lcmp hY eL_law_549 (by omega) ?_
    refine z_ifeq hY eL_law_550 (by have := z_cmp_s (f1 0) r; omega) (fun _ => ?_) (fun hne => absurd ((z_cmp_s (f1 0) r).2.2.1.mpr (hcr h0)) hne)
    refine z_goto hY eL_law_555 ?_
    exact z_sub [2, 3, 4, 5, 6, 7] rfl (z_widen (by omega) (by omega) (kk _ _ _ _ _ hS2 hJ2))
theorem w_c6 (hC : lC Y G b L xs i k n) (hS : lS G q A o1 o2 κ σ f g H) (hv : vW G q A o1 o2 J κ σ mL_leave hL_leave mX8_leave [z_i (zX xs (i + 1))]) (kk : lK Y G b q A o1 o2 i k n J) : z_W Y 558 (lV b q (A 40) o1 o2 i) [] H k n := by
  obtain ⟨hY, hg, hX, hi, hc⟩ := hC
  have hX1 : z_Xs (z_gg Y) b L xs := by rw [hg]; exact hX
  have hG : z_OK G := by rw [← hg]; exact z_okG hY
  refine z_aload hY eL_law_558 1 rfl ?_
  refine z_aload hY eL_law_559 0 rfl ?_
  refine z_iload hY eL_law_560 5 rfl ?_
  refine z_const hY eL_law_562 ?_
  refine z_iadd hY eL_law_563 ?_
  refine z_sld hY eL_law_564 hX1 (by omega) ?_
  refine z_aload hY eL_law_565 3 rfl ?_
  obtain ⟨d1, mc, ms, d2, hd1, hd2, hmc, hms, ht⟩ := hv f g H hS
  refine z_callSH (M' := mL_leave) (As := [.ref q, z_i (zX xs (i + 1)), .ref o1]) (rest := []) (d1 := d1) (mc1 := mc) (ms1 := ms) hY eL_law_566 (by rw [hg]; exact ht) (by omega) (Nat.le_of_ble_eq_true rfl) (by omega) (fun v h1 hv1 => ?_)
  obtain ⟨κ1, f1, c, rfl, hS1, hf1, hc1, hm⟩ := hv1
  unfold lsR at hc1
  unfold lsR at hf1
  refine z_istore (ls' := [(6, z_i c), (0, .ref b), (1, .ref q), (2, .ref (A 40)), (3, .ref o1), (4, .ref o2), (5, z_i i)]) hY eL_law_569 rfl ?_
  refine z_aload hY eL_law_571 3 rfl ?_
  refine z_aload hY eL_law_572 1 rfl ?_
  refine z_iload hY eL_law_573 6 rfl ?_
  refine z_const hY eL_law_575 ?_
  refine z_iadd hY eL_law_576 ?_
  refine z_sld hY eL_law_577 hX1 (by omega) ?_
  refine z_callV (M' := mX8_leave) (As := [z_i (zX xs (i + 1))]) (rest := []) (d1 := d2) (mc1 := 0) (ms1 := 0) (ψ1 := z_no) hY eL_law_578 (by rw [hg]; exact hm) hS1.za40 (by omega) (Nat.le_of_ble_eq_true rfl) (by omega) (fun _ _ z => False.elim z) (fun v2 h2 hv2 => ?_)
  obtain ⟨r, ρ, rfl, hr, hS2, hρ, hcr, hB2, hJ2⟩ := hv2
  unfold lsR at hr
  refine z_istore (ls' := [(7, z_i r), (6, z_i c), (0, .ref b), (1, .ref q), (2, .ref (A 40)), (3, .ref o1), (4, .ref o2), (5, z_i i)]) hY eL_law_581 rfl ?_
  refine z_aload hY eL_law_583 4 rfl ?_
  refine z_callVr (M' := mX8_thrown) (As := []) (rest := []) (r := z_i (ρ 0 0)) hY eL_law_584 (by rw [hg]; exact hS2.zth hG hB2) hS2.za40 (by decide) (Nat.le_of_ble_eq_true rfl) (by omega) ?_
  refine z_iload hY eL_law_587 1 rfl ?_
  refine z_icmpeq hY eL_law_589 (by omega) (fun _ => ?_) (fun hne => absurd hρ hne)
  refine z_iload hY eL_law_594 1 rfl ?_
  refine z_ifne hY eL_law_596 (by omega) (fun _ => ?_) (fun h0 => ?_)
  · refine z_goto hY eL_law_611 ?_
    exact z_sub [2, 3, 4, 5, 6, 7] rfl (z_widen (by omega) (by omega) (kk _ _ _ _ _ hS2 hJ2))
  · refine z_aload hY eL_law_599 5 rfl ?_
    refine z_const hY eL_law_600 ?_
    refine z_laload hY eL_law_601 hS2.zo1 (by omega) ?_
    refine z_iload hY eL_law_602 0 rfl ?_
    refine z_i2l hY eL_law_604 hr ?_
    refine z_lcmp hY eL_law_605 (by omega) ?_
    refine z_ifeq hY eL_law_606 (by have := z_cmp_s (f1 0) r; omega) (fun _ => ?_) (fun hne => absurd ((z_cmp_s (f1 0) r).2.2.1.mpr (hcr h0)) hne)
    refine z_goto hY eL_law_611 ?_
    exact z_sub [2, 3, 4, 5, 6, 7] rfl (z_widen (by omega) (by omega) (kk _ _ _ _ _ hS2 hJ2))
theorem w_c7 (hC : lC Y G b L xs i k n) (hS : lS G q A o1 o2 κ σ f g H) (hv : vW G q A o1 o2 J κ σ mL_score hL_score mX8_score [z_i (zX xs (i + 1)), z_i (zX xs (i + 2)), z_i (zX xs (i + 3))]) (kk : lK Y G b q A o1 o2 i k n J) : z_W Y 614 (lV b q (A 40) o1 o2 i) [] H k n := by
  obtain ⟨hY, hg, hX, hi, hc⟩ := hC
  have hX1 : z_Xs (z_gg Y) b L xs := by rw [hg]; exact hX
  have hG : z_OK G := by rw [← hg]; exact z_okG hY
  refine z_aload hY eL_law_614 1 rfl ?_
  refine z_aload hY eL_law_615 0 rfl ?_
  refine z_iload hY eL_law_616 5 rfl ?_
  refine z_const hY eL_law_618 ?_
  refine z_iadd hY eL_law_619 ?_
  refine z_sld hY eL_law_620 hX1 (by omega) ?_
  refine z_aload hY eL_law_621 0 rfl ?_
  refine z_iload hY eL_law_622 5 rfl ?_
  refine z_const hY eL_law_624 ?_
  refine z_iadd hY eL_law_625 ?_
  refine z_sld hY eL_law_626 hX1 (by omega) ?_
  refine z_aload hY eL_law_627 0 rfl ?_
  refine z_iload hY eL_law_628 5 rfl ?_
  refine z_const hY eL_law_630 ?_
  refine z_iadd hY eL_law_631 ?_
  refine z_sld hY eL_law_632 hX1 (by omega) ?_
  refine z_aload hY eL_law_633 3 rfl ?_
  obtain ⟨d1, mc, ms, d2, hd1, hd2, hmc, hms, ht⟩ := hv f g H hS
  refine z_callSH (M' := mL_score) (As := [.ref q, z_i (zX xs (i + 1)), z_i (zX xs (i + 2)), z_i (zX xs (i + 3)), .ref o1]) (rest := []) (d1 := d1) (mc1 := mc) (ms1 := ms) hY eL_law_634 (by rw [hg]; exact ht) (by omega) (Nat.le_of_ble_eq_true rfl) (by omega) (fun v h1 hv1 => ?_)
  obtain ⟨κ1, f1, c, rfl, hS1, hf1, hc1, hm⟩ := hv1
  unfold lsR at hc1
  unfold lsR at hf1
  refine z_istore (ls' := [(6, z_i c), (0, .ref b), (1, .ref q), (2, .ref (A 40)), (3, .ref o1), (4, .ref o2), (5, z_i i)]) hY eL_law_637 rfl ?_
  refine z_aload hY eL_law_639 3 rfl ?_
  refine z_aload hY eL_law_640 1 rfl ?_
  refine z_iload hY eL_law_641 6 rfl ?_
  refine z_const hY eL_law_643 ?_
  refine z_iadd hY eL_law_644 ?_
  refine z_sld hY eL_law_645 hX1 (by omega) ?_
  refine z_aload hY eL_law_646 1 rfl ?_
  refine z_iload hY eL_law_647 6 rfl ?_
  refine z_const hY eL_law_649 ?_
  refine z_iadd hY eL_law_650 ?_
  refine z_sld hY eL_law_651 hX1 (by omega) ?_
  refine z_aload hY eL_law_652 1 rfl ?_
  refine z_iload hY eL_law_653 6 rfl ?_
  refine z_const hY eL_law_655 ?_
  refine z_iadd hY eL_law_656 ?_
  refine z_sld hY eL_law_657 hX1 (by omega) ?_
  refine z_callV (M' := mX8_score) (As := [z_i (zX xs (i + 1)), z_i (zX xs (i + 2)), z_i (zX xs (i + 3))]) (rest := []) (d1 := d2) (mc1 := 0) (ms1 := 0) (ψ1 := z_no) hY eL_law_658 (by rw [hg]; exact hm) hS1.za40 (by omega) (Nat.le_of_ble_eq_true rfl) (by omega) (fun _ _ z => False.elim z) (fun v2 h2 hv2 => ?_)
  obtain ⟨r, ρ, rfl, hr, hS2, hρ, hcr, hB2, hJ2⟩ := hv2
  unfold lsR at hr
  refine z_istore (ls' := [(7, z_i r), (6, z_i c), (0, .ref b), (1, .ref q), (2, .ref (A 40)), (3, .ref o1), (4, .ref o2), (5, z_i i)]) hY eL_law_661 rfl ?_
  refine z_aload hY eL_law_663 4 rfl ?_
  refine z_callVr (M' := mX8_thrown) (As := []) (rest := []) (r := z_i (ρ 0 0)) hY eL_law_664 (by rw [hg]; exact hS2.zth hG hB2) hS2.za40 (by decide) (Nat.le_of_ble_eq_true rfl) (by omega) ?_
  refine z_iload hY eL_law_667 1 rfl ?_
  refine z_icmpeq hY eL_law_669 (by omega) (fun _ => ?_) (fun hne => absurd hρ hne)
  refine z_iload hY eL_law_674 1 rfl ?_
  refine z_ifne hY eL_law_676 (by omega) (fun _ => ?_) (fun h0 => ?_)
  · refine z_goto hY eL_law_691 ?_
    exact z_sub [2, 3, 4, 5, 6, 7] rfl (z_widen (by omega) (by omega) (kk _ _ _ _ _ hS2 hJ2))
  · refine z_aload hY eL_law_679 5 rfl ?_
    refine z_const hY eL_law_680 ?_
    refine z_laload hY eL_law_681 hS2.zo1 (by omega) ?_
    refine z_iload hY eL_law_682 0 rfl ?_
    refine z_i2l hY eL_law_684 hr ?_
    refine z_lcmp hY eL_law_685 (by omega) ?_
    refine z_ifeq hY eL_law_686 (by have := z_cmp_s (f1 0) r; omega) (fun _ => ?_) (fun hne => absurd ((z_cmp_s (f1 0) r).2.2.1.mpr (hcr h0)) hne)
    refine z_goto hY eL_law_691 ?_
    exact z_sub [2, 3, 4, 5, 6, 7] rfl (z_widen (by omega) (by omega) (kk _ _ _ _ _ hS2 hJ2))
theorem w_c8 (hC : lC Y G b L xs i k n) (hS : lS G q A o1 o2 κ σ f g H) (hv : vW G q A o1 o2 J κ σ mL_setScore hL_setScore mX8_setScore [z_i (zX xs (i + 1)), z_i (zX xs (i + 2)), z_i (zX xs (i + 3))]) (kk : lK Y G b q A o1 o2 i k n J) : z_W Y 694 (lV b q (A 40) o1 o2 i) [] H k n := by
  obtain ⟨hY, hg, hX, hi, hc⟩ := hC
  have hX1 : z_Xs (z_gg Y) b L xs := by rw [hg]; exact hX
  have hG : z_OK G := by rw [← hg]; exact z_okG hY
  refine z_aload hY eL_law_694 1 rfl ?_
  refine z_aload hY eL_law_695 0 rfl ?_
  refine z_iload hY eL_law_696 5 rfl ?_
  refine z_const hY eL_law_698 ?_
  refine z_iadd hY eL_law_699 ?_
  refine z_sld hY eL_law_700 hX1 (by omega) ?_
  refine z_aload hY eL_law_701 0 rfl ?_
  refine z_iload hY eL_law_702 5 rfl ?_
  refine z_const hY eL_law_704 ?_
  refine z_iadd hY eL_law_705 ?_
  refine z_sld hY eL_law_706 hX1 (by omega) ?_
  refine z_aload hY eL_law_707 0 rfl ?_
  refine z_iload hY eL_law_708 5 rfl ?_
  refine z_const hY eL_law_710 ?_
  refine z_iadd hY eL_law_711 ?_
  refine z_sld hY eL_law_712 hX1 (by omega) ?_
  refine z_aload hY eL_law_713 3 rfl ?_
  obtain ⟨d1, mc, ms, d2, hd1, hd2, hmc, hms, ht⟩ := hv f g H hS
  refine z_callSH (M' := mL_setScore) (As := [.ref q, z_i (zX xs (i + 1)), z_i (zX xs (i + 2)), z_i (zX xs (i + 3)), .ref o1]) (rest := []) (d1 := d1) (mc1 := mc) (ms1 := ms) hY eL_law_714 (by rw [hg]; exact ht) (by omega) (Nat.le_of_ble_eq_true rfl) (by omega) (fun v h1 hv1 => ?_)
  obtain ⟨κ1, f1, c, rfl, hS1, hf1, hc1, hm⟩ := hv1
  unfold lsR at hc1
  unfold lsR at hf1
  refine z_istore (ls' := [(6, z_i c), (0, .ref b), (1, .ref q), (2, .ref (A 40)), (3, .ref o1), (4, .ref o2), (5, z_i i)]) hY eL_law_717 rfl ?_
  refine z_aload hY eL_law_719 3 rfl ?_
  refine z_aload hY eL_law_720 1 rfl ?_
  refine z_iload hY eL_law_721 6 rfl ?_
  refine z_const hY eL_law_723 ?_
  refine z_iadd hY eL_law_724 ?_
  refine z_sld hY eL_law_725 hX1 (by omega) ?_
  refine z_aload hY eL_law_726 1 rfl ?_
  refine z_iload hY eL_law_727 6 rfl ?_
  refine z_const hY eL_law_729 ?_
  refine z_iadd hY eL_law_730 ?_
  refine z_sld hY eL_law_731 hX1 (by omega) ?_
  refine z_aload hY eL_law_732 1 rfl ?_
  refine z_iload hY eL_law_733 6 rfl ?_
  refine z_const hY eL_law_735 ?_
  refine z_iadd hY eL_law_736 ?_
  refine z_sld hY eL_law_737 hX1 (by omega) ?_
  refine z_callV (M' := mX8_setScore) (As := [z_i (zX xs (i + 1)), z_i (zX xs (i + 2)), z_i (zX xs (i + 3))]) (rest := []) (d1 := d2) (mc1 := 0) (ms1 := 0) (ψ1 := z_no) hY eL_law_738 (by rw [hg]; exact hm) hS1.za40 (by omega) (Nat.le_of_ble_eq_true rfl) (by omega) (fun _ _ z => False.elim z) (fun v2 h2 hv2 => ?_)
  obtain ⟨r, ρ, rfl, hr, hS2, hρ, hcr, hB2, hJ2⟩ := hv2
  unfold lsR at hr
  refine z_istore (ls' := [(7, z_i r), (6, z_i c), (0, .ref b), (1, .ref q), (2, .ref (A 40)), (3, .ref o1), (4, .ref o2), (5, z_i i)]) hY eL_law_741 rfl ?_
  refine z_aload hY eL_law_743 4 rfl ?_
  refine z_callVr (M' := mX8_thrown) (As := []) (rest := []) (r := z_i (ρ 0 0)) hY eL_law_744 (by rw [hg]; exact hS2.zth hG hB2) hS2.za40 (by decide) (Nat.le_of_ble_eq_true rfl) (by omega) ?_
  refine z_iload hY eL_law_747 1 rfl ?_
  refine z_icmpeq hY eL_law_749 (by omega) (fun _ => ?_) (fun hne => absurd hρ hne)
  refine z_iload hY eL_law_754 1 rfl ?_
  refine z_ifne hY eL_law_756 (by omega) (fun _ => ?_) (fun h0 => ?_)
  · refine z_goto hY eL_law_771 ?_
    exact z_sub [2, 3, 4, 5, 6, 7] rfl (z_widen (by omega) (by omega) (kk _ _ _ _ _ hS2 hJ2))
  · refine z_aload hY eL_law_759 5 rfl ?_
    refine z_const hY eL_law_760 ?_
    refine z_laload hY eL_law_761 hS2.zo1 (by omega) ?_
    refine z_iload hY eL_law_762 0 rfl ?_
    refine z_i2l hY eL_law_764 hr ?_
    refine z_lcmp hY eL_law_765 (by omega) ?_
    refine z_ifeq hY eL_law_766 (by have := z_cmp_s (f1 0) r; omega) (fun _ => ?_) (fun hne => absurd ((z_cmp_s (f1 0) r).2.2.1.mpr (hcr h0)) hne)
    refine z_goto hY eL_law_771 ?_
    exact z_sub [2, 3, 4, 5, 6, 7] rfl (z_widen (by omega) (by omega) (kk _ _ _ _ _ hS2 hJ2))
theorem w_c9 (hC : lC Y G b L xs i k n) (hS : lS G q A o1 o2 κ σ f g H) (hv : vW G q A o1 o2 J κ σ mL_scoreOf hL_scoreOf mX8_scoreOf [z_i (zX xs (i + 1)), z_i (zX xs (i + 2))]) (kk : lK Y G b q A o1 o2 i k n J) : z_W Y 774 (lV b q (A 40) o1 o2 i) [] H k n := by
  obtain ⟨hY, hg, hX, hi, hc⟩ := hC
  have hX1 : z_Xs (z_gg Y) b L xs := by rw [hg]; exact hX
  have hG : z_OK G := by rw [← hg]; exact z_okG hY
  refine z_aload hY eL_law_774 1 rfl ?_
  refine z_aload hY eL_law_775 0 rfl ?_
  refine z_iload hY eL_law_776 5 rfl ?_
  refine z_const hY eL_law_778 ?_
  refine z_iadd hY eL_law_779 ?_
  refine z_sld hY eL_law_780 hX1 (by omega) ?_
  refine z_aload hY eL_law_781 0 rfl ?_
  refine z_iload hY eL_law_782 5 rfl ?_
  refine z_const hY eL_law_784 ?_
  refine z_iadd hY eL_law_785 ?_
  refine z_sld hY eL_law_786 hX1 (by omega) ?_
  refine z_aload hY eL_law_787 3 rfl ?_
  obtain ⟨d1, mc, ms, d2, hd1, hd2, hmc, hms, ht⟩ := hv f g H hS
  refine z_callSH (M' := mL_scoreOf) (As := [.ref q, z_i (zX xs (i + 1)), z_i (zX xs (i + 2)), .ref o1]) (rest := []) (d1 := d1) (mc1 := mc) (ms1 := ms) hY eL_law_788 (by rw [hg]; exact ht) (by omega) (Nat.le_of_ble_eq_true rfl) (by omega) (fun v h1 hv1 => ?_)
  obtain ⟨κ1, f1, c, rfl, hS1, hf1, hc1, hm⟩ := hv1
  unfold lsR at hc1
  unfold lsR at hf1
  refine z_istore (ls' := [(6, z_i c), (0, .ref b), (1, .ref q), (2, .ref (A 40)), (3, .ref o1), (4, .ref o2), (5, z_i i)]) hY eL_law_791 rfl ?_
  refine z_aload hY eL_law_793 3 rfl ?_
  refine z_aload hY eL_law_794 1 rfl ?_
  refine z_iload hY eL_law_795 6 rfl ?_
  refine z_const hY eL_law_797 ?_
  refine z_iadd hY eL_law_798 ?_
  refine z_sld hY eL_law_799 hX1 (by omega) ?_
  refine z_aload hY eL_law_800 1 rfl ?_
  refine z_iload hY eL_law_801 6 rfl ?_
  refine z_const hY eL_law_803 ?_
  refine z_iadd hY eL_law_804 ?_
  refine z_sld hY eL_law_805 hX1 (by omega) ?_
  refine z_callV (M' := mX8_scoreOf) (As := [z_i (zX xs (i + 1)), z_i (zX xs (i + 2))]) (rest := []) (d1 := d2) (mc1 := 0) (ms1 := 0) (ψ1 := z_no) hY eL_law_806 (by rw [hg]; exact hm) hS1.za40 (by omega) (Nat.le_of_ble_eq_true rfl) (by omega) (fun _ _ z => False.elim z) (fun v2 h2 hv2 => ?_)
  obtain ⟨r, ρ, rfl, hr, hS2, hρ, hcr, hB2, hJ2⟩ := hv2
  unfold lsR at hr
  refine z_istore (ls' := [(7, z_i r), (6, z_i c), (0, .ref b), (1, .ref q), (2, .ref (A 40)), (3, .ref o1), (4, .ref o2), (5, z_i i)]) hY eL_law_809 rfl ?_
  refine z_aload hY eL_law_811 4 rfl ?_
  refine z_callVr (M' := mX8_thrown) (As := []) (rest := []) (r := z_i (ρ 0 0)) hY eL_law_812 (by rw [hg]; exact hS2.zth hG hB2) hS2.za40 (by decide) (Nat.le_of_ble_eq_true rfl) (by omega) ?_
  refine z_iload hY eL_law_815 1 rfl ?_
  refine z_icmpeq hY eL_law_817 (by omega) (fun _ => ?_) (fun hne => absurd hρ hne)
  refine z_iload hY eL_law_822 1 rfl ?_
  refine z_ifne hY eL_law_824 (by omega) (fun _ => ?_) (fun h0 => ?_)
  · refine z_goto hY eL_law_839 ?_
    exact z_sub [2, 3, 4, 5, 6, 7] rfl (z_widen (by omega) (by omega) (kk _ _ _ _ _ hS2 hJ2))
  · refine z_aload hY eL_law_827 5 rfl ?_
    refine z_const hY eL_law_828 ?_
    refine z_laload hY eL_law_829 hS2.zo1 (by omega) ?_
    refine z_iload hY eL_law_830 0 rfl ?_
    refine z_i2l hY eL_law_832 hr ?_
    refine z_lcmp hY eL_law_833 (by omega) ?_
    refine z_ifeq hY eL_law_834 (by have := z_cmp_s (f1 0) r; omega) (fun _ => ?_) (fun hne => absurd ((z_cmp_s (f1 0) r).2.2.1.mpr (hcr h0)) hne)
    refine z_goto hY eL_law_839 ?_
    exact z_sub [2, 3, 4, 5, 6, 7] rfl (z_widen (by omega) (by omega) (kk _ _ _ _ _ hS2 hJ2))
end LC1
