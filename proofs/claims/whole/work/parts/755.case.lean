section LC41
variable {Y : z_Y} {G : z_G} {b q o1 o2 L : Nat} {A : Nat → Nat} {xs : Nat → Int32} {J : c_K → z_S → Prop} {κ : c_K} {σ : z_S} {f : Int → Int} {g : Int → UInt64} {H : z_H} {i : Int} {k n : Nat}
theorem w_c40 (hC : lC Y G b L xs i k n) (hS : lS G q A o1 o2 κ σ f g H) (hv : vW G q A o1 o2 J κ σ mL_climb hL_climb mX8_climb [z_i (zX xs (i + 1))]) (kk : lK Y G b q A o1 o2 i k n J) : z_W Y 2433 (lV b q (A 40) o1 o2 i) [] H k n := by
  obtain ⟨hY, hg, hX, hi, hc⟩ := hC
  have hX1 : z_Xs (z_gg Y) b L xs := by rw [hg]; exact hX
  have hG : z_OK G := by rw [← hg]; exact z_okG hY
  refine z_aload hY eL_law_2433 1 rfl ?_
  refine z_aload hY eL_law_2434 0 rfl ?_
  refine z_iload hY eL_law_2435 5 rfl ?_
  refine z_const hY eL_law_2437 ?_
  refine z_iadd hY eL_law_2438 ?_
  refine z_sld hY eL_law_2439 hX1 (by omega) ?_
  refine z_aload hY eL_law_2440 3 rfl ?_
  obtain ⟨d1, mc, ms, d2, hd1, hd2, hmc, hms, ht⟩ := hv f g H hS
  refine z_callSH (M' := mL_climb) (As := [.ref q, z_i (zX xs (i + 1)), .ref o1]) (rest := []) (d1 := d1) (mc1 := mc) (ms1 := ms) hY eL_law_2441 (by rw [hg]; exact ht) (by omega) (Nat.le_of_ble_eq_true rfl) (by omega) (fun v h1 hv1 => ?_)
  obtain ⟨κ1, f1, c, rfl, hS1, hf1, hc1, hm⟩ := hv1
  unfold lsR at hc1
  unfold lsR at hf1
  refine z_istore (ls' := [(6, z_i c), (0, .ref b), (1, .ref q), (2, .ref (A 40)), (3, .ref o1), (4, .ref o2), (5, z_i i)]) hY eL_law_2444 rfl ?_
  refine z_aload hY eL_law_2446 3 rfl ?_
  refine z_aload hY eL_law_2447 1 rfl ?_
  refine z_iload hY eL_law_2448 6 rfl ?_
  refine z_const hY eL_law_2450 ?_
  refine z_iadd hY eL_law_2451 ?_
  refine z_sld hY eL_law_2452 hX1 (by omega) ?_
  refine z_callV (M' := mX8_climb) (As := [z_i (zX xs (i + 1))]) (rest := []) (d1 := d2) (mc1 := 0) (ms1 := 0) (ψ1 := z_no) hY eL_law_2453 (by rw [hg]; exact hm) hS1.za40 (by omega) (Nat.le_of_ble_eq_true rfl) (by omega) (fun _ _ z => False.elim z) (fun v2 h2 hv2 => ?_)
  obtain ⟨r, ρ, rfl, hr, hS2, hρ, hcr, hB2, hJ2⟩ := hv2
  unfold lsR at hr
  refine z_istore (ls' := [(7, z_i r), (6, z_i c), (0, .ref b), (1, .ref q), (2, .ref (A 40)), (3, .ref o1), (4, .ref o2), (5, z_i i)]) hY eL_law_2456 rfl ?_
  refine z_aload hY eL_law_2458 4 rfl ?_
  refine z_callVr (M' := mX8_thrown) (As := []) (rest := []) (r := z_i (ρ 0 0)) hY eL_law_2459 (by rw [hg]; exact hS2.zth hG hB2) hS2.za40 (by decide) (Nat.le_of_ble_eq_true rfl) (by omega) ?_
  refine z_iload hY eL_law_2462 1 rfl ?_
  refine z_icmpeq hY eL_law_2464 (by omega) (fun _ => ?_) (fun hne => absurd hρ hne)
  refine z_iload hY eL_law_2469 1 rfl ?_
  refine z_ifne hY eL_law_2471 (by omega) (fun _ => ?_) (fun h0 => ?_)
  · refine z_goto hY eL_law_2486 ?_
    exact z_sub [2, 3, 4, 5, 6, 7] rfl (z_widen (by omega) (by omega) (kk _ _ _ _ _ hS2 hJ2))
  · refine z_aload hY eL_law_2474 5 rfl ?_
    refine z_const hY eL_law_2475 ?_
    refine z_laload hY eL_law_2476 hS2.zo1 (by omega) ?_
    refine z_iload hY eL_law_2477 0 rfl ?_
    refine z_i2l hY eL_law_2479 hr ?_
    refine z_lcmp hY eL_law_2480 (by omega) ?_
    refine z_ifeq hY eL_law_2481 (by have := z_cmp_s (f1 0) r; omega) (fun _ => ?_) (fun hne => absurd ((z_cmp_s (f1 0) r).2.2.1.mpr (hcr h0)) hne)
    refine z_goto hY eL_law_2486 ?_
    exact z_sub [2, 3, 4, 5, 6, 7] rfl (z_widen (by omega) (by omega) (kk _ _ _ _ _ hS2 hJ2))
theorem w_c41 (hC : lC Y G b L xs i k n) (hS : lS G q A o1 o2 κ σ f g H) (hv : vW G q A o1 o2 J κ σ mL_best hL_best mX8_best [z_i (zX xs (i + 1))]) (kk : lK Y G b q A o1 o2 i k n J) : z_W Y 2489 (lV b q (A 40) o1 o2 i) [] H k n := by
  obtain ⟨hY, hg, hX, hi, hc⟩ := hC
  have hX1 : z_Xs (z_gg Y) b L xs := by rw [hg]; exact hX
  have hG : z_OK G := by rw [← hg]; exact z_okG hY
  refine z_aload hY eL_law_2489 1 rfl ?_
  refine z_aload hY eL_law_2490 0 rfl ?_
  refine z_iload hY eL_law_2491 5 rfl ?_
  refine z_const hY eL_law_2493 ?_
  refine z_iadd hY eL_law_2494 ?_
  refine z_sld hY eL_law_2495 hX1 (by omega) ?_
  refine z_aload hY eL_law_2496 3 rfl ?_
  obtain ⟨d1, mc, ms, d2, hd1, hd2, hmc, hms, ht⟩ := hv f g H hS
  refine z_callSH (M' := mL_best) (As := [.ref q, z_i (zX xs (i + 1)), .ref o1]) (rest := []) (d1 := d1) (mc1 := mc) (ms1 := ms) hY eL_law_2497 (by rw [hg]; exact ht) (by omega) (Nat.le_of_ble_eq_true rfl) (by omega) (fun v h1 hv1 => ?_)
  obtain ⟨κ1, f1, c, rfl, hS1, hf1, hc1, hm⟩ := hv1
  unfold lsR at hc1
  unfold lsR at hf1
  refine z_istore (ls' := [(6, z_i c), (0, .ref b), (1, .ref q), (2, .ref (A 40)), (3, .ref o1), (4, .ref o2), (5, z_i i)]) hY eL_law_2500 rfl ?_
  refine z_aload hY eL_law_2502 3 rfl ?_
  refine z_aload hY eL_law_2503 1 rfl ?_
  refine z_iload hY eL_law_2504 6 rfl ?_
  refine z_const hY eL_law_2506 ?_
  refine z_iadd hY eL_law_2507 ?_
  refine z_sld hY eL_law_2508 hX1 (by omega) ?_
  refine z_callV (M' := mX8_best) (As := [z_i (zX xs (i + 1))]) (rest := []) (d1 := d2) (mc1 := 0) (ms1 := 0) (ψ1 := z_no) hY eL_law_2509 (by rw [hg]; exact hm) hS1.za40 (by omega) (Nat.le_of_ble_eq_true rfl) (by omega) (fun _ _ z => False.elim z) (fun v2 h2 hv2 => ?_)
  obtain ⟨r, ρ, rfl, hr, hS2, hρ, hcr, hB2, hJ2⟩ := hv2
  unfold lsR at hr
  refine z_istore (ls' := [(7, z_i r), (6, z_i c), (0, .ref b), (1, .ref q), (2, .ref (A 40)), (3, .ref o1), (4, .ref o2), (5, z_i i)]) hY eL_law_2512 rfl ?_
  refine z_aload hY eL_law_2514 4 rfl ?_
  refine z_callVr (M' := mX8_thrown) (As := []) (rest := []) (r := z_i (ρ 0 0)) hY eL_law_2515 (by rw [hg]; exact hS2.zth hG hB2) hS2.za40 (by decide) (Nat.le_of_ble_eq_true rfl) (by omega) ?_
  refine z_iload hY eL_law_2518 1 rfl ?_
  refine z_icmpeq hY eL_law_2520 (by omega) (fun _ => ?_) (fun hne => absurd hρ hne)
  refine z_iload hY eL_law_2525 1 rfl ?_
  refine z_ifne hY eL_law_2527 (by omega) (fun _ => ?_) (fun h0 => ?_)
  · refine z_goto hY eL_law_2542 ?_
    exact z_sub [2, 3, 4, 5, 6, 7] rfl (z_widen (by omega) (by omega) (kk _ _ _ _ _ hS2 hJ2))
  · refine z_aload hY eL_law_2530 5 rfl ?_
    refine z_const hY eL_law_2531 ?_
    refine z_laload hY eL_law_2532 hS2.zo1 (by omega) ?_
    refine z_iload hY eL_law_2533 0 rfl ?_
    refine z_i2l hY eL_law_2535 hr ?_
    refine z_lcmp hY eL_law_2536 (by omega) ?_
    refine z_ifeq hY eL_law_2537 (by have := z_cmp_s (f1 0) r; omega) (fun _ => ?_) (fun hne => absurd ((z_cmp_s (f1 0) r).2.2.1.mpr (hcr h0)) hne)
    refine z_goto hY eL_law_2542 ?_
    exact z_sub [2, 3, 4, 5, 6, 7] rfl (z_widen (by omega) (by omega) (kk _ _ _ _ _ hS2 hJ2))
theorem w_c42 (hC : lC Y G b L xs i k n) (hS : lS G q A o1 o2 κ σ f g H) (hv : vW G q A o1 o2 J κ σ mL_members hL_members mX8_members [z_i (zX xs (i + 1))]) (kk : lK Y G b q A o1 o2 i k n J) : z_W Y 2545 (lV b q (A 40) o1 o2 i) [] H k n := by
  obtain ⟨hY, hg, hX, hi, hc⟩ := hC
  have hX1 : z_Xs (z_gg Y) b L xs := by rw [hg]; exact hX
  have hG : z_OK G := by rw [← hg]; exact z_okG hY
  refine z_aload hY eL_law_2545 1 rfl ?_
  refine z_aload hY eL_law_2546 0 rfl ?_
  refine z_iload hY eL_law_2547 5 rfl ?_
  refine z_const hY eL_law_2549 ?_
  refine z_iadd hY eL_law_2550 ?_
  refine z_sld hY eL_law_2551 hX1 (by omega) ?_
  refine z_aload hY eL_law_2552 3 rfl ?_
  obtain ⟨d1, mc, ms, d2, hd1, hd2, hmc, hms, ht⟩ := hv f g H hS
  refine z_callSH (M' := mL_members) (As := [.ref q, z_i (zX xs (i + 1)), .ref o1]) (rest := []) (d1 := d1) (mc1 := mc) (ms1 := ms) hY eL_law_2553 (by rw [hg]; exact ht) (by omega) (Nat.le_of_ble_eq_true rfl) (by omega) (fun v h1 hv1 => ?_)
  obtain ⟨κ1, f1, c, rfl, hS1, hf1, hc1, hm⟩ := hv1
  unfold lsR at hc1
  unfold lsR at hf1
  refine z_istore (ls' := [(6, z_i c), (0, .ref b), (1, .ref q), (2, .ref (A 40)), (3, .ref o1), (4, .ref o2), (5, z_i i)]) hY eL_law_2556 rfl ?_
  refine z_aload hY eL_law_2558 3 rfl ?_
  refine z_aload hY eL_law_2559 1 rfl ?_
  refine z_iload hY eL_law_2560 6 rfl ?_
  refine z_const hY eL_law_2562 ?_
  refine z_iadd hY eL_law_2563 ?_
  refine z_sld hY eL_law_2564 hX1 (by omega) ?_
  refine z_callV (M' := mX8_members) (As := [z_i (zX xs (i + 1))]) (rest := []) (d1 := d2) (mc1 := 0) (ms1 := 0) (ψ1 := z_no) hY eL_law_2565 (by rw [hg]; exact hm) hS1.za40 (by omega) (Nat.le_of_ble_eq_true rfl) (by omega) (fun _ _ z => False.elim z) (fun v2 h2 hv2 => ?_)
  obtain ⟨r, ρ, rfl, hr, hS2, hρ, hcr, hB2, hJ2⟩ := hv2
  unfold lsR at hr
  refine z_istore (ls' := [(7, z_i r), (6, z_i c), (0, .ref b), (1, .ref q), (2, .ref (A 40)), (3, .ref o1), (4, .ref o2), (5, z_i i)]) hY eL_law_2568 rfl ?_
  refine z_aload hY eL_law_2570 4 rfl ?_
  refine z_callVr (M' := mX8_thrown) (As := []) (rest := []) (r := z_i (ρ 0 0)) hY eL_law_2571 (by rw [hg]; exact hS2.zth hG hB2) hS2.za40 (by decide) (Nat.le_of_ble_eq_true rfl) (by omega) ?_
  refine z_iload hY eL_law_2574 1 rfl ?_
  refine z_icmpeq hY eL_law_2576 (by omega) (fun _ => ?_) (fun hne => absurd hρ hne)
  refine z_iload hY eL_law_2581 1 rfl ?_
  refine z_ifne hY eL_law_2583 (by omega) (fun _ => ?_) (fun h0 => ?_)
  · refine z_goto hY eL_law_2598 ?_
    exact z_sub [2, 3, 4, 5, 6, 7] rfl (z_widen (by omega) (by omega) (kk _ _ _ _ _ hS2 hJ2))
  · refine z_aload hY eL_law_2586 5 rfl ?_
    refine z_const hY eL_law_2587 ?_
    refine z_laload hY eL_law_2588 hS2.zo1 (by omega) ?_
    refine z_iload hY eL_law_2589 0 rfl ?_
    refine z_i2l hY eL_law_2591 hr ?_
    refine z_lcmp hY eL_law_2592 (by omega) ?_
    refine z_ifeq hY eL_law_2593 (by have := z_cmp_s (f1 0) r; omega) (fun _ => ?_) (fun hne => absurd ((z_cmp_s (f1 0) r).2.2.1.mpr (hcr h0)) hne)
    refine z_goto hY eL_law_2598 ?_
    exact z_sub [2, 3, 4, 5, 6, 7] rfl (z_widen (by omega) (by omega) (kk _ _ _ _ _ hS2 hJ2))
theorem w_c43 (hC : lC Y G b L xs i k n) (hS : lS G q A o1 o2 κ σ f g H) (hv : vW G q A o1 o2 J κ σ mL_teamScore hL_teamScore mX8_teamScore [z_i (zX xs (i + 1))]) (kk : lK Y G b q A o1 o2 i k n J) : z_W Y 2601 (lV b q (A 40) o1 o2 i) [] H k n := by
  obtain ⟨hY, hg, hX, hi, hc⟩ := hC
  have hX1 : z_Xs (z_gg Y) b L xs := by rw [hg]; exact hX
  have hG : z_OK G := by rw [← hg]; exact z_okG hY
  refine z_aload hY eL_law_2601 1 rfl ?_
  refine z_aload hY eL_law_2602 0 rfl ?_
  refine z_iload hY eL_law_2603 5 rfl ?_
  refine z_const hY eL_law_2605 ?_
  refine z_iadd hY eL_law_2606 ?_
  refine z_sld hY eL_law_2607 hX1 (by omega) ?_
  refine z_aload hY eL_law_2608 3 rfl ?_
  obtain ⟨d1, mc, ms, d2, hd1, hd2, hmc, hms, ht⟩ := hv f g H hS
  refine z_callSH (M' := mL_teamScore) (As := [.ref q, z_i (zX xs (i + 1)), .ref o1]) (rest := []) (d1 := d1) (mc1 := mc) (ms1 := ms) hY eL_law_2609 (by rw [hg]; exact ht) (by omega) (Nat.le_of_ble_eq_true rfl) (by omega) (fun v h1 hv1 => ?_)
  obtain ⟨κ1, f1, c, rfl, hS1, hf1, hc1, hm⟩ := hv1
  unfold lsR at hc1
  unfold lsR at hf1
  refine z_istore (ls' := [(6, z_i c), (0, .ref b), (1, .ref q), (2, .ref (A 40)), (3, .ref o1), (4, .ref o2), (5, z_i i)]) hY eL_law_2612 rfl ?_
  refine z_aload hY eL_law_2614 3 rfl ?_
  refine z_aload hY eL_law_2615 1 rfl ?_
  refine z_iload hY eL_law_2616 6 rfl ?_
  refine z_const hY eL_law_2618 ?_
  refine z_iadd hY eL_law_2619 ?_
  refine z_sld hY eL_law_2620 hX1 (by omega) ?_
  refine z_callV (M' := mX8_teamScore) (As := [z_i (zX xs (i + 1))]) (rest := []) (d1 := d2) (mc1 := 0) (ms1 := 0) (ψ1 := z_no) hY eL_law_2621 (by rw [hg]; exact hm) hS1.za40 (by omega) (Nat.le_of_ble_eq_true rfl) (by omega) (fun _ _ z => False.elim z) (fun v2 h2 hv2 => ?_)
  obtain ⟨r, ρ, rfl, hr, hS2, hρ, hcr, hB2, hJ2⟩ := hv2
  unfold lsR at hr
  refine z_istore (ls' := [(7, z_i r), (6, z_i c), (0, .ref b), (1, .ref q), (2, .ref (A 40)), (3, .ref o1), (4, .ref o2), (5, z_i i)]) hY eL_law_2624 rfl ?_
  refine z_aload hY eL_law_2626 4 rfl ?_
  refine z_callVr (M' := mX8_thrown) (As := []) (rest := []) (r := z_i (ρ 0 0)) hY eL_law_2627 (by rw [hg]; exact hS2.zth hG hB2) hS2.za40 (by decide) (Nat.le_of_ble_eq_true rfl) (by omega) ?_
  refine z_iload hY eL_law_2630 1 rfl ?_
  refine z_icmpeq hY eL_law_2632 (by omega) (fun _ => ?_) (fun hne => absurd hρ hne)
  refine z_iload hY eL_law_2637 1 rfl ?_
  refine z_ifne hY eL_law_2639 (by omega) (fun _ => ?_) (fun h0 => ?_)
  · refine z_goto hY eL_law_2654 ?_
    exact z_sub [2, 3, 4, 5, 6, 7] rfl (z_widen (by omega) (by omega) (kk _ _ _ _ _ hS2 hJ2))
  · refine z_aload hY eL_law_2642 5 rfl ?_
    refine z_const hY eL_law_2643 ?_
    refine z_laload hY eL_law_2644 hS2.zo1 (by omega) ?_
    refine z_iload hY eL_law_2645 0 rfl ?_
    refine z_i2l hY eL_law_2647 hr ?_
    refine z_lcmp hY eL_law_2648 (by omega) ?_
    refine z_ifeq hY eL_law_2649 (by have := z_cmp_s (f1 0) r; omega) (fun _ => ?_) (fun hne => absurd ((z_cmp_s (f1 0) r).2.2.1.mpr (hcr h0)) hne)
    refine z_goto hY eL_law_2654 ?_
    exact z_sub [2, 3, 4, 5, 6, 7] rfl (z_widen (by omega) (by omega) (kk _ _ _ _ _ hS2 hJ2))
theorem w_c44 (hC : lC Y G b L xs i k n) (hS : lS G q A o1 o2 κ σ f g H) (hv : vW G q A o1 o2 J κ σ mL_groupAt hL_groupAt mX8_groupAt [z_i (zX xs (i + 1))]) (kk : lK Y G b q A o1 o2 i k n J) : z_W Y 2657 (lV b q (A 40) o1 o2 i) [] H k n := by
  obtain ⟨hY, hg, hX, hi, hc⟩ := hC
  have hX1 : z_Xs (z_gg Y) b L xs := by rw [hg]; exact hX
  have hG : z_OK G := by rw [← hg]; exact z_okG hY
  refine z_aload hY eL_law_2657 1 rfl ?_
  refine z_aload hY eL_law_2658 0 rfl ?_
  refine z_iload hY eL_law_2659 5 rfl ?_
  refine z_const hY eL_law_2661 ?_
  refine z_iadd hY eL_law_2662 ?_
  refine z_sld hY eL_law_2663 hX1 (by omega) ?_
  refine z_aload hY eL_law_2664 3 rfl ?_
  obtain ⟨d1, mc, ms, d2, hd1, hd2, hmc, hms, ht⟩ := hv f g H hS
  refine z_callSH (M' := mL_groupAt) (As := [.ref q, z_i (zX xs (i + 1)), .ref o1]) (rest := []) (d1 := d1) (mc1 := mc) (ms1 := ms) hY eL_law_2665 (by rw [hg]; exact ht) (by omega) (Nat.le_of_ble_eq_true rfl) (by omega) (fun v h1 hv1 => ?_)
  obtain ⟨κ1, f1, c, rfl, hS1, hf1, hc1, hm⟩ := hv1
  unfold lsR at hc1
  unfold lsR at hf1
  refine z_istore (ls' := [(6, z_i c), (0, .ref b), (1, .ref q), (2, .ref (A 40)), (3, .ref o1), (4, .ref o2), (5, z_i i)]) hY eL_law_2668 rfl ?_
  refine z_aload hY eL_law_2670 3 rfl ?_
  refine z_aload hY eL_law_2671 1 rfl ?_
  refine z_iload hY eL_law_2672 6 rfl ?_
  refine z_const hY eL_law_2674 ?_
  refine z_iadd hY eL_law_2675 ?_
  refine z_sld hY eL_law_2676 hX1 (by omega) ?_
  refine z_callV (M' := mX8_groupAt) (As := [z_i (zX xs (i + 1))]) (rest := []) (d1 := d2) (mc1 := 0) (ms1 := 0) (ψ1 := z_no) hY eL_law_2677 (by rw [hg]; exact hm) hS1.za40 (by omega) (Nat.le_of_ble_eq_true rfl) (by omega) (fun _ _ z => False.elim z) (fun v2 h2 hv2 => ?_)
  obtain ⟨r, ρ, rfl, hr, hS2, hρ, hcr, hB2, hJ2⟩ := hv2
  unfold lsR at hr
  refine z_istore (ls' := [(7, z_i r), (6, z_i c), (0, .ref b), (1, .ref q), (2, .ref (A 40)), (3, .ref o1), (4, .ref o2), (5, z_i i)]) hY eL_law_2680 rfl ?_
  refine z_aload hY eL_law_2682 4 rfl ?_
  refine z_callVr (M' := mX8_thrown) (As := []) (rest := []) (r := z_i (ρ 0 0)) hY eL_law_2683 (by rw [hg]; exact hS2.zth hG hB2) hS2.za40 (by decide) (Nat.le_of_ble_eq_true rfl) (by omega) ?_
  refine z_iload hY eL_law_2686 1 rfl ?_
  refine z_icmpeq hY eL_law_2688 (by omega) (fun _ => ?_) (fun hne => absurd hρ hne)
  refine z_iload hY eL_law_2693 1 rfl ?_
  refine z_ifne hY eL_law_2695 (by omega) (fun _ => ?_) (fun h0 => ?_)
  · refine z_goto hY eL_law_2710 ?_
    exact z_sub [2, 3, 4, 5, 6, 7] rfl (z_widen (by omega) (by omega) (kk _ _ _ _ _ hS2 hJ2))
  · refine z_aload hY eL_law_2698 5 rfl ?_
    refine z_const hY eL_law_2699 ?_
    refine z_laload hY eL_law_2700 hS2.zo1 (by omega) ?_
    refine z_iload hY eL_law_2701 0 rfl ?_
    refine z_i2l hY eL_law_2703 hr ?_
    refine z_lcmp hY eL_law_2704 (by omega) ?_
    refine z_ifeq hY eL_law_2705 (by have := z_cmp_s (f1 0) r; omega) (fun _ => ?_) (fun hne => absurd ((z_cmp_s (f1 0) r).2.2.1.mpr (hcr h0)) hne)
    refine z_goto hY eL_law_2710 ?_
    exact z_sub [2, 3, 4, 5, 6, 7] rfl (z_widen (by omega) (by omega) (kk _ _ _ _ _ hS2 hJ2))
theorem w_c45 (hC : lC Y G b L xs i k n) (hS : lS G q A o1 o2 κ σ f g H) (hv : vW G q A o1 o2 J κ σ mL_inversions hL_inversions mX8_inversions [z_i (zX xs (i + 1)), z_i (zX xs (i + 2))]) (kk : lK Y G b q A o1 o2 i k n J) : z_W Y 2713 (lV b q (A 40) o1 o2 i) [] H k n := by
  obtain ⟨hY, hg, hX, hi, hc⟩ := hC
  have hX1 : z_Xs (z_gg Y) b L xs := by rw [hg]; exact hX
  have hG : z_OK G := by rw [← hg]; exact z_okG hY
  refine z_aload hY eL_law_2713 1 rfl ?_
  refine z_aload hY eL_law_2714 0 rfl ?_
  refine z_iload hY eL_law_2715 5 rfl ?_
  refine z_const hY eL_law_2717 ?_
  refine z_iadd hY eL_law_2718 ?_
  refine z_sld hY eL_law_2719 hX1 (by omega) ?_
  refine z_aload hY eL_law_2720 0 rfl ?_
  refine z_iload hY eL_law_2721 5 rfl ?_
  refine z_const hY eL_law_2723 ?_
  refine z_iadd hY eL_law_2724 ?_
  refine z_sld hY eL_law_2725 hX1 (by omega) ?_
  refine z_aload hY eL_law_2726 3 rfl ?_
  obtain ⟨d1, mc, ms, d2, hd1, hd2, hmc, hms, ht⟩ := hv f g H hS
  refine z_callSH (M' := mL_inversions) (As := [.ref q, z_i (zX xs (i + 1)), z_i (zX xs (i + 2)), .ref o1]) (rest := []) (d1 := d1) (mc1 := mc) (ms1 := ms) hY eL_law_2727 (by rw [hg]; exact ht) (by omega) (Nat.le_of_ble_eq_true rfl) (by omega) (fun v h1 hv1 => ?_)
  obtain ⟨κ1, f1, c, rfl, hS1, hf1, hc1, hm⟩ := hv1
  unfold lsR at hc1
  unfold lsR at hf1
  refine z_istore (ls' := [(6, z_i c), (0, .ref b), (1, .ref q), (2, .ref (A 40)), (3, .ref o1), (4, .ref o2), (5, z_i i)]) hY eL_law_2730 rfl ?_
  refine z_aload hY eL_law_2732 3 rfl ?_
  refine z_aload hY eL_law_2733 1 rfl ?_
  refine z_iload hY eL_law_2734 6 rfl ?_
  refine z_const hY eL_law_2736 ?_
  refine z_iadd hY eL_law_2737 ?_
  refine z_sld hY eL_law_2738 hX1 (by omega) ?_
  refine z_aload hY eL_law_2739 1 rfl ?_
  refine z_iload hY eL_law_2740 6 rfl ?_
  refine z_const hY eL_law_2742 ?_
  refine z_iadd hY eL_law_2743 ?_
  refine z_sld hY eL_law_2744 hX1 (by omega) ?_
  refine z_callV (M' := mX8_inversions) (As := [z_i (zX xs (i + 1)), z_i (zX xs (i + 2))]) (rest := []) (d1 := d2) (mc1 := 0) (ms1 := 0) (ψ1 := z_no) hY eL_law_2745 (by rw [hg]; exact hm) hS1.za40 (by omega) (Nat.le_of_ble_eq_true rfl) (by omega) (fun _ _ z => False.elim z) (fun v2 h2 hv2 => ?_)
  obtain ⟨r, ρ, rfl, hr, hS2, hρ, hcr, hB2, hJ2⟩ := hv2
  unfold lsR at hr
  refine z_istore (ls' := [(7, z_i r), (6, z_i c), (0, .ref b), (1, .ref q), (2, .ref (A 40)), (3, .ref o1), (4, .ref o2), (5, z_i i)]) hY eL_law_2748 rfl ?_
  refine z_aload hY eL_law_2750 4 rfl ?_
  refine z_callVr (M' := mX8_thrown) (As := []) (rest := []) (r := z_i (ρ 0 0)) hY eL_law_2751 (by rw [hg]; exact hS2.zth hG hB2) hS2.za40 (by decide) (Nat.le_of_ble_eq_true rfl) (by omega) ?_
  refine z_iload hY eL_law_2754 1 rfl ?_
  refine z_icmpeq hY eL_law_2756 (by omega) (fun _ => ?_) (fun hne => absurd hρ hne)
  refine z_iload hY eL_law_2761 1 rfl ?_
  refine z_ifne hY eL_law_2763 (by omega) (fun _ => ?_) (fun h0 => ?_)
  · refine z_goto hY eL_law_2778 ?_
    exact z_sub [2, 3, 4, 5, 6, 7] rfl (z_widen (by omega) (by omega) (kk _ _ _ _ _ hS2 hJ2))
  · refine z_aload hY eL_law_2766 5 rfl ?_
    refine z_const hY eL_law_2767 ?_
    refine z_laload hY eL_law_2768 hS2.zo1 (by omega) ?_
    refine z_iload hY eL_law_2769 0 rfl ?_
    refine z_i2l hY eL_law_2771 hr ?_
    refine z_lcmp hY eL_law_2772 (by omega) ?_
    refine z_ifeq hY eL_law_2773 (by have := z_cmp_s (f1 0) r; omega) (fun _ => ?_) (fun hne => absurd ((z_cmp_s (f1 0) r).2.2.1.mpr (hcr h0)) hne)
    refine z_goto hY eL_law_2778 ?_
    exact z_sub [2, 3, 4, 5, 6, 7] rfl (z_widen (by omega) (by omega) (kk _ _ _ _ _ hS2 hJ2))
theorem w_c46 (hC : lC Y G b L xs i k n) (hS : lS G q A o1 o2 κ σ f g H) (hv : vW G q A o1 o2 J κ σ mL_swaps hL_swaps mX8_swaps [z_i (zX xs (i + 1)), z_i (zX xs (i + 2))]) (kk : lK Y G b q A o1 o2 i k n J) : z_W Y 2781 (lV b q (A 40) o1 o2 i) [] H k n := by
  obtain ⟨hY, hg, hX, hi, hc⟩ := hC
  have hX1 : z_Xs (z_gg Y) b L xs := by rw [hg]; exact hX
  have hG : z_OK G := by rw [← hg]; exact z_okG hY
  refine z_aload hY eL_law_2781 1 rfl ?_
  refine z_aload hY eL_law_2782 0 rfl ?_
  refine z_iload hY eL_law_2783 5 rfl ?_
  refine z_const hY eL_law_2785 ?_
  refine z_iadd hY eL_law_2786 ?_
  refine z_sld hY eL_law_2787 hX1 (by omega) ?_
  refine z_aload hY eL_law_2788 0 rfl ?_
  refine z_iload hY eL_law_2789 5 rfl ?_
  refine z_const hY eL_law_2791 ?_
  refine z_iadd hY eL_law_2792 ?_
  refine z_sld hY eL_law_2793 hX1 (by omega) ?_
  refine z_aload hY eL_law_2794 3 rfl ?_
  obtain ⟨d1, mc, ms, d2, hd1, hd2, hmc, hms, ht⟩ := hv f g H hS
  refine z_callSH (M' := mL_swaps) (As := [.ref q, z_i (zX xs (i + 1)), z_i (zX xs (i + 2)), .ref o1]) (rest := []) (d1 := d1) (mc1 := mc) (ms1 := ms) hY eL_law_2795 (by rw [hg]; exact ht) (by omega) (Nat.le_of_ble_eq_true rfl) (by omega) (fun v h1 hv1 => ?_)
  obtain ⟨κ1, f1, c, rfl, hS1, hf1, hc1, hm⟩ := hv1
  unfold lsR at hc1
  unfold lsR at hf1
  refine z_istore (ls' := [(6, z_i c), (0, .ref b), (1, .ref q), (2, .ref (A 40)), (3, .ref o1), (4, .ref o2), (5, z_i i)]) hY eL_law_2798 rfl ?_
  refine z_aload hY eL_law_2800 3 rfl ?_
  refine z_aload hY eL_law_2801 1 rfl ?_
  refine z_iload hY eL_law_2802 6 rfl ?_
  refine z_const hY eL_law_2804 ?_
  refine z_iadd hY eL_law_2805 ?_
  refine z_sld hY eL_law_2806 hX1 (by omega) ?_
  refine z_aload hY eL_law_2807 1 rfl ?_
  refine z_iload hY eL_law_2808 6 rfl ?_
  refine z_const hY eL_law_2810 ?_
  refine z_iadd hY eL_law_2811 ?_
  refine z_sld hY eL_law_2812 hX1 (by omega) ?_
  refine z_callV (M' := mX8_swaps) (As := [z_i (zX xs (i + 1)), z_i (zX xs (i + 2))]) (rest := []) (d1 := d2) (mc1 := 0) (ms1 := 0) (ψ1 := z_no) hY eL_law_2813 (by rw [hg]; exact hm) hS1.za40 (by omega) (Nat.le_of_ble_eq_true rfl) (by omega) (fun _ _ z => False.elim z) (fun v2 h2 hv2 => ?_)
  obtain ⟨r, ρ, rfl, hr, hS2, hρ, hcr, hB2, hJ2⟩ := hv2
  unfold lsR at hr
  refine z_istore (ls' := [(7, z_i r), (6, z_i c), (0, .ref b), (1, .ref q), (2, .ref (A 40)), (3, .ref o1), (4, .ref o2), (5, z_i i)]) hY eL_law_2816 rfl ?_
  refine z_aload hY eL_law_2818 4 rfl ?_
  refine z_callVr (M' := mX8_thrown) (As := []) (rest := []) (r := z_i (ρ 0 0)) hY eL_law_2819 (by rw [hg]; exact hS2.zth hG hB2) hS2.za40 (by decide) (Nat.le_of_ble_eq_true rfl) (by omega) ?_
  refine z_iload hY eL_law_2822 1 rfl ?_
  refine z_icmpeq hY eL_law_2824 (by omega) (fun _ => ?_) (fun hne => absurd hρ hne)
  refine z_iload hY eL_law_2829 1 rfl ?_
  refine z_ifne hY eL_law_2831 (by omega) (fun _ => ?_) (fun h0 => ?_)
  · refine z_goto hY eL_law_2846 ?_
    exact z_sub [2, 3, 4, 5, 6, 7] rfl (z_widen (by omega) (by omega) (kk _ _ _ _ _ hS2 hJ2))
  · refine z_aload hY eL_law_2834 5 rfl ?_
    refine z_const hY eL_law_2835 ?_
    refine z_laload hY eL_law_2836 hS2.zo1 (by omega) ?_
    refine z_iload hY eL_law_2837 0 rfl ?_
    refine z_i2l hY eL_law_2839 hr ?_
    refine z_lcmp hY eL_law_2840 (by omega) ?_
    refine z_ifeq hY eL_law_2841 (by have := z_cmp_s (f1 0) r; omega) (fun _ => ?_) (fun hne => absurd ((z_cmp_s (f1 0) r).2.2.1.mpr (hcr h0)) hne)
    refine z_goto hY eL_law_2846 ?_
    exact z_sub [2, 3, 4, 5, 6, 7] rfl (z_widen (by omega) (by omega) (kk _ _ _ _ _ hS2 hJ2))
theorem w_c47 (hC : lC Y G b L xs i k n) (hS : lS G q A o1 o2 κ σ f g H) (hv : vM G q A o1 o2 J κ σ mX7_meanPoints mX8_meanPoints) (kk : lK Y G b q A o1 o2 i k n J) : z_W Y 2849 (lV b q (A 40) o1 o2 i) [] H k n := by
  obtain ⟨hY, hg, hX, hi, hc⟩ := hC
  have hX1 : z_Xs (z_gg Y) b L xs := by rw [hg]; exact hX
  have hG : z_OK G := by rw [← hg]; exact z_okG hY
  refine z_aload hY eL_law_2849 1 rfl ?_
  obtain ⟨d1, mc, ms, d2, hd1, hd2, hmc, hms, ht⟩ := hv f g H hS
  obtain ⟨fs, hfs⟩ := hS.zq1
  refine z_callV (M' := mX7_meanPoints) (As := []) (rest := []) (d1 := d1) (mc1 := mc) (ms1 := ms) (ψ1 := z_no) hY eL_law_2850 (by rw [hg]; exact ht) hfs (by omega) (Nat.le_of_ble_eq_true rfl) (by omega) (fun _ _ z => False.elim z) (fun v1 h1 hv1 => ?_)
  obtain ⟨κ1, r, rfl, hS1, hm⟩ := hv1
  refine z_dstore (ls' := [(6, .double r), (0, .ref b), (1, .ref q), (2, .ref (A 40)), (3, .ref o1), (4, .ref o2), (5, z_i i)]) hY eL_law_2853 (by decide) rfl ?_
  refine z_aload hY eL_law_2855 3 rfl ?_
  refine z_callV (M' := mX8_meanPoints) (As := []) (rest := []) (d1 := d2) (mc1 := 0) (ms1 := 0) (ψ1 := z_no) hY eL_law_2856 (by rw [hg]; exact hm) hS1.za40 (by omega) (Nat.le_of_ble_eq_true rfl) (by omega) (fun _ _ z => False.elim z) (fun v2 h2 hv2 => ?_)
  obtain ⟨ρ, rfl, hS2, hJ2⟩ := hv2
  refine z_dstore (ls' := [(8, .double r), (6, .double r), (0, .ref b), (1, .ref q), (2, .ref (A 40)), (3, .ref o1), (4, .ref o2), (5, z_i i)]) hY eL_law_2859 (by decide) rfl ?_
  refine z_dload hY eL_law_2861 1 rfl ?_
  refine z_dload hY eL_law_2863 0 rfl ?_
  refine z_dcmp hY eL_law_2865 ?_
  refine z_ifeq hY eL_law_2866 (by have := z_cv (FP.dcmp r r) .l; omega) (fun _ => ?_) (fun hne => ?_)
  · refine z_goto hY eL_law_2887 ?_
    exact z_sub [2, 3, 4, 5, 6, 7] rfl (z_widen (by omega) (by omega) (kk _ _ _ _ _ hS2 hJ2))
  refine z_dload hY eL_law_2869 1 rfl ?_
  refine z_dload hY eL_law_2871 1 rfl ?_
  refine z_dcmp hY eL_law_2873 ?_
  refine z_ifeq hY eL_law_2874 (by have := z_cv (FP.dcmp r r) .l; omega) (fun he => absurd he hne) (fun _ => ?_)
  refine z_dload hY eL_law_2877 0 rfl ?_
  refine z_dload hY eL_law_2879 0 rfl ?_
  refine z_dcmp hY eL_law_2881 ?_
  refine z_ifne hY eL_law_2882 (by have := z_cv (FP.dcmp r r) .l; omega) (fun _ => ?_) (fun he => absurd he hne)
  refine z_goto hY eL_law_2887 ?_
  exact z_sub [2, 3, 4, 5, 6, 7] rfl (z_widen (by omega) (by omega) (kk _ _ _ _ _ hS2 hJ2))
theorem w_c48 (hC : lC Y G b L xs i k n) (hS : lS G q A o1 o2 κ σ f g H) (hv : vB G q A o1 o2 J κ σ mL_beats hL_beats mX8_beats (zX xs (i + 1))) (kk : lK Y G b q A o1 o2 i k n J) : z_W Y 2890 (lV b q (A 40) o1 o2 i) [] H k n := by
  obtain ⟨hY, hg, hX, hi, hc⟩ := hC
  have hX1 : z_Xs (z_gg Y) b L xs := by rw [hg]; exact hX
  have hG : z_OK G := by rw [← hg]; exact z_okG hY
  refine z_aload hY eL_law_2890 1 rfl ?_
  refine z_aload hY eL_law_2891 0 rfl ?_
  refine z_iload hY eL_law_2892 5 rfl ?_
  refine z_const hY eL_law_2894 ?_
  refine z_iadd hY eL_law_2895 ?_
  refine z_sld hY eL_law_2896 hX1 (by omega) ?_
  refine z_aload hY eL_law_2897 4 rfl ?_
  obtain ⟨d1, mc, ms, d2, hd1, hd2, hmc, hms, ht⟩ := hv f g H hS
  refine z_callSH (M' := mL_beats) (As := [.ref q, z_i (zX xs (i + 1)), .ref o2]) (rest := []) (d1 := d1) (mc1 := mc) (ms1 := ms) hY eL_law_2899 (by rw [hg]; exact ht) (by omega) (Nat.le_of_ble_eq_true rfl) (by omega) (fun v h1 hv1 => ?_)
  obtain ⟨κ1, g1, c, rfl, hS1, hc1, hm⟩ := hv1
  unfold lsR at hc1
  refine z_istore (ls' := [(6, z_i c), (0, .ref b), (1, .ref q), (2, .ref (A 40)), (3, .ref o1), (4, .ref o2), (5, z_i i)]) hY eL_law_2902 rfl ?_
  refine z_aload hY eL_law_2904 3 rfl ?_
  refine z_aload hY eL_law_2905 1 rfl ?_
  refine z_iload hY eL_law_2906 6 rfl ?_
  refine z_const hY eL_law_2908 ?_
  refine z_iadd hY eL_law_2909 ?_
  refine z_sld hY eL_law_2910 hX1 (by omega) ?_
  refine z_callV (M' := mX8_beats) (As := [z_i (zX xs (i + 1))]) (rest := []) (d1 := d2) (mc1 := 0) (ms1 := 0) (ψ1 := z_no) hY eL_law_2911 (by rw [hg]; exact hm) hS1.za40 (by omega) (Nat.le_of_ble_eq_true rfl) (by omega) (fun _ _ z => False.elim z) (fun v2 h2 hv2 => ?_)
  obtain ⟨r, ρ, rfl, hS2, hρ, hcr, hB2, hJ2⟩ := hv2
  refine z_fstore (ls' := [(7, .float r), (6, z_i c), (0, .ref b), (1, .ref q), (2, .ref (A 40)), (3, .ref o1), (4, .ref o2), (5, z_i i)]) hY eL_law_2914 (by decide) rfl ?_
  refine z_aload hY eL_law_2916 4 rfl ?_
  refine z_callVr (M' := mX8_thrown) (As := []) (rest := []) (r := z_i (ρ 0 0)) hY eL_law_2917 (by rw [hg]; exact hS2.zth hG hB2) hS2.za40 (by decide) (Nat.le_of_ble_eq_true rfl) (by omega) ?_
  refine z_iload hY eL_law_2920 1 rfl ?_
  refine z_icmpeq hY eL_law_2922 (by omega) (fun _ => ?_) (fun hne => absurd hρ hne)
  refine z_iload hY eL_law_2927 1 rfl ?_
  refine z_ifne hY eL_law_2929 (by omega) (fun _ => ?_) (fun h0 => ?_)
  · refine z_goto hY eL_law_2965 ?_
    exact z_sub [2, 3, 4, 5, 6, 7] rfl (z_widen (by omega) (by omega) (kk _ _ _ _ _ hS2 hJ2))
  · refine z_aload hY eL_law_2932 6 rfl ?_
    refine z_const hY eL_law_2934 ?_
    refine z_daload hY eL_law_2935 hS2.zo2 (by omega) ?_
    refine z_fload hY eL_law_2936 0 rfl ?_
    refine z_f2d hY eL_law_2938 (hcr h0).1 ?_
    refine z_dcmp hY eL_law_2939 ?_
    refine z_ifeq hY eL_law_2940 (by have := z_cv (FP.dcmp (g1 0) (FP.f2d r)) .l; omega) (fun _ => ?_) (fun hne => absurd (by rw [(hcr h0).2.1]; exact (hcr h0).2.2) hne)
    refine z_goto hY eL_law_2965 ?_
    exact z_sub [2, 3, 4, 5, 6, 7] rfl (z_widen (by omega) (by omega) (kk _ _ _ _ _ hS2 hJ2))
theorem w_c49 (hC : lC Y G b L xs i k n) (hS : lS G q A o1 o2 κ σ f g H) (hv : vD G q A o1 o2 J κ σ mX7_errors mX8_errors []) (kk : lK Y G b q A o1 o2 i k n J) : z_W Y 2968 (lV b q (A 40) o1 o2 i) [] H k n := by
  obtain ⟨hY, hg, hX, hi, hc⟩ := hC
  have hX1 : z_Xs (z_gg Y) b L xs := by rw [hg]; exact hX
  have hG : z_OK G := by rw [← hg]; exact z_okG hY
  refine z_aload hY eL_law_2968 1 rfl ?_
  obtain ⟨d1, mc, ms, d2, hd1, hd2, hmc, hms, ht⟩ := hv f g H hS
  obtain ⟨fs, hfs⟩ := hS.zq1
  refine z_callV (M' := mX7_errors) (As := []) (rest := []) (d1 := d1) (mc1 := mc) (ms1 := ms) (ψ1 := z_no) hY eL_law_2969 (by rw [hg]; exact ht) hfs (by omega) (Nat.le_of_ble_eq_true rfl) (by omega) (fun _ _ z => False.elim z) (fun v1 h1 hv1 => ?_)
  obtain ⟨κ1, r, rfl, hr, hS1, hm⟩ := hv1
  unfold lsR at hr
  refine z_aload hY eL_law_2972 2 rfl ?_
  refine z_callV (M' := mX8_errors) (As := []) (rest := [z_i r]) (d1 := d2) (mc1 := 0) (ms1 := 0) (ψ1 := z_no) hY eL_law_2973 (by rw [hg]; exact hm) hS1.za40 (by omega) (Nat.le_of_ble_eq_true rfl) (by omega) (fun _ _ z => False.elim z) (fun v2 h2 hv2 => ?_)
  obtain ⟨ρ, rfl, hS2, hJ2⟩ := hv2
  refine z_icmpeq hY eL_law_2976 (by omega) (fun _ => ?_) (fun hne => absurd rfl hne)
  exact z_sub [0, 1, 2, 3, 4, 5] rfl (z_widen (by omega) (by omega) (kk _ _ _ _ _ hS2 hJ2))
end LC41
