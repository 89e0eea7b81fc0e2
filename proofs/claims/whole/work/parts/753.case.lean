section LC21
variable {Y : z_Y} {G : z_G} {b q o1 o2 L : Nat} {A : Nat → Nat} {xs : Nat → Int32} {J : c_K → z_S → Prop} {κ : c_K} {σ : z_S} {f : Int → Int} {g : Int → UInt64} {H : z_H} {i : Int} {k n : Nat}
theorem w_c20 (hC : lC Y G b L xs i k n) (hS : lS G q A o1 o2 κ σ f g H) (hv : vD G q A o1 o2 J κ σ mX7_above mX8_above [z_i (zX xs (i + 1))]) (kk : lK Y G b q A o1 o2 i k n J) : z_W Y 1321 (lV b q (A 40) o1 o2 i) [] H k n := by
  obtain ⟨hY, hg, hX, hi, hc⟩ := hC
  have hX1 : z_Xs (z_gg Y) b L xs := by rw [hg]; exact hX
  have hG : z_OK G := by rw [← hg]; exact z_okG hY
  refine z_aload hY eL_law_1321 1 rfl ?_
  refine z_aload hY eL_law_1322 0 rfl ?_
  refine z_iload hY eL_law_1323 5 rfl ?_
  refine z_const hY eL_law_1325 ?_
  refine z_iadd hY eL_law_1326 ?_
  refine z_sld hY eL_law_1327 hX1 (by omega) ?_
  obtain ⟨d1, mc, ms, d2, hd1, hd2, hmc, hms, ht⟩ := hv f g H hS
  obtain ⟨fs, hfs⟩ := hS.zq1
  refine z_callV (M' := mX7_above) (As := [z_i (zX xs (i + 1))]) (rest := []) (d1 := d1) (mc1 := mc) (ms1 := ms) (ψ1 := z_no) hY eL_law_1328 (by rw [hg]; exact ht) hfs (by omega) (Nat.le_of_ble_eq_true rfl) (by omega) (fun _ _ z => False.elim z) (fun v1 h1 hv1 => ?_)
  obtain ⟨κ1, r, rfl, hr, hS1, hm⟩ := hv1
  unfold lsR at hr
  refine z_aload hY eL_law_1331 2 rfl ?_
  refine z_aload hY eL_law_1332 0 rfl ?_
  refine z_iload hY eL_law_1333 5 rfl ?_
  refine z_const hY eL_law_1335 ?_
  refine z_iadd hY eL_law_1336 ?_
  refine z_sld hY eL_law_1337 hX1 (by omega) ?_
  refine z_callV (M' := mX8_above) (As := [z_i (zX xs (i + 1))]) (rest := [z_i r]) (d1 := d2) (mc1 := 0) (ms1 := 0) (ψ1 := z_no) hY eL_law_1338 (by rw [hg]; exact hm) hS1.za40 (by omega) (Nat.le_of_ble_eq_true rfl) (by omega) (fun _ _ z => False.elim z) (fun v2 h2 hv2 => ?_)
  obtain ⟨ρ, rfl, hS2, hJ2⟩ := hv2
  refine z_icmpeq hY eL_law_1341 (by omega) (fun _ => ?_) (fun hne => absurd rfl hne)
  exact z_sub [0, 1, 2, 3, 4, 5] rfl (z_widen (by omega) (by omega) (kk _ _ _ _ _ hS2 hJ2))
theorem w_c21 (hC : lC Y G b L xs i k n) (hS : lS G q A o1 o2 κ σ f g H) (hv : vD G q A o1 o2 J κ σ mX7_with mX8_with [z_i (zX xs (i + 1))]) (kk : lK Y G b q A o1 o2 i k n J) : z_W Y 1346 (lV b q (A 40) o1 o2 i) [] H k n := by
  obtain ⟨hY, hg, hX, hi, hc⟩ := hC
  have hX1 : z_Xs (z_gg Y) b L xs := by rw [hg]; exact hX
  have hG : z_OK G := by rw [← hg]; exact z_okG hY
  refine z_aload hY eL_law_1346 1 rfl ?_
  refine z_aload hY eL_law_1347 0 rfl ?_
  refine z_iload hY eL_law_1348 5 rfl ?_
  refine z_const hY eL_law_1350 ?_
  refine z_iadd hY eL_law_1351 ?_
  refine z_sld hY eL_law_1352 hX1 (by omega) ?_
  obtain ⟨d1, mc, ms, d2, hd1, hd2, hmc, hms, ht⟩ := hv f g H hS
  obtain ⟨fs, hfs⟩ := hS.zq1
  refine z_callV (M' := mX7_with) (As := [z_i (zX xs (i + 1))]) (rest := []) (d1 := d1) (mc1 := mc) (ms1 := ms) (ψ1 := z_no) hY eL_law_1353 (by rw [hg]; exact ht) hfs (by omega) (Nat.le_of_ble_eq_true rfl) (by omega) (fun _ _ z => False.elim z) (fun v1 h1 hv1 => ?_)
  obtain ⟨κ1, r, rfl, hr, hS1, hm⟩ := hv1
  unfold lsR at hr
  refine z_aload hY eL_law_1356 2 rfl ?_
  refine z_aload hY eL_law_1357 0 rfl ?_
  refine z_iload hY eL_law_1358 5 rfl ?_
  refine z_const hY eL_law_1360 ?_
  refine z_iadd hY eL_law_1361 ?_
  refine z_sld hY eL_law_1362 hX1 (by omega) ?_
  refine z_callV (M' := mX8_with) (As := [z_i (zX xs (i + 1))]) (rest := [z_i r]) (d1 := d2) (mc1 := 0) (ms1 := 0) (ψ1 := z_no) hY eL_law_1363 (by rw [hg]; exact hm) hS1.za40 (by omega) (Nat.le_of_ble_eq_true rfl) (by omega) (fun _ _ z => False.elim z) (fun v2 h2 hv2 => ?_)
  obtain ⟨ρ, rfl, hS2, hJ2⟩ := hv2
  refine z_icmpeq hY eL_law_1366 (by omega) (fun _ => ?_) (fun hne => absurd rfl hne)
  exact z_sub [0, 1, 2, 3, 4, 5] rfl (z_widen (by omega) (by omega) (kk _ _ _ _ _ hS2 hJ2))
theorem w_c22 (hC : lC Y G b L xs i k n) (hS : lS G q A o1 o2 κ σ f g H) (hv : vD G q A o1 o2 J κ σ mX7_withAt mX8_withAt [z_i (zX xs (i + 1)), z_i (zX xs (i + 2))]) (kk : lK Y G b q A o1 o2 i k n J) : z_W Y 1371 (lV b q (A 40) o1 o2 i) [] H k n := by
  obtain ⟨hY, hg, hX, hi, hc⟩ := hC
  have hX1 : z_Xs (z_gg Y) b L xs := by rw [hg]; exact hX
  have hG : z_OK G := by rw [← hg]; exact z_okG hY
  refine z_aload hY eL_law_1371 1 rfl ?_
  refine z_aload hY eL_law_1372 0 rfl ?_
  refine z_iload hY eL_law_1373 5 rfl ?_
  refine z_const hY eL_law_1375 ?_
  refine z_iadd hY eL_law_1376 ?_
  refine z_sld hY eL_law_1377 hX1 (by omega) ?_
  refine z_aload hY eL_law_1378 0 rfl ?_
  refine z_iload hY eL_law_1379 5 rfl ?_
  refine z_const hY eL_law_1381 ?_
  refine z_iadd hY eL_law_1382 ?_
  refine z_sld hY eL_law_1383 hX1 (by omega) ?_
  obtain ⟨d1, mc, ms, d2, hd1, hd2, hmc, hms, ht⟩ := hv f g H hS
  obtain ⟨fs, hfs⟩ := hS.zq1
  refine z_callV (M' := mX7_withAt) (As := [z_i (zX xs (i + 1)), z_i (zX xs (i + 2))]) (rest := []) (d1 := d1) (mc1 := mc) (ms1 := ms) (ψ1 := z_no) hY eL_law_1384 (by rw [hg]; exact ht) hfs (by omega) (Nat.le_of_ble_eq_true rfl) (by omega) (fun _ _ z => False.elim z) (fun v1 h1 hv1 => ?_)
  obtain ⟨κ1, r, rfl, hr, hS1, hm⟩ := hv1
  unfold lsR at hr
  refine z_aload hY eL_law_1387 2 rfl ?_
  refine z_aload hY eL_law_1388 0 rfl ?_
  refine z_iload hY eL_law_1389 5 rfl ?_
  refine z_const hY eL_law_1391 ?_
  refine z_iadd hY eL_law_1392 ?_
  refine z_sld hY eL_law_1393 hX1 (by omega) ?_
  refine z_aload hY eL_law_1394 0 rfl ?_
  refine z_iload hY eL_law_1395 5 rfl ?_
  refine z_const hY eL_law_1397 ?_
  refine z_iadd hY eL_law_1398 ?_
  refine z_sld hY eL_law_1399 hX1 (by omega) ?_
  refine z_callV (M' := mX8_withAt) (As := [z_i (zX xs (i + 1)), z_i (zX xs (i + 2))]) (rest := [z_i r]) (d1 := d2) (mc1 := 0) (ms1 := 0) (ψ1 := z_no) hY eL_law_1400 (by rw [hg]; exact hm) hS1.za40 (by omega) (Nat.le_of_ble_eq_true rfl) (by omega) (fun _ _ z => False.elim z) (fun v2 h2 hv2 => ?_)
  obtain ⟨ρ, rfl, hS2, hJ2⟩ := hv2
  refine z_icmpeq hY eL_law_1403 (by omega) (fun _ => ?_) (fun hne => absurd rfl hne)
  exact z_sub [0, 1, 2, 3, 4, 5] rfl (z_widen (by omega) (by omega) (kk _ _ _ _ _ hS2 hJ2))
theorem w_c23 (hC : lC Y G b L xs i k n) (hS : lS G q A o1 o2 κ σ f g H) (hv : vW G q A o1 o2 J κ σ mL_next hL_next mX8_next [z_i (zX xs (i + 1))]) (kk : lK Y G b q A o1 o2 i k n J) : z_W Y 1408 (lV b q (A 40) o1 o2 i) [] H k n := by
  obtain ⟨hY, hg, hX, hi, hc⟩ := hC
  have hX1 : z_Xs (z_gg Y) b L xs := by rw [hg]; exact hX
  have hG : z_OK G := by rw [← hg]; exact z_okG hY
  refine z_aload hY eL_law_1408 1 rfl ?_
  refine z_aload hY eL_law_1409 0 rfl ?_
  refine z_iload hY eL_law_1410 5 rfl ?_
  refine z_const hY eL_law_1412 ?_
  refine z_iadd hY eL_law_1413 ?_
  refine z_sld hY eL_law_1414 hX1 (by omega) ?_
  refine z_aload hY eL_law_1415 3 rfl ?_
  obtain ⟨d1, mc, ms, d2, hd1, hd2, hmc, hms, ht⟩ := hv f g H hS
  refine z_callSH (M' := mL_next) (As := [.ref q, z_i (zX xs (i + 1)), .ref o1]) (rest := []) (d1 := d1) (mc1 := mc) (ms1 := ms) hY eL_law_1416 (by rw [hg]; exact ht) (by omega) (Nat.le_of_ble_eq_true rfl) (by omega) (fun v h1 hv1 => ?_)
  obtain ⟨κ1, f1, c, rfl, hS1, hf1, hc1, hm⟩ := hv1
  unfold lsR at hc1
  unfold lsR at hf1
  refine z_istore (ls' := [(6, z_i c), (0, .ref b), (1, .ref q), (2, .ref (A 40)), (3, .ref o1), (4, .ref o2), (5, z_i i)]) hY eL_law_1419 rfl ?_
  refine z_aload hY eL_law_1421 3 rfl ?_
  refine z_aload hY eL_law_1422 1 rfl ?_
  refine z_iload hY eL_law_1423 6 rfl ?_
  refine z_const hY eL_law_1425 ?_
  refine z_iadd hY eL_law_1426 ?_
  refine z_sld hY eL_law_1427 hX1 (by omega) ?_
  refine z_callV (M' := mX8_next) (As := [z_i (zX xs (i + 1))]) (rest := []) (d1 := d2) (mc1 := 0) (ms1 := 0) (ψ1 := z_no) hY eL_law_1428 (by rw [hg]; exact hm) hS1.za40 (by omega) (Nat.le_of_ble_eq_true rfl) (by omega) (fun _ _ z => False.elim z) (fun v2 h2 hv2 => ?_)
  obtain ⟨r, ρ, rfl, hr, hS2, hρ, hcr, hB2, hJ2⟩ := hv2
  unfold lsR at hr
  refine z_istore (ls' := [(7, z_i r), (6, z_i c), (0, .ref b), (1, .ref q), (2, .ref (A 40)), (3, .ref o1), (4, .ref o2), (5, z_i i)]) hY eL_law_1431 rfl ?_
  refine z_aload hY eL_law_1433 4 rfl ?_
  refine z_callVr (M' := mX8_thrown) (As := []) (rest := []) (r := z_i (ρ 0 0)) hY eL_law_1434 (by rw [hg]; exact hS2.zth hG hB2) hS2.za40 (by decide) (Nat.le_of_ble_eq_true rfl) (by omega) ?_
  refine z_iload hY eL_law_1437 1 rfl ?_
  refine z_icmpeq hY eL_law_1439 (by omega) (fun _ => ?_) (fun hne => absurd hρ hne)
  refine z_iload hY eL_law_1444 1 rfl ?_
  refine z_ifne hY eL_law_1446 (by omega) (fun _ => ?_) (fun h0 => ?_)
  · refine z_goto hY eL_law_1461 ?_
    exact z_sub [2, 3, 4, 5, 6, 7] rfl (z_widen (by omega) (by omega) (kk _ _ _ _ _ hS2 hJ2))
  · refine z_aload hY eL_law_1449 5 rfl ?_
    refine z_const hY eL_law_1450 ?_
    refine z_laload hY eL_law_1451 hS2.zo1 (by omega) ?_
    refine z_iload hY eL_law_1452 0 rfl ?_
    refine z_i2l hY eL_law_1454 hr ?_
    refine z_lcmp hY eL_law_1455 (by omega) ?_
    refine z_ifeq hY eL_law_1456 (by have := z_cmp_s (f1 0) r; omega) (fun _ => ?_) (fun hne => absurd ((z_cmp_s (f1 0) r).2.2.1.mpr (hcr h0)) hne)
    refine z_goto hY eL_law_1461 ?_
    exact z_sub [2, 3, 4, 5, 6, 7] rfl (z_widen (by omega) (by omega) (kk _ _ _ _ _ hS2 hJ2))
theorem w_c24 (hC : lC Y G b L xs i k n) (hS : lS G q A o1 o2 κ σ f g H) (hv : vW G q A o1 o2 J κ σ mL_between hL_between mX8_between [z_i (zX xs (i + 1)), z_i (zX xs (i + 2))]) (kk : lK Y G b q A o1 o2 i k n J) : z_W Y 1464 (lV b q (A 40) o1 o2 i) [] H k n := by
  obtain ⟨hY, hg, hX, hi, hc⟩ := hC
  have hX1 : z_Xs (z_gg Y) b L xs := by rw [hg]; exact hX
  have hG : z_OK G := by rw [← hg]; exact z_okG hY
  refine z_aload hY eL_law_1464 1 rfl ?_
  refine z_aload hY eL_law_1465 0 rfl ?_
  refine z_iload hY eL_law_1466 5 rfl ?_
  refine z_const hY eL_law_1468 ?_
  refine z_iadd hY eL_law_1469 ?_
  refine z_sld hY eL_law_1470 hX1 (by omega) ?_
  refine z_aload hY eL_law_1471 0 rfl ?_
  refine z_iload hY eL_law_1472 5 rfl ?_
  refine z_const hY eL_law_1474 ?_
  refine z_iadd hY eL_law_1475 ?_
  refine z_sld hY eL_law_1476 hX1 (by omega) ?_
  refine z_aload hY eL_law_1477 3 rfl ?_
  obtain ⟨d1, mc, ms, d2, hd1, hd2, hmc, hms, ht⟩ := hv f g H hS
  refine z_callSH (M' := mL_between) (As := [.ref q, z_i (zX xs (i + 1)), z_i (zX xs (i + 2)), .ref o1]) (rest := []) (d1 := d1) (mc1 := mc) (ms1 := ms) hY eL_law_1478 (by rw [hg]; exact ht) (by omega) (Nat.le_of_ble_eq_true rfl) (by omega) (fun v h1 hv1 => ?_)
  obtain ⟨κ1, f1, c, rfl, hS1, hf1, hc1, hm⟩ := hv1
  unfold lsR at hc1
  unfold lsR at hf1
  refine z_istore (ls' := [(6, z_i c), (0, .ref b), (1, .ref q), (2, .ref (A 40)), (3, .ref o1), (4, .ref o2), (5, z_i i)]) hY eL_law_1481 rfl ?_
  refine z_aload hY eL_law_1483 3 rfl ?_
  refine z_aload hY eL_law_1484 1 rfl ?_
  refine z_iload hY eL_law_1485 6 rfl ?_
  refine z_const hY eL_law_1487 ?_
  refine z_iadd hY eL_law_1488 ?_
  refine z_sld hY eL_law_1489 hX1 (by omega) ?_
  refine z_aload hY eL_law_1490 1 rfl ?_
  refine z_iload hY eL_law_1491 6 rfl ?_
  refine z_const hY eL_law_1493 ?_
  refine z_iadd hY eL_law_1494 ?_
  refine z_sld hY eL_law_1495 hX1 (by omega) ?_
  refine z_callV (M' := mX8_between) (As := [z_i (zX xs (i + 1)), z_i (zX xs (i + 2))]) (rest := []) (d1 := d2) (mc1 := 0) (ms1 := 0) (ψ1 := z_no) hY eL_law_1496 (by rw [hg]; exact hm) hS1.za40 (by omega) (Nat.le_of_ble_eq_true rfl) (by omega) (fun _ _ z => False.elim z) (fun v2 h2 hv2 => ?_)
  obtain ⟨r, ρ, rfl, hr, hS2, hρ, hcr, hB2, hJ2⟩ := hv2
  unfold lsR at hr
  refine z_istore (ls' := [(7, z_i r), (6, z_i c), (0, .ref b), (1, .ref q), (2, .ref (A 40)), (3, .ref o1), (4, .ref o2), (5, z_i i)]) hY eL_law_1499 rfl ?_
  refine z_aload hY eL_law_1501 4 rfl ?_
  refine z_callVr (M' := mX8_thrown) (As := []) (rest := []) (r := z_i (ρ 0 0)) hY eL_law_1502 (by rw [hg]; exact hS2.zth hG hB2) hS2.za40 (by decide) (Nat.le_of_ble_eq_true rfl) (by omega) ?_
  refine z_iload hY eL_law_1505 1 rfl ?_
  refine z_icmpeq hY eL_law_1507 (by omega) (fun _ => ?_) (fun hne => absurd hρ hne)
  refine z_iload hY eL_law_1512 1 rfl ?_
  refine z_ifne hY eL_law_1514 (by omega) (fun _ => ?_) (fun h0 => ?_)
  · refine z_goto hY eL_law_1529 ?_
    exact z_sub [2, 3, 4, 5, 6, 7] rfl (z_widen (by omega) (by omega) (kk _ _ _ _ _ hS2 hJ2))
  · refine z_aload hY eL_law_1517 5 rfl ?_
    refine z_const hY eL_law_1518 ?_
    refine z_laload hY eL_law_1519 hS2.zo1 (by omega) ?_
    refine z_iload hY eL_law_1520 0 rfl ?_
    refine z_i2l hY eL_law_1522 hr ?_
    refine z_lcmp hY eL_law_1523 (by omega) ?_
    refine z_ifeq hY eL_law_1524 (by have := z_cmp_s (f1 0) r; omega) (fun _ => ?_) (fun hne => absurd ((z_cmp_s (f1 0) r).2.2.1.mpr (hcr h0)) hne)
    refine z_goto hY eL_law_1529 ?_
    exact z_sub [2, 3, 4, 5, 6, 7] rfl (z_widen (by omega) (by omega) (kk _ _ _ _ _ hS2 hJ2))
theorem w_c25 (hC : lC Y G b L xs i k n) (hS : lS G q A o1 o2 κ σ f g H) (hv : vW G q A o1 o2 J κ σ mL_median hL_median mX8_median [z_i (if zX xs (i + 1) = 0 then 0 else 1)]) (kk : lK Y G b q A o1 o2 i k n J) : z_W Y 1532 (lV b q (A 40) o1 o2 i) [] H k n := by
  obtain ⟨hY, hg, hX, hi, hc⟩ := hC
  have hX1 : z_Xs (z_gg Y) b L xs := by rw [hg]; exact hX
  have hG : z_OK G := by rw [← hg]; exact z_okG hY
  by_cases hz : zX xs (i + 1) = 0
  · rw [if_pos hz] at hv
    refine z_aload hY eL_law_1532 1 rfl ?_
    refine z_aload hY eL_law_1533 0 rfl ?_
    refine z_iload hY eL_law_1534 5 rfl ?_
    refine z_const hY eL_law_1536 ?_
    refine z_iadd hY eL_law_1537 ?_
    refine z_sld hY eL_law_1538 hX1 (by omega) ?_
    refine z_ifeq hY eL_law_1539 (zX_r _ _) (fun _ => ?_) (fun hn => absurd hz hn)
    refine z_const hY eL_law_1546 ?_
    refine z_aload hY eL_law_1547 3 rfl ?_
    obtain ⟨d1, mc, ms, d2, hd1, hd2, hmc, hms, ht⟩ := hv f g H hS
    refine z_callSH (M' := mL_median) (As := [.ref q, z_i 0, .ref o1]) (rest := []) (d1 := d1) (mc1 := mc) (ms1 := ms) hY eL_law_1548 (by rw [hg]; exact ht) (by omega) (Nat.le_of_ble_eq_true rfl) (by omega) (fun v h1 hv1 => ?_)
    obtain ⟨κ1, f1, c, rfl, hS1, hf1, hc1, hm⟩ := hv1
    unfold lsR at hc1
    unfold lsR at hf1
    refine z_istore (ls' := [(6, z_i c), (0, .ref b), (1, .ref q), (2, .ref (A 40)), (3, .ref o1), (4, .ref o2), (5, z_i i)]) hY eL_law_1551 rfl ?_
    refine z_aload hY eL_law_1553 3 rfl ?_
    refine z_aload hY eL_law_1554 1 rfl ?_
    refine z_iload hY eL_law_1555 6 rfl ?_
    refine z_const hY eL_law_1557 ?_
    refine z_iadd hY eL_law_1558 ?_
    refine z_sld hY eL_law_1559 hX1 (by omega) ?_
    refine z_ifeq hY eL_law_1560 (zX_r _ _) (fun _ => ?_) (fun hn => absurd hz hn)
    refine z_const hY eL_law_1567 ?_
    refine z_callV (M' := mX8_median) (As := [z_i 0]) (rest := []) (d1 := d2) (mc1 := 0) (ms1 := 0) (ψ1 := z_no) hY eL_law_1568 (by rw [hg]; exact hm) hS1.za40 (by omega) (Nat.le_of_ble_eq_true rfl) (by omega) (fun _ _ z => False.elim z) (fun v2 h2 hv2 => ?_)
    obtain ⟨r, ρ, rfl, hr, hS2, hρ, hcr, hB2, hJ2⟩ := hv2
    unfold lsR at hr
    refine z_istore (ls' := [(7, z_i r), (6, z_i c), (0, .ref b), (1, .ref q), (2, .ref (A 40)), (3, .ref o1), (4, .ref o2), (5, z_i i)]) hY eL_law_1571 rfl ?_
    refine z_aload hY eL_law_1573 4 rfl ?_
    refine z_callVr (M' := mX8_thrown) (As := []) (rest := []) (r := z_i (ρ 0 0)) hY eL_law_1574 (by rw [hg]; exact hS2.zth hG hB2) hS2.za40 (by decide) (Nat.le_of_ble_eq_true rfl) (by omega) ?_
    refine z_iload hY eL_law_1577 1 rfl ?_
    refine z_icmpeq hY eL_law_1579 (by omega) (fun _ => ?_) (fun hne => absurd hρ hne)
    refine z_iload hY eL_law_1584 1 rfl ?_
    refine z_ifne hY eL_law_1586 (by omega) (fun _ => ?_) (fun h0 => ?_)
    · refine z_goto hY eL_law_1601 ?_
      exact z_sub [2, 3, 4, 5, 6, 7] rfl (z_widen (by omega) (by omega) (kk _ _ _ _ _ hS2 hJ2))
    · refine z_aload hY eL_law_1589 5 rfl ?_
      refine z_const hY eL_law_1590 ?_
      refine z_laload hY eL_law_1591 hS2.zo1 (by omega) ?_
      refine z_iload hY eL_law_1592 0 rfl ?_
      refine z_i2l hY eL_law_1594 hr ?_
      refine z_lcmp hY eL_law_1595 (by omega) ?_
      refine z_ifeq hY eL_law_1596 (by have := z_cmp_s (f1 0) r; omega) (fun _ => ?_) (fun hne => absurd ((z_cmp_s (f1 0) r).2.2.1.mpr (hcr h0)) hne)
      refine z_goto hY eL_law_1601 ?_
      exact z_sub [2, 3, 4, 5, 6, 7] rfl (z_widen (by omega) (by omega) (kk _ _ _ _ _ hS2 hJ2))
  · rw [if_neg hz] at hv
    refine z_aload hY eL_law_1532 1 rfl ?_
    refine z_aload hY eL_law_1533 0 rfl ?_
    refine z_iload hY eL_law_1534 5 rfl ?_
    refine z_const hY eL_law_1536 ?_
    refine z_iadd hY eL_law_1537 ?_
    refine z_sld hY eL_law_1538 hX1 (by omega) ?_
    refine z_ifeq hY eL_law_1539 (zX_r _ _) (fun hn => absurd hn hz) (fun _ => ?_)
    refine z_const hY eL_law_1542 ?_
    refine z_goto hY eL_law_1543 ?_
    refine z_aload hY eL_law_1547 3 rfl ?_
    obtain ⟨d1, mc, ms, d2, hd1, hd2, hmc, hms, ht⟩ := hv f g H hS
    refine z_callSH (M' := mL_median) (As := [.ref q, z_i 1, .ref o1]) (rest := []) (d1 := d1) (mc1 := mc) (ms1 := ms) hY eL_law_1548 (by rw [hg]; exact ht) (by omega) (Nat.le_of_ble_eq_true rfl) (by omega) (fun v h1 hv1 => ?_)
    obtain ⟨κ1, f1, c, rfl, hS1, hf1, hc1, hm⟩ := hv1
    unfold lsR at hc1
    unfold lsR at hf1
    refine z_istore (ls' := [(6, z_i c), (0, .ref b), (1, .ref q), (2, .ref (A 40)), (3, .ref o1), (4, .ref o2), (5, z_i i)]) hY eL_law_1551 rfl ?_
    refine z_aload hY eL_law_1553 3 rfl ?_
    refine z_aload hY eL_law_1554 1 rfl ?_
    refine z_iload hY eL_law_1555 6 rfl ?_
    refine z_const hY eL_law_1557 ?_
    refine z_iadd hY eL_law_1558 ?_
    refine z_sld hY eL_law_1559 hX1 (by omega) ?_
    refine z_ifeq hY eL_law_1560 (zX_r _ _) (fun hn => absurd hn hz) (fun _ => ?_)
    refine z_const hY eL_law_1563 ?_
    refine z_goto hY eL_law_1564 ?_
    refine z_callV (M' := mX8_median) (As := [z_i 1]) (rest := []) (d1 := d2) (mc1 := 0) (ms1 := 0) (ψ1 := z_no) hY eL_law_1568 (by rw [hg]; exact hm) hS1.za40 (by omega) (Nat.le_of_ble_eq_true rfl) (by omega) (fun _ _ z => False.elim z) (fun v2 h2 hv2 => ?_)
    obtain ⟨r, ρ, rfl, hr, hS2, hρ, hcr, hB2, hJ2⟩ := hv2
    unfold lsR at hr
    refine z_istore (ls' := [(7, z_i r), (6, z_i c), (0, .ref b), (1, .ref q), (2, .ref (A 40)), (3, .ref o1), (4, .ref o2), (5, z_i i)]) hY eL_law_1571 rfl ?_
    refine z_aload hY eL_law_1573 4 rfl ?_
    refine z_callVr (M' := mX8_thrown) (As := []) (rest := []) (r := z_i (ρ 0 0)) hY eL_law_1574 (by rw [hg]; exact hS2.zth hG hB2) hS2.za40 (by decide) (Nat.le_of_ble_eq_true rfl) (by omega) ?_
    refine z_iload hY eL_law_1577 1 rfl ?_
    refine z_icmpeq hY eL_law_1579 (by omega) (fun _ => ?_) (fun hne => absurd hρ hne)
    refine z_iload hY eL_law_1584 1 rfl ?_
    refine z_ifne hY eL_law_1586 (by omega) (fun _ => ?_) (fun h0 => ?_)
    · refine z_goto hY eL_law_1601 ?_
      exact z_sub [2, 3, 4, 5, 6, 7] rfl (z_widen (by omega) (by omega) (kk _ _ _ _ _ hS2 hJ2))
    · refine z_aload hY eL_law_1589 5 rfl ?_
      refine z_const hY eL_law_1590 ?_
      refine z_laload hY eL_law_1591 hS2.zo1 (by omega) ?_
      refine z_iload hY eL_law_1592 0 rfl ?_
      refine z_i2l hY eL_law_1594 hr ?_
      refine z_lcmp hY eL_law_1595 (by omega) ?_
      refine z_ifeq hY eL_law_1596 (by have := z_cmp_s (f1 0) r; omega) (fun _ => ?_) (fun hne => absurd ((z_cmp_s (f1 0) r).2.2.1.mpr (hcr h0)) hne)
      refine z_goto hY eL_law_1601 ?_
      exact z_sub [2, 3, 4, 5, 6, 7] rfl (z_widen (by omega) (by omega) (kk _ _ _ _ _ hS2 hJ2))
theorem w_c26 (hC : lC Y G b L xs i k n) (hS : lS G q A o1 o2 κ σ f g H) (hv : vW G q A o1 o2 J κ σ mL_quantile hL_quantile mX8_quantile [z_i (zX xs (i + 1)), z_i (zX xs (i + 2))]) (kk : lK Y G b q A o1 o2 i k n J) : z_W Y 1604 (lV b q (A 40) o1 o2 i) [] H k n := by
  obtain ⟨hY, hg, hX, hi, hc⟩ := hC
  have hX1 : z_Xs (z_gg Y) b L xs := by rw [hg]; exact hX
  have hG : z_OK G := by rw [← hg]; exact z_okG hY
  refine z_aload hY eL_law_1604 1 rfl ?_
  refine z_aload hY eL_law_1605 0 rfl ?_
  refine z_iload hY eL_law_1606 5 rfl ?_
  refine z_const hY eL_law_1608 ?_
  refine z_iadd hY eL_law_1609 ?_
  refine z_sld hY eL_law_1610 hX1 (by omega) ?_
  refine z_aload hY eL_law_1611 0 rfl ?_
  refine z_iload hY eL_law_1612 5 rfl ?_
  refine z_const hY eL_law_1614 ?_
  refine z_iadd hY eL_law_1615 ?_
  refine z_sld hY eL_law_1616 hX1 (by omega) ?_
  refine z_aload hY eL_law_1617 3 rfl ?_
  obtain ⟨d1, mc, ms, d2, hd1, hd2, hmc, hms, ht⟩ := hv f g H hS
  refine z_callSH (M' := mL_quantile) (As := [.ref q, z_i (zX xs (i + 1)), z_i (zX xs (i + 2)), .ref o1]) (rest := []) (d1 := d1) (mc1 := mc) (ms1 := ms) hY eL_law_1618 (by rw [hg]; exact ht) (by omega) (Nat.le_of_ble_eq_true rfl) (by omega) (fun v h1 hv1 => ?_)
  obtain ⟨κ1, f1, c, rfl, hS1, hf1, hc1, hm⟩ := hv1
  unfold lsR at hc1
  unfold lsR at hf1
  refine z_istore (ls' := [(6, z_i c), (0, .ref b), (1, .ref q), (2, .ref (A 40)), (3, .ref o1), (4, .ref o2), (5, z_i i)]) hY eL_law_1621 rfl ?_
  refine z_aload hY eL_law_1623 3 rfl ?_
  refine z_aload hY eL_law_1624 1 rfl ?_
  refine z_iload hY eL_law_1625 6 rfl ?_
  refine z_const hY eL_law_1627 ?_
  refine z_iadd hY eL_law_1628 ?_
  refine z_sld hY eL_law_1629 hX1 (by omega) ?_
  refine z_aload hY eL_law_1630 1 rfl ?_
  refine z_iload hY eL_law_1631 6 rfl ?_
  refine z_const hY eL_law_1633 ?_
  refine z_iadd hY eL_law_1634 ?_
  refine z_sld hY eL_law_1635 hX1 (by omega) ?_
  refine z_callV (M' := mX8_quantile) (As := [z_i (zX xs (i + 1)), z_i (zX xs (i + 2))]) (rest := []) (d1 := d2) (mc1 := 0) (ms1 := 0) (ψ1 := z_no) hY eL_law_1636 (by rw [hg]; exact hm) hS1.za40 (by omega) (Nat.le_of_ble_eq_true rfl) (by omega) (fun _ _ z => False.elim z) (fun v2 h2 hv2 => ?_)
  obtain ⟨r, ρ, rfl, hr, hS2, hρ, hcr, hB2, hJ2⟩ := hv2
  unfold lsR at hr
  refine z_istore (ls' := [(7, z_i r), (6, z_i c), (0, .ref b), (1, .ref q), (2, .ref (A 40)), (3, .ref o1), (4, .ref o2), (5, z_i i)]) hY eL_law_1639 rfl ?_
  refine z_aload hY eL_law_1641 4 rfl ?_
  refine z_callVr (M' := mX8_thrown) (As := []) (rest := []) (r := z_i (ρ 0 0)) hY eL_law_1642 (by rw [hg]; exact hS2.zth hG hB2) hS2.za40 (by decide) (Nat.le_of_ble_eq_true rfl) (by omega) ?_
  refine z_iload hY eL_law_1645 1 rfl ?_
  refine z_icmpeq hY eL_law_1647 (by omega) (fun _ => ?_) (fun hne => absurd hρ hne)
  refine z_iload hY eL_law_1652 1 rfl ?_
  refine z_ifne hY eL_law_1654 (by omega) (fun _ => ?_) (fun h0 => ?_)
  · refine z_goto hY eL_law_1669 ?_
    exact z_sub [2, 3, 4, 5, 6, 7] rfl (z_widen (by omega) (by omega) (kk _ _ _ _ _ hS2 hJ2))
  · refine z_aload hY eL_law_1657 5 rfl ?_
    refine z_const hY eL_law_1658 ?_
    refine z_laload hY eL_law_1659 hS2.zo1 (by omega) ?_
    refine z_iload hY eL_law_1660 0 rfl ?_
    refine z_i2l hY eL_law_1662 hr ?_
    refine z_lcmp hY eL_law_1663 (by omega) ?_
    refine z_ifeq hY eL_law_1664 (by have := z_cmp_s (f1 0) r; omega) (fun _ => ?_) (fun hne => absurd ((z_cmp_s (f1 0) r).2.2.1.mpr (hcr h0)) hne)
    refine z_goto hY eL_law_1669 ?_
    exact z_sub [2, 3, 4, 5, 6, 7] rfl (z_widen (by omega) (by omega) (kk _ _ _ _ _ hS2 hJ2))
theorem w_c27 (hC : lC Y G b L xs i k n) (hS : lS G q A o1 o2 κ σ f g H) (hv : vW G q A o1 o2 J κ σ mL_enter hL_enter mX8_enter [z_i (zX xs (i + 1))]) (kk : lK Y G b q A o1 o2 i k n J) : z_W Y 1672 (lV b q (A 40) o1 o2 i) [] H k n := by
  obtain ⟨hY, hg, hX, hi, hc⟩ := hC
  have hX1 : z_Xs (z_gg Y) b L xs := by rw [hg]; exact hX
  have hG : z_OK G := by rw [← hg]; exact z_okG hY
  refine z_aload hY eL_law_1672 1 rfl ?_
  refine z_aload hY eL_law_1673 0 rfl ?_
  refine z_iload hY eL_law_1674 5 rfl ?_
  refine z_const hY eL_law_1676 ?_
  refine z_iadd hY eL_law_1677 ?_
  refine z_sld hY eL_law_1678 hX1 (by omega) ?_
  refine z_aload hY eL_law_1679 3 rfl ?_
  obtain ⟨d1, mc, ms, d2, hd1, hd2, hmc, hms, ht⟩ := hv f g H hS
  refine z_callSH (M' := mL_enter) (As := [.ref q, z_i (zX xs (i + 1)), .ref o1]) (rest := []) (d1 := d1) (mc1 := mc) (ms1 := ms) hY eL_law_1680 (by rw [hg]; exact ht) (by omega) (Nat.le_of_ble_eq_true rfl) (by omega) (fun v h1 hv1 => ?_)
  obtain ⟨κ1, f1, c, rfl, hS1, hf1, hc1, hm⟩ := hv1
  unfold lsR at hc1
  unfold lsR at hf1
  refine z_istore (ls' := [(6, z_i c), (0, .ref b), (1, .ref q), (2, .ref (A 40)), (3, .ref o1), (4, .ref o2), (5, z_i i)]) hY eL_law_1683 rfl ?_
  refine z_aload hY eL_law_1685 3 rfl ?_
  refine z_aload hY eL_law_1686 1 rfl ?_
  refine z_iload hY eL_law_1687 6 rfl ?_
  refine z_const hY eL_law_1689 ?_
  refine z_iadd hY eL_law_1690 ?_
  refine z_sld hY eL_law_1691 hX1 (by omega) ?_
  refine z_callV (M' := mX8_enter) (As := [z_i (zX xs (i + 1))]) (rest := []) (d1 := d2) (mc1 := 0) (ms1 := 0) (ψ1 := z_no) hY eL_law_1692 (by rw [hg]; exact hm) hS1.za40 (by omega) (Nat.le_of_ble_eq_true rfl) (by omega) (fun _ _ z => False.elim z) (fun v2 h2 hv2 => ?_)
  obtain ⟨r, ρ, rfl, hr, hS2, hρ, hcr, hB2, hJ2⟩ := hv2
  unfold lsR at hr
  refine z_istore (ls' := [(7, z_i r), (6, z_i c), (0, .ref b), (1, .ref q), (2, .ref (A 40)), (3, .ref o1), (4, .ref o2), (5, z_i i)]) hY eL_law_1695 rfl ?_
  refine z_aload hY eL_law_1697 4 rfl ?_
  refine z_callVr (M' := mX8_thrown) (As := []) (rest := []) (r := z_i (ρ 0 0)) hY eL_law_1698 (by rw [hg]; exact hS2.zth hG hB2) hS2.za40 (by decide) (Nat.le_of_ble_eq_true rfl) (by omega) ?_
  refine z_iload hY eL_law_1701 1 rfl ?_
  refine z_icmpeq hY eL_law_1703 (by omega) (fun _ => ?_) (fun hne => absurd hρ hne)
  refine z_iload hY eL_law_1708 1 rfl ?_
  refine z_ifne hY eL_law_1710 (by omega) (fun _ => ?_) (fun h0 => ?_)
  · refine z_goto hY eL_law_1725 ?_
    exact z_sub [2, 3, 4, 5, 6, 7] rfl (z_widen (by omega) (by omega) (kk _ _ _ _ _ hS2 hJ2))
  · refine z_aload hY eL_law_1713 5 rfl ?_
    refine z_const hY eL_law_1714 ?_
    refine z_laload hY eL_law_1715 hS2.zo1 (by omega) ?_
    refine z_iload hY eL_law_1716 0 rfl ?_
    refine z_i2l hY eL_law_1718 hr ?_
    refine z_lcmp hY eL_law_1719 (by omega) ?_
    refine z_ifeq hY eL_law_1720 (by have := z_cmp_s (f1 0) r; omega) (fun _ => ?_) (fun hne => absurd ((z_cmp_s (f1 0) r).2.2.1.mpr (hcr h0)) hne)
    refine z_goto hY eL_law_1725 ?_
    exact z_sub [2, 3, 4, 5, 6, 7] rfl (z_widen (by omega) (by omega) (kk _ _ _ _ _ hS2 hJ2))
theorem w_c28 (hC : lC Y G b L xs i k n) (hS : lS G q A o1 o2 κ σ f g H) (hv : vW G q A o1 o2 J κ σ mL_challenge hL_challenge mX8_challenge [z_i (zX xs (i + 1)), z_i (zX xs (i + 2)), z_i (if zX xs (i + 3) = 0 then 0 else 1)]) (kk : lK Y G b q A o1 o2 i k n J) : z_W Y 1728 (lV b q (A 40) o1 o2 i) [] H k n := by
  obtain ⟨hY, hg, hX, hi, hc⟩ := hC
  have hX1 : z_Xs (z_gg Y) b L xs := by rw [hg]; exact hX
  have hG : z_OK G := by rw [← hg]; exact z_okG hY
  by_cases hz : zX xs (i + 3) = 0
  · rw [if_pos hz] at hv
    refine z_aload hY eL_law_1728 1 rfl ?_
    refine z_aload hY eL_law_1729 0 rfl ?_
    refine z_iload hY eL_law_1730 5 rfl ?_
    refine z_const hY eL_law_1732 ?_
    refine z_iadd hY eL_law_1733 ?_
    refine z_sld hY eL_law_1734 hX1 (by omega) ?_
    refine z_aload hY eL_law_1735 0 rfl ?_
    refine z_iload hY eL_law_1736 5 rfl ?_
    refine z_const hY eL_law_1738 ?_
    refine z_iadd hY eL_law_1739 ?_
    refine z_sld hY eL_law_1740 hX1 (by omega) ?_
    refine z_aload hY eL_law_1741 0 rfl ?_
    refine z_iload hY eL_law_1742 5 rfl ?_
    refine z_const hY eL_law_1744 ?_
    refine z_iadd hY eL_law_1745 ?_
    refine z_sld hY eL_law_1746 hX1 (by omega) ?_
    refine z_ifeq hY eL_law_1747 (zX_r _ _) (fun _ => ?_) (fun hn => absurd hz hn)
    refine z_const hY eL_law_1754 ?_
    refine z_aload hY eL_law_1755 3 rfl ?_
    obtain ⟨d1, mc, ms, d2, hd1, hd2, hmc, hms, ht⟩ := hv f g H hS
    refine z_callSH (M' := mL_challenge) (As := [.ref q, z_i (zX xs (i + 1)), z_i (zX xs (i + 2)), z_i 0, .ref o1]) (rest := []) (d1 := d1) (mc1 := mc) (ms1 := ms) hY eL_law_1756 (by rw [hg]; exact ht) (by omega) (Nat.le_of_ble_eq_true rfl) (by omega) (fun v h1 hv1 => ?_)
    obtain ⟨κ1, f1, c, rfl, hS1, hf1, hc1, hm⟩ := hv1
    unfold lsR at hc1
    unfold lsR at hf1
    refine z_istore (ls' := [(6, z_i c), (0, .ref b), (1, .ref q), (2, .ref (A 40)), (3, .ref o1), (4, .ref o2), (5, z_i i)]) hY eL_law_1759 rfl ?_
    refine z_aload hY eL_law_1761 3 rfl ?_
    refine z_aload hY eL_law_1762 1 rfl ?_
    refine z_iload hY eL_law_1763 6 rfl ?_
    refine z_const hY eL_law_1765 ?_
    refine z_iadd hY eL_law_1766 ?_
    refine z_sld hY eL_law_1767 hX1 (by omega) ?_
    refine z_aload hY eL_law_1768 1 rfl ?_
    refine z_iload hY eL_law_1769 6 rfl ?_
    refine z_const hY eL_law_1771 ?_
    refine z_iadd hY eL_law_1772 ?_
    refine z_sld hY eL_law_1773 hX1 (by omega) ?_
    refine z_aload hY eL_law_1774 1 rfl ?_
    refine z_iload hY eL_law_1775 6 rfl ?_
    refine z_const hY eL_law_1777 ?_
    refine z_iadd hY eL_law_1778 ?_
    refine z_sld hY eL_law_1779 hX1 (by omega) ?_
    refine z_ifeq hY eL_law_1780 (zX_r _ _) (fun _ => ?_) (fun hn => absurd hz hn)
    refine z_const hY eL_law_1787 ?_
    refine z_callV (M' := mX8_challenge) (As := [z_i (zX xs (i + 1)), z_i (zX xs (i + 2)), z_i 0]) (rest := []) (d1 := d2) (mc1 := 0) (ms1 := 0) (ψ1 := z_no) hY eL_law_1788 (by rw [hg]; exact hm) hS1.za40 (by omega) (Nat.le_of_ble_eq_true rfl) (by omega) (fun _ _ z => False.elim z) (fun v2 h2 hv2 => ?_)
    obtain ⟨r, ρ, rfl, hr, hS2, hρ, hcr, hB2, hJ2⟩ := hv2
    unfold lsR at hr
    refine z_istore (ls' := [(7, z_i r), (6, z_i c), (0, .ref b), (1, .ref q), (2, .ref (A 40)), (3, .ref o1), (4, .ref o2), (5, z_i i)]) hY eL_law_1791 rfl ?_
    refine z_aload hY eL_law_1793 4 rfl ?_
    refine z_callVr (M' := mX8_thrown) (As := []) (rest := []) (r := z_i (ρ 0 0)) hY eL_law_1794 (by rw [hg]; exact hS2.zth hG hB2) hS2.za40 (by decide) (Nat.le_of_ble_eq_true rfl) (by omega) ?_
    refine z_iload hY eL_law_1797 1 rfl ?_
    refine z_icmpeq hY eL_law_1799 (by omega) (fun _ => ?_) (fun hne => absurd hρ hne)
    refine z_iload hY eL_law_1804 1 rfl ?_
    refine z_ifne hY eL_law_1806 (by omega) (fun _ => ?_) (fun h0 => ?_)
    · refine z_goto hY eL_law_1821 ?_
      exact z_sub [2, 3, 4, 5, 6, 7] rfl (z_widen (by omega) (by omega) (kk _ _ _ _ _ hS2 hJ2))
    · refine z_aload hY eL_law_1809 5 rfl ?_
      refine z_const hY eL_law_1810 ?_
      refine z_laload hY eL_law_1811 hS2.zo1 (by omega) ?_
      refine z_iload hY eL_law_1812 0 rfl ?_
      refine z_i2l hY eL_law_1814 hr ?_
      refine z_lcmp hY eL_law_1815 (by omega) ?_
      refine z_ifeq hY eL_law_1816 (by have := z_cmp_s (f1 0) r; omega) (fun _ => ?_) (fun hne => absurd ((z_cmp_s (f1 0) r).2.2.1.mpr (hcr h0)) hne)
      refine z_goto hY eL_law_1821 ?_
      exact z_sub [2, 3, 4, 5, 6, 7] rfl (z_widen (by omega) (by omega) (kk _ _ _ _ _ hS2 hJ2))
  · rw [if_neg hz] at hv
    refine z_aload hY eL_law_1728 1 rfl ?_
    refine z_aload hY eL_law_1729 0 rfl ?_
    refine z_iload hY eL_law_1730 5 rfl ?_
    refine z_const hY eL_law_1732 ?_
    refine z_iadd hY eL_law_1733 ?_
    refine z_sld hY eL_law_1734 hX1 (by omega) ?_
    refine z_aload hY eL_law_1735 0 rfl ?_
    refine z_iload hY eL_law_1736 5 rfl ?_
    refine z_const hY eL_law_1738 ?_
    refine z_iadd hY eL_law_1739 ?_
    refine z_sld hY eL_law_1740 hX1 (by omega) ?_
    refine z_aload hY eL_law_1741 0 rfl ?_
    refine z_iload hY eL_law_1742 5 rfl ?_
    refine z_const hY eL_law_1744 ?_
    refine z_iadd hY eL_law_1745 ?_
    refine z_sld hY eL_law_1746 hX1 (by omega) ?_
    refine z_ifeq hY eL_law_1747 (zX_r _ _) (fun hn => absurd hn hz) (fun _ => ?_)
    refine z_const hY eL_law_1750 ?_
    refine z_goto hY eL_law_1751 ?_
    refine z_aload hY eL_law_1755 3 rfl ?_
    obtain ⟨d1, mc, ms, d2, hd1, hd2, hmc, hms, ht⟩ := hv f g H hS
    refine z_callSH (M' := mL_challenge) (As := [.ref q, z_i (zX xs (i + 1)), z_i (zX xs (i + 2)), z_i 1, .ref o1]) (rest := []) (d1 := d1) (mc1 := mc) (ms1 := ms) hY eL_law_1756 (by rw [hg]; exact ht) (by omega) (Nat.le_of_ble_eq_true rfl) (by omega) (fun v h1 hv1 => ?_)
    obtain ⟨κ1, f1, c, rfl, hS1, hf1, hc1, hm⟩ := hv1
    unfold lsR at hc1
    unfold lsR at hf1
    refine z_istore (ls' := [(6, z_i c), (0, .ref b), (1, .ref q), (2, .ref (A 40)), (3, .ref o1), (4, .ref o2), (5, z_i i)]) hY eL_law_1759 rfl ?_
    refine z_aload hY eL_law_1761 3 rfl ?_
    refine z_aload hY eL_law_1762 1 rfl ?_
    refine z_iload hY eL_law_1763 6 rfl ?_
    refine z_const hY eL_law_1765 ?_
    refine z_iadd hY eL_law_1766 ?_
    refine z_sld hY eL_law_1767 hX1 (by omega) ?_
    refine z_aload hY eL_law_1768 1 rfl ?_
    refine z_iload hY eL_law_1769 6 rfl ?_
    refine z_const hY eL_law_1771 ?_
    refine z_iadd hY eL_law_1772 ?_
    refine z_sld hY eL_law_1773 hX1 (by omega) ?_
    refine z_aload hY eL_law_1774 1 rfl ?_
    refine z_iload hY eL_law_1775 6 rfl ?_
    refine z_const hY eL_law_1777 ?_
    refine z_iadd hY eL_law_1778 ?_
    refine z_sld hY eL_law_1779 hX1 (by omega) ?_
    refine z_ifeq hY eL_law_1780 (zX_r _ _) (fun hn => absurd hn hz) (fun _ => ?_)
    refine z_const hY eL_law_1783 ?_
    refine z_goto hY eL_law_1784 ?_
    refine z_callV (M' := mX8_challenge) (As := [z_i (zX xs (i + 1)), z_i (zX xs (i + 2)), z_i 1]) (rest := []) (d1 := d2) (mc1 := 0) (ms1 := 0) (ψ1 := z_no) hY eL_law_1788 (by rw [hg]; exact hm) hS1.za40 (by omega) (Nat.le_of_ble_eq_true rfl) (by omega) (fun _ _ z => False.elim z) (fun v2 h2 hv2 => ?_)
    obtain ⟨r, ρ, rfl, hr, hS2, hρ, hcr, hB2, hJ2⟩ := hv2
    unfold lsR at hr
    refine z_istore (ls' := [(7, z_i r), (6, z_i c), (0, .ref b), (1, .ref q), (2, .ref (A 40)), (3, .ref o1), (4, .ref o2), (5, z_i i)]) hY eL_law_1791 rfl ?_
    refine z_aload hY eL_law_1793 4 rfl ?_
    refine z_callVr (M' := mX8_thrown) (As := []) (rest := []) (r := z_i (ρ 0 0)) hY eL_law_1794 (by rw [hg]; exact hS2.zth hG hB2) hS2.za40 (by decide) (Nat.le_of_ble_eq_true rfl) (by omega) ?_
    refine z_iload hY eL_law_1797 1 rfl ?_
    refine z_icmpeq hY eL_law_1799 (by omega) (fun _ => ?_) (fun hne => absurd hρ hne)
    refine z_iload hY eL_law_1804 1 rfl ?_
    refine z_ifne hY eL_law_1806 (by omega) (fun _ => ?_) (fun h0 => ?_)
    · refine z_goto hY eL_law_1821 ?_
      exact z_sub [2, 3, 4, 5, 6, 7] rfl (z_widen (by omega) (by omega) (kk _ _ _ _ _ hS2 hJ2))
    · refine z_aload hY eL_law_1809 5 rfl ?_
      refine z_const hY eL_law_1810 ?_
      refine z_laload hY eL_law_1811 hS2.zo1 (by omega) ?_
      refine z_iload hY eL_law_1812 0 rfl ?_
      refine z_i2l hY eL_law_1814 hr ?_
      refine z_lcmp hY eL_law_1815 (by omega) ?_
      refine z_ifeq hY eL_law_1816 (by have := z_cmp_s (f1 0) r; omega) (fun _ => ?_) (fun hne => absurd ((z_cmp_s (f1 0) r).2.2.1.mpr (hcr h0)) hne)
      refine z_goto hY eL_law_1821 ?_
      exact z_sub [2, 3, 4, 5, 6, 7] rfl (z_widen (by omega) (by omega) (kk _ _ _ _ _ hS2 hJ2))
theorem w_c29 (hC : lC Y G b L xs i k n) (hS : lS G q A o1 o2 κ σ f g H) (hv : vW G q A o1 o2 J κ σ mL_mayChallenge hL_mayChallenge mX8_mayChallenge [z_i (zX xs (i + 1))]) (kk : lK Y G b q A o1 o2 i k n J) : z_W Y 1824 (lV b q (A 40) o1 o2 i) [] H k n := by
  obtain ⟨hY, hg, hX, hi, hc⟩ := hC
  have hX1 : z_Xs (z_gg Y) b L xs := by rw [hg]; exact hX
  have hG : z_OK G := by rw [← hg]; exact z_okG hY
  refine z_aload hY eL_law_1824 1 rfl ?_
  refine z_aload hY eL_law_1825 0 rfl ?_
  refine z_iload hY eL_law_1826 5 rfl ?_
  refine z_const hY eL_law_1828 ?_
  refine z_iadd hY eL_law_1829 ?_
  refine z_sld hY eL_law_1830 hX1 (by omega) ?_
  refine z_aload hY eL_law_1831 3 rfl ?_
  obtain ⟨d1, mc, ms, d2, hd1, hd2, hmc, hms, ht⟩ := hv f g H hS
  refine z_callSH (M' := mL_mayChallenge) (As := [.ref q, z_i (zX xs (i + 1)), .ref o1]) (rest := []) (d1 := d1) (mc1 := mc) (ms1 := ms) hY eL_law_1832 (by rw [hg]; exact ht) (by omega) (Nat.le_of_ble_eq_true rfl) (by omega) (fun v h1 hv1 => ?_)
  obtain ⟨κ1, f1, c, rfl, hS1, hf1, hc1, hm⟩ := hv1
  unfold lsR at hc1
  unfold lsR at hf1
  refine z_istore (ls' := [(6, z_i c), (0, .ref b), (1, .ref q), (2, .ref (A 40)), (3, .ref o1), (4, .ref o2), (5, z_i i)]) hY eL_law_1835 rfl ?_
  refine z_aload hY eL_law_1837 3 rfl ?_
  refine z_aload hY eL_law_1838 1 rfl ?_
  refine z_iload hY eL_law_1839 6 rfl ?_
  refine z_const hY eL_law_1841 ?_
  refine z_iadd hY eL_law_1842 ?_
  refine z_sld hY eL_law_1843 hX1 (by omega) ?_
  refine z_callV (M' := mX8_mayChallenge) (As := [z_i (zX xs (i + 1))]) (rest := []) (d1 := d2) (mc1 := 0) (ms1 := 0) (ψ1 := z_no) hY eL_law_1844 (by rw [hg]; exact hm) hS1.za40 (by omega) (Nat.le_of_ble_eq_true rfl) (by omega) (fun _ _ z => False.elim z) (fun v2 h2 hv2 => ?_)
  obtain ⟨r, ρ, rfl, hr, hS2, hρ, hcr, hB2, hJ2⟩ := hv2
  unfold lsR at hr
  refine z_istore (ls' := [(7, z_i r), (6, z_i c), (0, .ref b), (1, .ref q), (2, .ref (A 40)), (3, .ref o1), (4, .ref o2), (5, z_i i)]) hY eL_law_1847 rfl ?_
  refine z_aload hY eL_law_1849 4 rfl ?_
  refine z_callVr (M' := mX8_thrown) (As := []) (rest := []) (r := z_i (ρ 0 0)) hY eL_law_1850 (by rw [hg]; exact hS2.zth hG hB2) hS2.za40 (by decide) (Nat.le_of_ble_eq_true rfl) (by omega) ?_
  refine z_iload hY eL_law_1853 1 rfl ?_
  refine z_icmpeq hY eL_law_1855 (by omega) (fun _ => ?_) (fun hne => absurd hρ hne)
  refine z_iload hY eL_law_1860 1 rfl ?_
  refine z_ifne hY eL_law_1862 (by omega) (fun _ => ?_) (fun h0 => ?_)
  · refine z_goto hY eL_law_1877 ?_
    exact z_sub [2, 3, 4, 5, 6, 7] rfl (z_widen (by omega) (by omega) (kk _ _ _ _ _ hS2 hJ2))
  · refine z_aload hY eL_law_1865 5 rfl ?_
    refine z_const hY eL_law_1866 ?_
    refine z_laload hY eL_law_1867 hS2.zo1 (by omega) ?_
    refine z_iload hY eL_law_1868 0 rfl ?_
    refine z_i2l hY eL_law_1870 hr ?_
    refine z_lcmp hY eL_law_1871 (by omega) ?_
    refine z_ifeq hY eL_law_1872 (by have := z_cmp_s (f1 0) r; omega) (fun _ => ?_) (fun hne => absurd ((z_cmp_s (f1 0) r).2.2.1.mpr (hcr h0)) hne)
    refine z_goto hY eL_law_1877 ?_
    exact z_sub [2, 3, 4, 5, 6, 7] rfl (z_widen (by omega) (by omega) (kk _ _ _ _ _ hS2 hJ2))
end LC21
