section LC31
variable {Y : z_Y} {G : z_G} {b q o1 o2 L : Nat} {A : Nat → Nat} {xs : Nat → Int32} {J : c_K → z_S → Prop} {κ : c_K} {σ : z_S} {f : Int → Int} {g : Int → UInt64} {H : z_H} {i : Int} {k n : Nat}
theorem w_c30 (hC : lC Y G b L xs i k n) (hS : lS G q A o1 o2 κ σ f g H) (hv : vW G q A o1 o2 J κ σ mL_setReach hL_setReach mX8_setReach [z_i (zX xs (i + 1))]) (kk : lK Y G b q A o1 o2 i k n J) : z_W Y 1880 (lV b q (A 40) o1 o2 i) [] H k n := by
  obtain ⟨hY, hg, hX, hi, hc⟩ := hC
  have hX1 : z_Xs (z_gg Y) b L xs := by rw [hg]; exact hX
  have hG : z_OK G := by rw [← hg]; exact z_okG hY
  refine z_aload hY eL_law_1880 1 rfl ?_
  refine z_aload hY eL_law_1881 0 rfl ?_
  refine z_iload hY eL_law_1882 5 rfl ?_
  refine z_const hY eL_law_1884 ?_
  refine z_iadd hY eL_law_1885 ?_
  refine z_sld hY eL_law_1886 hX1 (by omega) ?_
  refine z_aload hY eL_law_1887 3 rfl ?_
  obtain ⟨d1, mc, ms, d2, hd1, hd2, hmc, hms, ht⟩ := hv f g H hS
  refine z_callSH (M' := mL_setReach) (As := [.ref q, z_i (zX xs (i + 1)), .ref o1]) (rest := []) (d1 := d1) (mc1 := mc) (ms1 := ms) hY eL_law_1888 (by rw [hg]; exact ht) (by omega) (Nat.le_of_ble_eq_true rfl) (by omega) (fun v h1 hv1 => ?_)
  obtain ⟨κ1, f1, c, rfl, hS1, hf1, hc1, hm⟩ := hv1
  unfold lsR at hc1
  unfold lsR at hf1
  refine z_istore (ls' := [(6, z_i c), (0, .ref b), (1, .ref q), (2, .ref (A 40)), (3, .ref o1), (4, .ref o2), (5, z_i i)]) hY eL_law_1891 rfl ?_
  refine z_aload hY eL_law_1893 3 rfl ?_
  refine z_aload hY eL_law_1894 1 rfl ?_
  refine z_iload hY eL_law_1895 6 rfl ?_
  refine z_const hY eL_law_1897 ?_
  refine z_iadd hY eL_law_1898 ?_
  refine z_sld hY eL_law_1899 hX1 (by omega) ?_
  refine z_callV (M' := mX8_setReach) (As := [z_i (zX xs (i + 1))]) (rest := []) (d1 := d2) (mc1 := 0) (ms1 := 0) (ψ1 := z_no) hY eL_law_1900 (by rw [hg]; exact hm) hS1.za40 (by omega) (Nat.le_of_ble_eq_true rfl) (by omega) (fun _ _ z => False.elim z) (fun v2 h2 hv2 => ?_)
  obtain ⟨r, ρ, rfl, hr, hS2, hρ, hcr, hB2, hJ2⟩ := hv2
  unfold lsR at hr
  refine z_istore (ls' := [(7, z_i r), (6, z_i c), (0, .ref b), (1, .ref q), (2, .ref (A 40)), (3, .ref o1), (4, .ref o2), (5, z_i i)]) hY eL_law_1903 rfl ?_
  refine z_aload hY eL_law_1905 4 rfl ?_
  refine z_callVr (M' := mX8_thrown) (As := []) (rest := []) (r := z_i (ρ 0 0)) hY eL_law_1906 (by rw [hg]; exact hS2.zth hG hB2) hS2.za40 (by decide) (Nat.le_of_ble_eq_true rfl) (by omega) ?_
  refine z_iload hY eL_law_1909 1 rfl ?_
  refine z_icmpeq hY eL_law_1911 (by omega) (fun _ => ?_) (fun hne => absurd hρ hne)
  refine z_iload hY eL_law_1916 1 rfl ?_
  refine z_ifne hY eL_law_1918 (by omega) (fun _ => ?_) (fun h0 => ?_)
  · refine z_goto hY eL_law_1933 ?_
    exact z_sub [2, 3, 4, 5, 6, 7] rfl (z_widen (by omega) (by omega) (kk _ _ _ _ _ hS2 hJ2))
  · refine z_aload hY eL_law_1921 5 rfl ?_
    refine z_const hY eL_law_1922 ?_
    refine z_laload hY eL_law_1923 hS2.zo1 (by omega) ?_
    refine z_iload hY eL_law_1924 0 rfl ?_
    refine z_i2l hY eL_law_1926 hr ?_
    refine z_lcmp hY eL_law_1927 (by omega) ?_
    refine z_ifeq hY eL_law_1928 (by have := z_cmp_s (f1 0) r; omega) (fun _ => ?_) (fun hne => absurd ((z_cmp_s (f1 0) r).2.2.1.mpr (hcr h0)) hne)
    refine z_goto hY eL_law_1933 ?_
    exact z_sub [2, 3, 4, 5, 6, 7] rfl (z_widen (by omega) (by omega) (kk _ _ _ _ _ hS2 hJ2))
theorem w_c31 (hC : lC Y G b L xs i k n) (hS : lS G q A o1 o2 κ σ f g H) (hv : vW G q A o1 o2 J κ σ mL_setPatience hL_setPatience mX8_setPatience [z_i (zX xs (i + 1))]) (kk : lK Y G b q A o1 o2 i k n J) : z_W Y 1936 (lV b q (A 40) o1 o2 i) [] H k n := by
  obtain ⟨hY, hg, hX, hi, hc⟩ := hC
  have hX1 : z_Xs (z_gg Y) b L xs := by rw [hg]; exact hX
  have hG : z_OK G := by rw [← hg]; exact z_okG hY
  refine z_aload hY eL_law_1936 1 rfl ?_
  refine z_aload hY eL_law_1937 0 rfl ?_
  refine z_iload hY eL_law_1938 5 rfl ?_
  refine z_const hY eL_law_1940 ?_
  refine z_iadd hY eL_law_1941 ?_
  refine z_sld hY eL_law_1942 hX1 (by omega) ?_
  refine z_aload hY eL_law_1943 3 rfl ?_
  obtain ⟨d1, mc, ms, d2, hd1, hd2, hmc, hms, ht⟩ := hv f g H hS
  refine z_callSH (M' := mL_setPatience) (As := [.ref q, z_i (zX xs (i + 1)), .ref o1]) (rest := []) (d1 := d1) (mc1 := mc) (ms1 := ms) hY eL_law_1944 (by rw [hg]; exact ht) (by omega) (Nat.le_of_ble_eq_true rfl) (by omega) (fun v h1 hv1 => ?_)
  obtain ⟨κ1, f1, c, rfl, hS1, hf1, hc1, hm⟩ := hv1
  unfold lsR at hc1
  unfold lsR at hf1
  refine z_istore (ls' := [(6, z_i c), (0, .ref b), (1, .ref q), (2, .ref (A 40)), (3, .ref o1), (4, .ref o2), (5, z_i i)]) hY eL_law_1947 rfl ?_
  refine z_aload hY eL_law_1949 3 rfl ?_
  refine z_aload hY eL_law_1950 1 rfl ?_
  refine z_iload hY eL_law_1951 6 rfl ?_
  refine z_const hY eL_law_1953 ?_
  refine z_iadd hY eL_law_1954 ?_
  refine z_sld hY eL_law_1955 hX1 (by omega) ?_
  refine z_callV (M' := mX8_setPatience) (As := [z_i (zX xs (i + 1))]) (rest := []) (d1 := d2) (mc1 := 0) (ms1 := 0) (ψ1 := z_no) hY eL_law_1956 (by rw [hg]; exact hm) hS1.za40 (by omega) (Nat.le_of_ble_eq_true rfl) (by omega) (fun _ _ z => False.elim z) (fun v2 h2 hv2 => ?_)
  obtain ⟨r, ρ, rfl, hr, hS2, hρ, hcr, hB2, hJ2⟩ := hv2
  unfold lsR at hr
  refine z_istore (ls' := [(7, z_i r), (6, z_i c), (0, .ref b), (1, .ref q), (2, .ref (A 40)), (3, .ref o1), (4, .ref o2), (5, z_i i)]) hY eL_law_1959 rfl ?_
  refine z_aload hY eL_law_1961 4 rfl ?_
  refine z_callVr (M' := mX8_thrown) (As := []) (rest := []) (r := z_i (ρ 0 0)) hY eL_law_1962 (by rw [hg]; exact hS2.zth hG hB2) hS2.za40 (by decide) (Nat.le_of_ble_eq_true rfl) (by omega) ?_
  refine z_iload hY eL_law_1965 1 rfl ?_
  refine z_icmpeq hY eL_law_1967 (by omega) (fun _ => ?_) (fun hne => absurd hρ hne)
  refine z_iload hY eL_law_1972 1 rfl ?_
  refine z_ifne hY eL_law_1974 (by omega) (fun _ => ?_) (fun h0 => ?_)
  · refine z_goto hY eL_law_1989 ?_
    exact z_sub [2, 3, 4, 5, 6, 7] rfl (z_widen (by omega) (by omega) (kk _ _ _ _ _ hS2 hJ2))
  · refine z_aload hY eL_law_1977 5 rfl ?_
    refine z_const hY eL_law_1978 ?_
    refine z_laload hY eL_law_1979 hS2.zo1 (by omega) ?_
    refine z_iload hY eL_law_1980 0 rfl ?_
    refine z_i2l hY eL_law_1982 hr ?_
    refine z_lcmp hY eL_law_1983 (by omega) ?_
    refine z_ifeq hY eL_law_1984 (by have := z_cmp_s (f1 0) r; omega) (fun _ => ?_) (fun hne => absurd ((z_cmp_s (f1 0) r).2.2.1.mpr (hcr h0)) hne)
    refine z_goto hY eL_law_1989 ?_
    exact z_sub [2, 3, 4, 5, 6, 7] rfl (z_widen (by omega) (by omega) (kk _ _ _ _ _ hS2 hJ2))
theorem w_c32 (hC : lC Y G b L xs i k n) (hS : lS G q A o1 o2 κ σ f g H) (hv : vW G q A o1 o2 J κ σ mL_ladderAt hL_ladderAt mX8_ladderAt [z_i (zX xs (i + 1))]) (kk : lK Y G b q A o1 o2 i k n J) : z_W Y 1992 (lV b q (A 40) o1 o2 i) [] H k n := by
  obtain ⟨hY, hg, hX, hi, hc⟩ := hC
  have hX1 : z_Xs (z_gg Y) b L xs := by rw [hg]; exact hX
  have hG : z_OK G := by rw [← hg]; exact z_okG hY
  refine z_aload hY eL_law_1992 1 rfl ?_
  refine z_aload hY eL_law_1993 0 rfl ?_
  refine z_iload hY eL_law_1994 5 rfl ?_
  refine z_const hY eL_law_1996 ?_
  refine z_iadd hY eL_law_1997 ?_
  refine z_sld hY eL_law_1998 hX1 (by omega) ?_
  refine z_aload hY eL_law_1999 3 rfl ?_
  obtain ⟨d1, mc, ms, d2, hd1, hd2, hmc, hms, ht⟩ := hv f g H hS
  refine z_callSH (M' := mL_ladderAt) (As := [.ref q, z_i (zX xs (i + 1)), .ref o1]) (rest := []) (d1 := d1) (mc1 := mc) (ms1 := ms) hY eL_law_2000 (by rw [hg]; exact ht) (by omega) (Nat.le_of_ble_eq_true rfl) (by omega) (fun v h1 hv1 => ?_)
  obtain ⟨κ1, f1, c, rfl, hS1, hf1, hc1, hm⟩ := hv1
  unfold lsR at hc1
  unfold lsR at hf1
  refine z_istore (ls' := [(6, z_i c), (0, .ref b), (1, .ref q), (2, .ref (A 40)), (3, .ref o1), (4, .ref o2), (5, z_i i)]) hY eL_law_2003 rfl ?_
  refine z_aload hY eL_law_2005 3 rfl ?_
  refine z_aload hY eL_law_2006 1 rfl ?_
  refine z_iload hY eL_law_2007 6 rfl ?_
  refine z_const hY eL_law_2009 ?_
  refine z_iadd hY eL_law_2010 ?_
  refine z_sld hY eL_law_2011 hX1 (by omega) ?_
  refine z_callV (M' := mX8_ladderAt) (As := [z_i (zX xs (i + 1))]) (rest := []) (d1 := d2) (mc1 := 0) (ms1 := 0) (ψ1 := z_no) hY eL_law_2012 (by rw [hg]; exact hm) hS1.za40 (by omega) (Nat.le_of_ble_eq_true rfl) (by omega) (fun _ _ z => False.elim z) (fun v2 h2 hv2 => ?_)
  obtain ⟨r, ρ, rfl, hr, hS2, hρ, hcr, hB2, hJ2⟩ := hv2
  unfold lsR at hr
  refine z_istore (ls' := [(7, z_i r), (6, z_i c), (0, .ref b), (1, .ref q), (2, .ref (A 40)), (3, .ref o1), (4, .ref o2), (5, z_i i)]) hY eL_law_2015 rfl ?_
  refine z_aload hY eL_law_2017 4 rfl ?_
  refine z_callVr (M' := mX8_thrown) (As := []) (rest := []) (r := z_i (ρ 0 0)) hY eL_law_2018 (by rw [hg]; exact hS2.zth hG hB2) hS2.za40 (by decide) (Nat.le_of_ble_eq_true rfl) (by omega) ?_
  refine z_iload hY eL_law_2021 1 rfl ?_
  refine z_icmpeq hY eL_law_2023 (by omega) (fun _ => ?_) (fun hne => absurd hρ hne)
  refine z_iload hY eL_law_2028 1 rfl ?_
  refine z_ifne hY eL_law_2030 (by omega) (fun _ => ?_) (fun h0 => ?_)
  · refine z_goto hY eL_law_2045 ?_
    exact z_sub [2, 3, 4, 5, 6, 7] rfl (z_widen (by omega) (by omega) (kk _ _ _ _ _ hS2 hJ2))
  · refine z_aload hY eL_law_2033 5 rfl ?_
    refine z_const hY eL_law_2034 ?_
    refine z_laload hY eL_law_2035 hS2.zo1 (by omega) ?_
    refine z_iload hY eL_law_2036 0 rfl ?_
    refine z_i2l hY eL_law_2038 hr ?_
    refine z_lcmp hY eL_law_2039 (by omega) ?_
    refine z_ifeq hY eL_law_2040 (by have := z_cmp_s (f1 0) r; omega) (fun _ => ?_) (fun hne => absurd ((z_cmp_s (f1 0) r).2.2.1.mpr (hcr h0)) hne)
    refine z_goto hY eL_law_2045 ?_
    exact z_sub [2, 3, 4, 5, 6, 7] rfl (z_widen (by omega) (by omega) (kk _ _ _ _ _ hS2 hJ2))
theorem w_c33 (hC : lC Y G b L xs i k n) (hS : lS G q A o1 o2 κ σ f g H) (hv : vW G q A o1 o2 J κ σ mL_ladderPlace hL_ladderPlace mX8_ladderPlace [z_i (zX xs (i + 1))]) (kk : lK Y G b q A o1 o2 i k n J) : z_W Y 2048 (lV b q (A 40) o1 o2 i) [] H k n := by
  obtain ⟨hY, hg, hX, hi, hc⟩ := hC
  have hX1 : z_Xs (z_gg Y) b L xs := by rw [hg]; exact hX
  have hG : z_OK G := by rw [← hg]; exact z_okG hY
  refine z_aload hY eL_law_2048 1 rfl ?_
  refine z_aload hY eL_law_2049 0 rfl ?_
  refine z_iload hY eL_law_2050 5 rfl ?_
  refine z_const hY eL_law_2052 ?_
  refine z_iadd hY eL_law_2053 ?_
  refine z_sld hY eL_law_2054 hX1 (by omega) ?_
  refine z_aload hY eL_law_2055 3 rfl ?_
  obtain ⟨d1, mc, ms, d2, hd1, hd2, hmc, hms, ht⟩ := hv f g H hS
  refine z_callSH (M' := mL_ladderPlace) (As := [.ref q, z_i (zX xs (i + 1)), .ref o1]) (rest := []) (d1 := d1) (mc1 := mc) (ms1 := ms) hY eL_law_2056 (by rw [hg]; exact ht) (by omega) (Nat.le_of_ble_eq_true rfl) (by omega) (fun v h1 hv1 => ?_)
  obtain ⟨κ1, f1, c, rfl, hS1, hf1, hc1, hm⟩ := hv1
  unfold lsR at hc1
  unfold lsR at hf1
  refine z_istore (ls' := [(6, z_i c), (0, .ref b), (1, .ref q), (2, .ref (A 40)), (3, .ref o1), (4, .ref o2), (5, z_i i)]) hY eL_law_2059 rfl ?_
  refine z_aload hY eL_law_2061 3 rfl ?_
  refine z_aload hY eL_law_2062 1 rfl ?_
  refine z_iload hY eL_law_2063 6 rfl ?_
  refine z_const hY eL_law_2065 ?_
  refine z_iadd hY eL_law_2066 ?_
  refine z_sld hY eL_law_2067 hX1 (by omega) ?_
  refine z_callV (M' := mX8_ladderPlace) (As := [z_i (zX xs (i + 1))]) (rest := []) (d1 := d2) (mc1 := 0) (ms1 := 0) (ψ1 := z_no) hY eL_law_2068 (by rw [hg]; exact hm) hS1.za40 (by omega) (Nat.le_of_ble_eq_true rfl) (by omega) (fun _ _ z => False.elim z) (fun v2 h2 hv2 => ?_)
  obtain ⟨r, ρ, rfl, hr, hS2, hρ, hcr, hB2, hJ2⟩ := hv2
  unfold lsR at hr
  refine z_istore (ls' := [(7, z_i r), (6, z_i c), (0, .ref b), (1, .ref q), (2, .ref (A 40)), (3, .ref o1), (4, .ref o2), (5, z_i i)]) hY eL_law_2071 rfl ?_
  refine z_aload hY eL_law_2073 4 rfl ?_
  refine z_callVr (M' := mX8_thrown) (As := []) (rest := []) (r := z_i (ρ 0 0)) hY eL_law_2074 (by rw [hg]; exact hS2.zth hG hB2) hS2.za40 (by decide) (Nat.le_of_ble_eq_true rfl) (by omega) ?_
  refine z_iload hY eL_law_2077 1 rfl ?_
  refine z_icmpeq hY eL_law_2079 (by omega) (fun _ => ?_) (fun hne => absurd hρ hne)
  refine z_iload hY eL_law_2084 1 rfl ?_
  refine z_ifne hY eL_law_2086 (by omega) (fun _ => ?_) (fun h0 => ?_)
  · refine z_goto hY eL_law_2101 ?_
    exact z_sub [2, 3, 4, 5, 6, 7] rfl (z_widen (by omega) (by omega) (kk _ _ _ _ _ hS2 hJ2))
  · refine z_aload hY eL_law_2089 5 rfl ?_
    refine z_const hY eL_law_2090 ?_
    refine z_laload hY eL_law_2091 hS2.zo1 (by omega) ?_
    refine z_iload hY eL_law_2092 0 rfl ?_
    refine z_i2l hY eL_law_2094 hr ?_
    refine z_lcmp hY eL_law_2095 (by omega) ?_
    refine z_ifeq hY eL_law_2096 (by have := z_cmp_s (f1 0) r; omega) (fun _ => ?_) (fun hne => absurd ((z_cmp_s (f1 0) r).2.2.1.mpr (hcr h0)) hne)
    refine z_goto hY eL_law_2101 ?_
    exact z_sub [2, 3, 4, 5, 6, 7] rfl (z_widen (by omega) (by omega) (kk _ _ _ _ _ hS2 hJ2))
theorem w_c34 (hC : lC Y G b L xs i k n) (hS : lS G q A o1 o2 κ σ f g H) (hv : vW G q A o1 o2 J κ σ mL_endRound hL_endRound mX8_endRound []) (kk : lK Y G b q A o1 o2 i k n J) : z_W Y 2104 (lV b q (A 40) o1 o2 i) [] H k n := by
  obtain ⟨hY, hg, hX, hi, hc⟩ := hC
  have hX1 : z_Xs (z_gg Y) b L xs := by rw [hg]; exact hX
  have hG : z_OK G := by rw [← hg]; exact z_okG hY
  refine z_aload hY eL_law_2104 1 rfl ?_
  refine z_aload hY eL_law_2105 3 rfl ?_
  obtain ⟨d1, mc, ms, d2, hd1, hd2, hmc, hms, ht⟩ := hv f g H hS
  refine z_callSH (M' := mL_endRound) (As := [.ref q, .ref o1]) (rest := []) (d1 := d1) (mc1 := mc) (ms1 := ms) hY eL_law_2106 (by rw [hg]; exact ht) (by omega) (Nat.le_of_ble_eq_true rfl) (by omega) (fun v h1 hv1 => ?_)
  obtain ⟨κ1, f1, c, rfl, hS1, hf1, hc1, hm⟩ := hv1
  unfold lsR at hc1
  unfold lsR at hf1
  refine z_istore (ls' := [(6, z_i c), (0, .ref b), (1, .ref q), (2, .ref (A 40)), (3, .ref o1), (4, .ref o2), (5, z_i i)]) hY eL_law_2109 rfl ?_
  refine z_aload hY eL_law_2111 3 rfl ?_
  refine z_callV (M' := mX8_endRound) (As := []) (rest := []) (d1 := d2) (mc1 := 0) (ms1 := 0) (ψ1 := z_no) hY eL_law_2112 (by rw [hg]; exact hm) hS1.za40 (by omega) (Nat.le_of_ble_eq_true rfl) (by omega) (fun _ _ z => False.elim z) (fun v2 h2 hv2 => ?_)
  obtain ⟨r, ρ, rfl, hr, hS2, hρ, hcr, hB2, hJ2⟩ := hv2
  unfold lsR at hr
  refine z_istore (ls' := [(7, z_i r), (6, z_i c), (0, .ref b), (1, .ref q), (2, .ref (A 40)), (3, .ref o1), (4, .ref o2), (5, z_i i)]) hY eL_law_2115 rfl ?_
  refine z_aload hY eL_law_2117 4 rfl ?_
  refine z_callVr (M' := mX8_thrown) (As := []) (rest := []) (r := z_i (ρ 0 0)) hY eL_law_2118 (by rw [hg]; exact hS2.zth hG hB2) hS2.za40 (by decide) (Nat.le_of_ble_eq_true rfl) (by omega) ?_
  refine z_iload hY eL_law_2121 1 rfl ?_
  refine z_icmpeq hY eL_law_2123 (by omega) (fun _ => ?_) (fun hne => absurd hρ hne)
  refine z_iload hY eL_law_2128 1 rfl ?_
  refine z_ifne hY eL_law_2130 (by omega) (fun _ => ?_) (fun h0 => ?_)
  · refine z_goto hY eL_law_2145 ?_
    exact z_sub [2, 3, 4, 5, 6, 7] rfl (z_widen (by omega) (by omega) (kk _ _ _ _ _ hS2 hJ2))
  · refine z_aload hY eL_law_2133 5 rfl ?_
    refine z_const hY eL_law_2134 ?_
    refine z_laload hY eL_law_2135 hS2.zo1 (by omega) ?_
    refine z_iload hY eL_law_2136 0 rfl ?_
    refine z_i2l hY eL_law_2138 hr ?_
    refine z_lcmp hY eL_law_2139 (by omega) ?_
    refine z_ifeq hY eL_law_2140 (by have := z_cmp_s (f1 0) r; omega) (fun _ => ?_) (fun hne => absurd ((z_cmp_s (f1 0) r).2.2.1.mpr (hcr h0)) hne)
    refine z_goto hY eL_law_2145 ?_
    exact z_sub [2, 3, 4, 5, 6, 7] rfl (z_widen (by omega) (by omega) (kk _ _ _ _ _ hS2 hJ2))
theorem w_c35 (hC : lC Y G b L xs i k n) (hS : lS G q A o1 o2 κ σ f g H) (hv : vD G q A o1 o2 J κ σ mX7_round mX8_round []) (kk : lK Y G b q A o1 o2 i k n J) : z_W Y 2148 (lV b q (A 40) o1 o2 i) [] H k n := by
  obtain ⟨hY, hg, hX, hi, hc⟩ := hC
  have hX1 : z_Xs (z_gg Y) b L xs := by rw [hg]; exact hX
  have hG : z_OK G := by rw [← hg]; exact z_okG hY
  refine z_aload hY eL_law_2148 1 rfl ?_
  obtain ⟨d1, mc, ms, d2, hd1, hd2, hmc, hms, ht⟩ := hv f g H hS
  obtain ⟨fs, hfs⟩ := hS.zq1
  refine z_callV (M' := mX7_round) (As := []) (rest := []) (d1 := d1) (mc1 := mc) (ms1 := ms) (ψ1 := z_no) hY eL_law_2149 (by rw [hg]; exact ht) hfs (by omega) (Nat.le_of_ble_eq_true rfl) (by omega) (fun _ _ z => False.elim z) (fun v1 h1 hv1 => ?_)
  obtain ⟨κ1, r, rfl, hr, hS1, hm⟩ := hv1
  unfold lsR at hr
  refine z_aload hY eL_law_2152 2 rfl ?_
  refine z_callV (M' := mX8_round) (As := []) (rest := [z_i r]) (d1 := d2) (mc1 := 0) (ms1 := 0) (ψ1 := z_no) hY eL_law_2153 (by rw [hg]; exact hm) hS1.za40 (by omega) (Nat.le_of_ble_eq_true rfl) (by omega) (fun _ _ z => False.elim z) (fun v2 h2 hv2 => ?_)
  obtain ⟨ρ, rfl, hS2, hJ2⟩ := hv2
  refine z_icmpeq hY eL_law_2156 (by omega) (fun _ => ?_) (fun hne => absurd rfl hne)
  exact z_sub [0, 1, 2, 3, 4, 5] rfl (z_widen (by omega) (by omega) (kk _ _ _ _ _ hS2 hJ2))
theorem w_c36 (hC : lC Y G b L xs i k n) (hS : lS G q A o1 o2 κ σ f g H) (hv : vW G q A o1 o2 J κ σ mL_gain hL_gain mX8_gain [z_i (zX xs (i + 1))]) (kk : lK Y G b q A o1 o2 i k n J) : z_W Y 2161 (lV b q (A 40) o1 o2 i) [] H k n := by
  obtain ⟨hY, hg, hX, hi, hc⟩ := hC
  have hX1 : z_Xs (z_gg Y) b L xs := by rw [hg]; exact hX
  have hG : z_OK G := by rw [← hg]; exact z_okG hY
  refine z_aload hY eL_law_2161 1 rfl ?_
  refine z_aload hY eL_law_2162 0 rfl ?_
  refine z_iload hY eL_law_2163 5 rfl ?_
  refine z_const hY eL_law_2165 ?_
  refine z_iadd hY eL_law_2166 ?_
  refine z_sld hY eL_law_2167 hX1 (by omega) ?_
  refine z_aload hY eL_law_2168 3 rfl ?_
  obtain ⟨d1, mc, ms, d2, hd1, hd2, hmc, hms, ht⟩ := hv f g H hS
  refine z_callSH (M' := mL_gain) (As := [.ref q, z_i (zX xs (i + 1)), .ref o1]) (rest := []) (d1 := d1) (mc1 := mc) (ms1 := ms) hY eL_law_2169 (by rw [hg]; exact ht) (by omega) (Nat.le_of_ble_eq_true rfl) (by omega) (fun v h1 hv1 => ?_)
  obtain ⟨κ1, f1, c, rfl, hS1, hf1, hc1, hm⟩ := hv1
  unfold lsR at hc1
  unfold lsR at hf1
  refine z_istore (ls' := [(6, z_i c), (0, .ref b), (1, .ref q), (2, .ref (A 40)), (3, .ref o1), (4, .ref o2), (5, z_i i)]) hY eL_law_2172 rfl ?_
  refine z_aload hY eL_law_2174 3 rfl ?_
  refine z_aload hY eL_law_2175 1 rfl ?_
  refine z_iload hY eL_law_2176 6 rfl ?_
  refine z_const hY eL_law_2178 ?_
  refine z_iadd hY eL_law_2179 ?_
  refine z_sld hY eL_law_2180 hX1 (by omega) ?_
  refine z_callV (M' := mX8_gain) (As := [z_i (zX xs (i + 1))]) (rest := []) (d1 := d2) (mc1 := 0) (ms1 := 0) (ψ1 := z_no) hY eL_law_2181 (by rw [hg]; exact hm) hS1.za40 (by omega) (Nat.le_of_ble_eq_true rfl) (by omega) (fun _ _ z => False.elim z) (fun v2 h2 hv2 => ?_)
  obtain ⟨r, ρ, rfl, hr, hS2, hρ, hcr, hB2, hJ2⟩ := hv2
  unfold lsR at hr
  refine z_istore (ls' := [(7, z_i r), (6, z_i c), (0, .ref b), (1, .ref q), (2, .ref (A 40)), (3, .ref o1), (4, .ref o2), (5, z_i i)]) hY eL_law_2184 rfl ?_
  refine z_aload hY eL_law_2186 4 rfl ?_
  refine z_callVr (M' := mX8_thrown) (As := []) (rest := []) (r := z_i (ρ 0 0)) hY eL_law_2187 (by rw [hg]; exact hS2.zth hG hB2) hS2.za40 (by decide) (Nat.le_of_ble_eq_true rfl) (by omega) ?_
  refine z_iload hY eL_law_2190 1 rfl ?_
  refine z_icmpeq hY eL_law_2192 (by omega) (fun _ => ?_) (fun hne => absurd hρ hne)
  refine z_iload hY eL_law_2197 1 rfl ?_
  refine z_ifne hY eL_law_2199 (by omega) (fun _ => ?_) (fun h0 => ?_)
  · refine z_goto hY eL_law_2214 ?_
    exact z_sub [2, 3, 4, 5, 6, 7] rfl (z_widen (by omega) (by omega) (kk _ _ _ _ _ hS2 hJ2))
  · refine z_aload hY eL_law_2202 5 rfl ?_
    refine z_const hY eL_law_2203 ?_
    refine z_laload hY eL_law_2204 hS2.zo1 (by omega) ?_
    refine z_iload hY eL_law_2205 0 rfl ?_
    refine z_i2l hY eL_law_2207 hr ?_
    refine z_lcmp hY eL_law_2208 (by omega) ?_
    refine z_ifeq hY eL_law_2209 (by have := z_cmp_s (f1 0) r; omega) (fun _ => ?_) (fun hne => absurd ((z_cmp_s (f1 0) r).2.2.1.mpr (hcr h0)) hne)
    refine z_goto hY eL_law_2214 ?_
    exact z_sub [2, 3, 4, 5, 6, 7] rfl (z_widen (by omega) (by omega) (kk _ _ _ _ _ hS2 hJ2))
theorem w_c37 (hC : lC Y G b L xs i k n) (hS : lS G q A o1 o2 κ σ f g H) (hv : vW G q A o1 o2 J κ σ mL_form hL_form mX8_form [z_i (zX xs (i + 1)), z_i (zX xs (i + 2)), z_i (zX xs (i + 3))]) (kk : lK Y G b q A o1 o2 i k n J) : z_W Y 2217 (lV b q (A 40) o1 o2 i) [] H k n := by
  obtain ⟨hY, hg, hX, hi, hc⟩ := hC
  have hX1 : z_Xs (z_gg Y) b L xs := by rw [hg]; exact hX
  have hG : z_OK G := by rw [← hg]; exact z_okG hY
  refine z_aload hY eL_law_2217 1 rfl ?_
  refine z_aload hY eL_law_2218 0 rfl ?_
  refine z_iload hY eL_law_2219 5 rfl ?_
  refine z_const hY eL_law_2221 ?_
  refine z_iadd hY eL_law_2222 ?_
  refine z_sld hY eL_law_2223 hX1 (by omega) ?_
  refine z_aload hY eL_law_2224 0 rfl ?_
  refine z_iload hY eL_law_2225 5 rfl ?_
  refine z_const hY eL_law_2227 ?_
  refine z_iadd hY eL_law_2228 ?_
  refine z_sld hY eL_law_2229 hX1 (by omega) ?_
  refine z_aload hY eL_law_2230 0 rfl ?_
  refine z_iload hY eL_law_2231 5 rfl ?_
  refine z_const hY eL_law_2233 ?_
  refine z_iadd hY eL_law_2234 ?_
  refine z_sld hY eL_law_2235 hX1 (by omega) ?_
  refine z_aload hY eL_law_2236 3 rfl ?_
  obtain ⟨d1, mc, ms, d2, hd1, hd2, hmc, hms, ht⟩ := hv f g H hS
  refine z_callSH (M' := mL_form) (As := [.ref q, z_i (zX xs (i + 1)), z_i (zX xs (i + 2)), z_i (zX xs (i + 3)), .ref o1]) (rest := []) (d1 := d1) (mc1 := mc) (ms1 := ms) hY eL_law_2237 (by rw [hg]; exact ht) (by omega) (Nat.le_of_ble_eq_true rfl) (by omega) (fun v h1 hv1 => ?_)
  obtain ⟨κ1, f1, c, rfl, hS1, hf1, hc1, hm⟩ := hv1
  unfold lsR at hc1
  unfold lsR at hf1
  refine z_istore (ls' := [(6, z_i c), (0, .ref b), (1, .ref q), (2, .ref (A 40)), (3, .ref o1), (4, .ref o2), (5, z_i i)]) hY eL_law_2240 rfl ?_
  refine z_aload hY eL_law_2242 3 rfl ?_
  refine z_aload hY eL_law_2243 1 rfl ?_
  refine z_iload hY eL_law_2244 6 rfl ?_
  refine z_const hY eL_law_2246 ?_
  refine z_iadd hY eL_law_2247 ?_
  refine z_sld hY eL_law_2248 hX1 (by omega) ?_
  refine z_aload hY eL_law_2249 1 rfl ?_
  refine z_iload hY eL_law_2250 6 rfl ?_
  refine z_const hY eL_law_2252 ?_
  refine z_iadd hY eL_law_2253 ?_
  refine z_sld hY eL_law_2254 hX1 (by omega) ?_
  refine z_aload hY eL_law_2255 1 rfl ?_
  refine z_iload hY eL_law_2256 6 rfl ?_
  refine z_const hY eL_law_2258 ?_
  refine z_iadd hY eL_law_2259 ?_
  refine z_sld hY eL_law_2260 hX1 (by omega) ?_
  refine z_callV (M' := mX8_form) (As := [z_i (zX xs (i + 1)), z_i (zX xs (i + 2)), z_i (zX xs (i + 3))]) (rest := []) (d1 := d2) (mc1 := 0) (ms1 := 0) (ψ1 := z_no) hY eL_law_2261 (by rw [hg]; exact hm) hS1.za40 (by omega) (Nat.le_of_ble_eq_true rfl) (by omega) (fun _ _ z => False.elim z) (fun v2 h2 hv2 => ?_)
  obtain ⟨r, ρ, rfl, hr, hS2, hρ, hcr, hB2, hJ2⟩ := hv2
  unfold lsR at hr
  refine z_istore (ls' := [(7, z_i r), (6, z_i c), (0, .ref b), (1, .ref q), (2, .ref (A 40)), (3, .ref o1), (4, .ref o2), (5, z_i i)]) hY eL_law_2264 rfl ?_
  refine z_aload hY eL_law_2266 4 rfl ?_
  refine z_callVr (M' := mX8_thrown) (As := []) (rest := []) (r := z_i (ρ 0 0)) hY eL_law_2267 (by rw [hg]; exact hS2.zth hG hB2) hS2.za40 (by decide) (Nat.le_of_ble_eq_true rfl) (by omega) ?_
  refine z_iload hY eL_law_2270 1 rfl ?_
  refine z_icmpeq hY eL_law_2272 (by omega) (fun _ => ?_) (fun hne => absurd hρ hne)
  refine z_iload hY eL_law_2277 1 rfl ?_
  refine z_ifne hY eL_law_2279 (by omega) (fun _ => ?_) (fun h0 => ?_)
  · refine z_goto hY eL_law_2294 ?_
    exact z_sub [2, 3, 4, 5, 6, 7] rfl (z_widen (by omega) (by omega) (kk _ _ _ _ _ hS2 hJ2))
  · refine z_aload hY eL_law_2282 5 rfl ?_
    refine z_const hY eL_law_2283 ?_
    refine z_laload hY eL_law_2284 hS2.zo1 (by omega) ?_
    refine z_iload hY eL_law_2285 0 rfl ?_
    refine z_i2l hY eL_law_2287 hr ?_
    refine z_lcmp hY eL_law_2288 (by omega) ?_
    refine z_ifeq hY eL_law_2289 (by have := z_cmp_s (f1 0) r; omega) (fun _ => ?_) (fun hne => absurd ((z_cmp_s (f1 0) r).2.2.1.mpr (hcr h0)) hne)
    refine z_goto hY eL_law_2294 ?_
    exact z_sub [2, 3, 4, 5, 6, 7] rfl (z_widen (by omega) (by omega) (kk _ _ _ _ _ hS2 hJ2))
theorem w_c38 (hC : lC Y G b L xs i k n) (hS : lS G q A o1 o2 κ σ f g H) (hv : vW G q A o1 o2 J κ σ mL_inForm hL_inForm mX8_inForm [z_i (zX xs (i + 1)), z_i (zX xs (i + 2))]) (kk : lK Y G b q A o1 o2 i k n J) : z_W Y 2297 (lV b q (A 40) o1 o2 i) [] H k n := by
  obtain ⟨hY, hg, hX, hi, hc⟩ := hC
  have hX1 : z_Xs (z_gg Y) b L xs := by rw [hg]; exact hX
  have hG : z_OK G := by rw [← hg]; exact z_okG hY
  refine z_aload hY eL_law_2297 1 rfl ?_
  refine z_aload hY eL_law_2298 0 rfl ?_
  refine z_iload hY eL_law_2299 5 rfl ?_
  refine z_const hY eL_law_2301 ?_
  refine z_iadd hY eL_law_2302 ?_
  refine z_sld hY eL_law_2303 hX1 (by omega) ?_
  refine z_aload hY eL_law_2304 0 rfl ?_
  refine z_iload hY eL_law_2305 5 rfl ?_
  refine z_const hY eL_law_2307 ?_
  refine z_iadd hY eL_law_2308 ?_
  refine z_sld hY eL_law_2309 hX1 (by omega) ?_
  refine z_aload hY eL_law_2310 3 rfl ?_
  obtain ⟨d1, mc, ms, d2, hd1, hd2, hmc, hms, ht⟩ := hv f g H hS
  refine z_callSH (M' := mL_inForm) (As := [.ref q, z_i (zX xs (i + 1)), z_i (zX xs (i + 2)), .ref o1]) (rest := []) (d1 := d1) (mc1 := mc) (ms1 := ms) hY eL_law_2311 (by rw [hg]; exact ht) (by omega) (Nat.le_of_ble_eq_true rfl) (by omega) (fun v h1 hv1 => ?_)
  obtain ⟨κ1, f1, c, rfl, hS1, hf1, hc1, hm⟩ := hv1
  unfold lsR at hc1
  unfold lsR at hf1
  refine z_istore (ls' := [(6, z_i c), (0, .ref b), (1, .ref q), (2, .ref (A 40)), (3, .ref o1), (4, .ref o2), (5, z_i i)]) hY eL_law_2314 rfl ?_
  refine z_aload hY eL_law_2316 3 rfl ?_
  refine z_aload hY eL_law_2317 1 rfl ?_
  refine z_iload hY eL_law_2318 6 rfl ?_
  refine z_const hY eL_law_2320 ?_
  refine z_iadd hY eL_law_2321 ?_
  refine z_sld hY eL_law_2322 hX1 (by omega) ?_
  refine z_aload hY eL_law_2323 1 rfl ?_
  refine z_iload hY eL_law_2324 6 rfl ?_
  refine z_const hY eL_law_2326 ?_
  refine z_iadd hY eL_law_2327 ?_
  refine z_sld hY eL_law_2328 hX1 (by omega) ?_
  refine z_callV (M' := mX8_inForm) (As := [z_i (zX xs (i + 1)), z_i (zX xs (i + 2))]) (rest := []) (d1 := d2) (mc1 := 0) (ms1 := 0) (ψ1 := z_no) hY eL_law_2329 (by rw [hg]; exact hm) hS1.za40 (by omega) (Nat.le_of_ble_eq_true rfl) (by omega) (fun _ _ z => False.elim z) (fun v2 h2 hv2 => ?_)
  obtain ⟨r, ρ, rfl, hr, hS2, hρ, hcr, hB2, hJ2⟩ := hv2
  unfold lsR at hr
  refine z_istore (ls' := [(7, z_i r), (6, z_i c), (0, .ref b), (1, .ref q), (2, .ref (A 40)), (3, .ref o1), (4, .ref o2), (5, z_i i)]) hY eL_law_2332 rfl ?_
  refine z_aload hY eL_law_2334 4 rfl ?_
  refine z_callVr (M' := mX8_thrown) (As := []) (rest := []) (r := z_i (ρ 0 0)) hY eL_law_2335 (by rw [hg]; exact hS2.zth hG hB2) hS2.za40 (by decide) (Nat.le_of_ble_eq_true rfl) (by omega) ?_
  refine z_iload hY eL_law_2338 1 rfl ?_
  refine z_icmpeq hY eL_law_2340 (by omega) (fun _ => ?_) (fun hne => absurd hρ hne)
  refine z_iload hY eL_law_2345 1 rfl ?_
  refine z_ifne hY eL_law_2347 (by omega) (fun _ => ?_) (fun h0 => ?_)
  · refine z_goto hY eL_law_2362 ?_
    exact z_sub [2, 3, 4, 5, 6, 7] rfl (z_widen (by omega) (by omega) (kk _ _ _ _ _ hS2 hJ2))
  · refine z_aload hY eL_law_2350 5 rfl ?_
    refine z_const hY eL_law_2351 ?_
    refine z_laload hY eL_law_2352 hS2.zo1 (by omega) ?_
    refine z_iload hY eL_law_2353 0 rfl ?_
    refine z_i2l hY eL_law_2355 hr ?_
    refine z_lcmp hY eL_law_2356 (by omega) ?_
    refine z_ifeq hY eL_law_2357 (by have := z_cmp_s (f1 0) r; omega) (fun _ => ?_) (fun hne => absurd ((z_cmp_s (f1 0) r).2.2.1.mpr (hcr h0)) hne)
    refine z_goto hY eL_law_2362 ?_
    exact z_sub [2, 3, 4, 5, 6, 7] rfl (z_widen (by omega) (by omega) (kk _ _ _ _ _ hS2 hJ2))
theorem w_c39 (hC : lC Y G b L xs i k n) (hS : lS G q A o1 o2 κ σ f g H) (hv : vW G q A o1 o2 J κ σ mL_placeThen hL_placeThen mX8_placeThen [z_i (zX xs (i + 1)), z_i (zX xs (i + 2))]) (kk : lK Y G b q A o1 o2 i k n J) : z_W Y 2365 (lV b q (A 40) o1 o2 i) [] H k n := by
  obtain ⟨hY, hg, hX, hi, hc⟩ := hC
  have hX1 : z_Xs (z_gg Y) b L xs := by rw [hg]; exact hX
  have hG : z_OK G := by rw [← hg]; exact z_okG hY
  refine z_aload hY eL_law_2365 1 rfl ?_
  refine z_aload hY eL_law_2366 0 rfl ?_
  refine z_iload hY eL_law_2367 5 rfl ?_
  refine z_const hY eL_law_2369 ?_
  refine z_iadd hY eL_law_2370 ?_
  refine z_sld hY eL_law_2371 hX1 (by omega) ?_
  refine z_aload hY eL_law_2372 0 rfl ?_
  refine z_iload hY eL_law_2373 5 rfl ?_
  refine z_const hY eL_law_2375 ?_
  refine z_iadd hY eL_law_2376 ?_
  refine z_sld hY eL_law_2377 hX1 (by omega) ?_
  refine z_aload hY eL_law_2378 3 rfl ?_
  obtain ⟨d1, mc, ms, d2, hd1, hd2, hmc, hms, ht⟩ := hv f g H hS
  refine z_callSH (M' := mL_placeThen) (As := [.ref q, z_i (zX xs (i + 1)), z_i (zX xs (i + 2)), .ref o1]) (rest := []) (d1 := d1) (mc1 := mc) (ms1 := ms) hY eL_law_2379 (by rw [hg]; exact ht) (by omega) (Nat.le_of_ble_eq_true rfl) (by omega) (fun v h1 hv1 => ?_)
  obtain ⟨κ1, f1, c, rfl, hS1, hf1, hc1, hm⟩ := hv1
  unfold lsR at hc1
  unfold lsR at hf1
  refine z_istore (ls' := [(6, z_i c), (0, .ref b), (1, .ref q), (2, .ref (A 40)), (3, .ref o1), (4, .ref o2), (5, z_i i)]) hY eL_law_2382 rfl ?_
  refine z_aload hY eL_law_2384 3 rfl ?_
  refine z_aload hY eL_law_2385 1 rfl ?_
  refine z_iload hY eL_law_2386 6 rfl ?_
  refine z_const hY eL_law_2388 ?_
  refine z_iadd hY eL_law_2389 ?_
  refine z_sld hY eL_law_2390 hX1 (by omega) ?_
  refine z_aload hY eL_law_2391 1 rfl ?_
  refine z_iload hY eL_law_2392 6 rfl ?_
  refine z_const hY eL_law_2394 ?_
  refine z_iadd hY eL_law_2395 ?_
  refine z_sld hY eL_law_2396 hX1 (by omega) ?_
  refine z_callV (M' := mX8_placeThen) (As := [z_i (zX xs (i + 1)), z_i (zX xs (i + 2))]) (rest := []) (d1 := d2) (mc1 := 0) (ms1 := 0) (ψ1 := z_no) hY eL_law_2397 (by rw [hg]; exact hm) hS1.za40 (by omega) (Nat.le_of_ble_eq_true rfl) (by omega) (fun _ _ z => False.elim z) (fun v2 h2 hv2 => ?_)
  obtain ⟨r, ρ, rfl, hr, hS2, hρ, hcr, hB2, hJ2⟩ := hv2
  unfold lsR at hr
  refine z_istore (ls' := [(7, z_i r), (6, z_i c), (0, .ref b), (1, .ref q), (2, .ref (A 40)), (3, .ref o1), (4, .ref o2), (5, z_i i)]) hY eL_law_2400 rfl ?_
  refine z_aload hY eL_law_2402 4 rfl ?_
  refine z_callVr (M' := mX8_thrown) (As := []) (rest := []) (r := z_i (ρ 0 0)) hY eL_law_2403 (by rw [hg]; exact hS2.zth hG hB2) hS2.za40 (by decide) (Nat.le_of_ble_eq_true rfl) (by omega) ?_
  refine z_iload hY eL_law_2406 1 rfl ?_
  refine z_icmpeq hY eL_law_2408 (by omega) (fun _ => ?_) (fun hne => absurd hρ hne)
  refine z_iload hY eL_law_2413 1 rfl ?_
  refine z_ifne hY eL_law_2415 (by omega) (fun _ => ?_) (fun h0 => ?_)
  · refine z_goto hY eL_law_2430 ?_
    exact z_sub [2, 3, 4, 5, 6, 7] rfl (z_widen (by omega) (by omega) (kk _ _ _ _ _ hS2 hJ2))
  · refine z_aload hY eL_law_2418 5 rfl ?_
    refine z_const hY eL_law_2419 ?_
    refine z_laload hY eL_law_2420 hS2.zo1 (by omega) ?_
    refine z_iload hY eL_law_2421 0 rfl ?_
    refine z_i2l hY eL_law_2423 hr ?_
    refine z_lcmp hY eL_law_2424 (by omega) ?_
    refine z_ifeq hY eL_law_2425 (by have := z_cmp_s (f1 0) r; omega) (fun _ => ?_) (fun hne => absurd ((z_cmp_s (f1 0) r).2.2.1.mpr (hcr h0)) hne)
    refine z_goto hY eL_law_2430 ?_
    exact z_sub [2, 3, 4, 5, 6, 7] rfl (z_widen (by omega) (by omega) (kk _ _ _ _ _ hS2 hJ2))
end LC31
