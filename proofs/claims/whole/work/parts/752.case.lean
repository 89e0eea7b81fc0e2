section LC11
variable {Y : z_Y} {G : z_G} {b q o1 o2 L : Nat} {A : Nat → Nat} {xs : Nat → Int32} {J : c_K → z_S → Prop} {κ : c_K} {σ : z_S} {f : Int → Int} {g : Int → UInt64} {H : z_H} {i : Int} {k n : Nat}
theorem w_c10 (hC : lC Y G b L xs i k n) (hS : lS G q A o1 o2 κ σ f g H) (hv : vW G q A o1 o2 J κ σ mL_groupOf hL_groupOf mX8_groupOf [z_i (zX xs (i + 1))]) (kk : lK Y G b q A o1 o2 i k n J) : z_W Y 842 (lV b q (A 40) o1 o2 i) [] H k n := by
  obtain ⟨hY, hg, hX, hi, hc⟩ := hC
  have hX1 : z_Xs (z_gg Y) b L xs := by rw [hg]; exact hX
  have hG : z_OK G := by rw [← hg]; exact z_okG hY
  refine z_aload hY eL_law_842 1 rfl ?_
  refine z_aload hY eL_law_843 0 rfl ?_
  refine z_iload hY eL_law_844 5 rfl ?_
  refine z_const hY eL_law_846 ?_
  refine z_iadd hY eL_law_847 ?_
  refine z_sld hY eL_law_848 hX1 (by omega) ?_
  refine z_aload hY eL_law_849 3 rfl ?_
  obtain ⟨d1, mc, ms, d2, hd1, hd2, hmc, hms, ht⟩ := hv f g H hS
  refine z_callSH (M' := mL_groupOf) (As := [.ref q, z_i (zX xs (i + 1)), .ref o1]) (rest := []) (d1 := d1) (mc1 := mc) (ms1 := ms) hY eL_law_850 (by rw [hg]; exact ht) (by omega) (Nat.le_of_ble_eq_true rfl) (by omega) (fun v h1 hv1 => ?_)
  obtain ⟨κ1, f1, c, rfl, hS1, hf1, hc1, hm⟩ := hv1
  unfold lsR at hc1
  unfold lsR at hf1
  refine z_istore (ls' := [(6, z_i c), (0, .ref b), (1, .ref q), (2, .ref (A 40)), (3, .ref o1), (4, .ref o2), (5, z_i i)]) hY eL_law_853 rfl ?_
  refine z_aload hY eL_law_855 3 rfl ?_
  refine z_aload hY eL_law_856 1 rfl ?_
  refine z_iload hY eL_law_857 6 rfl ?_
  refine z_const hY eL_law_859 ?_
  refine z_iadd hY eL_law_860 ?_
  refine z_sld hY eL_law_861 hX1 (by omega) ?_
  refine z_callV (M' := mX8_groupOf) (As := [z_i (zX xs (i + 1))]) (rest := []) (d1 := d2) (mc1 := 0) (ms1 := 0) (ψ1 := z_no) hY eL_law_862 (by rw [hg]; exact hm) hS1.za40 (by omega) (Nat.le_of_ble_eq_true rfl) (by omega) (fun _ _ z => False.elim z) (fun v2 h2 hv2 => ?_)
  obtain ⟨r, ρ, rfl, hr, hS2, hρ, hcr, hB2, hJ2⟩ := hv2
  unfold lsR at hr
  refine z_istore (ls' := [(7, z_i r), (6, z_i c), (0, .ref b), (1, .ref q), (2, .ref (A 40)), (3, .ref o1), (4, .ref o2), (5, z_i i)]) hY eL_law_865 rfl ?_
  refine z_aload hY eL_law_867 4 rfl ?_
  refine z_callVr (M' := mX8_thrown) (As := []) (rest := []) (r := z_i (ρ 0 0)) hY eL_law_868 (by rw [hg]; exact hS2.zth hG hB2) hS2.za40 (by decide) (Nat.le_of_ble_eq_true rfl) (by omega) ?_
  refine z_iload hY eL_law_871 1 rfl ?_
  refine z_icmpeq hY eL_law_873 (by omega) (fun _ => ?_) (fun hne => absurd hρ hne)
  refine z_iload hY eL_law_878 1 rfl ?_
  refine z_ifne hY eL_law_880 (by omega) (fun _ => ?_) (fun h0 => ?_)
  · refine z_goto hY eL_law_895 ?_
    exact z_sub [2, 3, 4, 5, 6, 7] rfl (z_widen (by omega) (by omega) (kk _ _ _ _ _ hS2 hJ2))
  · refine z_aload hY eL_law_883 5 rfl ?_
    refine z_const hY eL_law_884 ?_
    refine z_laload hY eL_law_885 hS2.zo1 (by omega) ?_
    refine z_iload hY eL_law_886 0 rfl ?_
    refine z_i2l hY eL_law_888 hr ?_
    refine z_lcmp hY eL_law_889 (by omega) ?_
    refine z_ifeq hY eL_law_890 (by have := z_cmp_s (f1 0) r; omega) (fun _ => ?_) (fun hne => absurd ((z_cmp_s (f1 0) r).2.2.1.mpr (hcr h0)) hne)
    refine z_goto hY eL_law_895 ?_
    exact z_sub [2, 3, 4, 5, 6, 7] rfl (z_widen (by omega) (by omega) (kk _ _ _ _ _ hS2 hJ2))
theorem w_c11 (hC : lC Y G b L xs i k n) (hS : lS G q A o1 o2 κ σ f g H) (hv : vD G q A o1 o2 J κ σ mX7_entrants mX8_entrants []) (kk : lK Y G b q A o1 o2 i k n J) : z_W Y 898 (lV b q (A 40) o1 o2 i) [] H k n := by
  obtain ⟨hY, hg, hX, hi, hc⟩ := hC
  have hX1 : z_Xs (z_gg Y) b L xs := by rw [hg]; exact hX
  have hG : z_OK G := by rw [← hg]; exact z_okG hY
  refine z_aload hY eL_law_898 1 rfl ?_
  obtain ⟨d1, mc, ms, d2, hd1, hd2, hmc, hms, ht⟩ := hv f g H hS
  obtain ⟨fs, hfs⟩ := hS.zq1
  refine z_callV (M' := mX7_entrants) (As := []) (rest := []) (d1 := d1) (mc1 := mc) (ms1 := ms) (ψ1 := z_no) hY eL_law_899 (by rw [hg]; exact ht) hfs (by omega) (Nat.le_of_ble_eq_true rfl) (by omega) (fun _ _ z => False.elim z) (fun v1 h1 hv1 => ?_)
  obtain ⟨κ1, r, rfl, hr, hS1, hm⟩ := hv1
  unfold lsR at hr
  refine z_aload hY eL_law_902 2 rfl ?_
  refine z_callV (M' := mX8_entrants) (As := []) (rest := [z_i r]) (d1 := d2) (mc1 := 0) (ms1 := 0) (ψ1 := z_no) hY eL_law_903 (by rw [hg]; exact hm) hS1.za40 (by omega) (Nat.le_of_ble_eq_true rfl) (by omega) (fun _ _ z => False.elim z) (fun v2 h2 hv2 => ?_)
  obtain ⟨ρ, rfl, hS2, hJ2⟩ := hv2
  refine z_icmpeq hY eL_law_906 (by omega) (fun _ => ?_) (fun hne => absurd rfl hne)
  exact z_sub [0, 1, 2, 3, 4, 5] rfl (z_widen (by omega) (by omega) (kk _ _ _ _ _ hS2 hJ2))
theorem w_c12 (hC : lC Y G b L xs i k n) (hS : lS G q A o1 o2 κ σ f g H) (hv : vW G q A o1 o2 J κ σ mL_at hL_at mX8_at [z_i (zX xs (i + 1))]) (kk : lK Y G b q A o1 o2 i k n J) : z_W Y 911 (lV b q (A 40) o1 o2 i) [] H k n := by
  obtain ⟨hY, hg, hX, hi, hc⟩ := hC
  have hX1 : z_Xs (z_gg Y) b L xs := by rw [hg]; exact hX
  have hG : z_OK G := by rw [← hg]; exact z_okG hY
  refine z_aload hY eL_law_911 1 rfl ?_
  refine z_aload hY eL_law_912 0 rfl ?_
  refine z_iload hY eL_law_913 5 rfl ?_
  refine z_const hY eL_law_915 ?_
  refine z_iadd hY eL_law_916 ?_
  refine z_sld hY eL_law_917 hX1 (by omega) ?_
  refine z_aload hY eL_law_918 3 rfl ?_
  obtain ⟨d1, mc, ms, d2, hd1, hd2, hmc, hms, ht⟩ := hv f g H hS
  refine z_callSH (M' := mL_at) (As := [.ref q, z_i (zX xs (i + 1)), .ref o1]) (rest := []) (d1 := d1) (mc1 := mc) (ms1 := ms) hY eL_law_919 (by rw [hg]; exact ht) (by omega) (Nat.le_of_ble_eq_true rfl) (by omega) (fun v h1 hv1 => ?_)
  obtain ⟨κ1, f1, c, rfl, hS1, hf1, hc1, hm⟩ := hv1
  unfold lsR at hc1
  unfold lsR at hf1
  refine z_istore (ls' := [(6, z_i c), (0, .ref b), (1, .ref q), (2, .ref (A 40)), (3, .ref o1), (4, .ref o2), (5, z_i i)]) hY eL_law_922 rfl ?_
  refine z_aload hY eL_law_924 3 rfl ?_
  refine z_aload hY eL_law_925 1 rfl ?_
  refine z_iload hY eL_law_926 6 rfl ?_
  refine z_const hY eL_law_928 ?_
  refine z_iadd hY eL_law_929 ?_
  refine z_sld hY eL_law_930 hX1 (by omega) ?_
  refine z_callV (M' := mX8_at) (As := [z_i (zX xs (i + 1))]) (rest := []) (d1 := d2) (mc1 := 0) (ms1 := 0) (ψ1 := z_no) hY eL_law_931 (by rw [hg]; exact hm) hS1.za40 (by omega) (Nat.le_of_ble_eq_true rfl) (by omega) (fun _ _ z => False.elim z) (fun v2 h2 hv2 => ?_)
  obtain ⟨r, ρ, rfl, hr, hS2, hρ, hcr, hB2, hJ2⟩ := hv2
  unfold lsR at hr
  refine z_istore (ls' := [(7, z_i r), (6, z_i c), (0, .ref b), (1, .ref q), (2, .ref (A 40)), (3, .ref o1), (4, .ref o2), (5, z_i i)]) hY eL_law_934 rfl ?_
  refine z_aload hY eL_law_936 4 rfl ?_
  refine z_callVr (M' := mX8_thrown) (As := []) (rest := []) (r := z_i (ρ 0 0)) hY eL_law_937 (by rw [hg]; exact hS2.zth hG hB2) hS2.za40 (by decide) (Nat.le_of_ble_eq_true rfl) (by omega) ?_
  refine z_iload hY eL_law_940 1 rfl ?_
  refine z_icmpeq hY eL_law_942 (by omega) (fun _ => ?_) (fun hne => absurd hρ hne)
  refine z_iload hY eL_law_947 1 rfl ?_
  refine z_ifne hY eL_law_949 (by omega) (fun _ => ?_) (fun h0 => ?_)
  · refine z_goto hY eL_law_964 ?_
    exact z_sub [2, 3, 4, 5, 6, 7] rfl (z_widen (by omega) (by omega) (kk _ _ _ _ _ hS2 hJ2))
  · refine z_aload hY eL_law_952 5 rfl ?_
    refine z_const hY eL_law_953 ?_
    refine z_laload hY eL_law_954 hS2.zo1 (by omega) ?_
    refine z_iload hY eL_law_955 0 rfl ?_
    refine z_i2l hY eL_law_957 hr ?_
    refine z_lcmp hY eL_law_958 (by omega) ?_
    refine z_ifeq hY eL_law_959 (by have := z_cmp_s (f1 0) r; omega) (fun _ => ?_) (fun hne => absurd ((z_cmp_s (f1 0) r).2.2.1.mpr (hcr h0)) hne)
    refine z_goto hY eL_law_964 ?_
    exact z_sub [2, 3, 4, 5, 6, 7] rfl (z_widen (by omega) (by omega) (kk _ _ _ _ _ hS2 hJ2))
theorem w_c13 (hC : lC Y G b L xs i k n) (hS : lS G q A o1 o2 κ σ f g H) (hv : vW G q A o1 o2 J κ σ mL_place hL_place mX8_place [z_i (zX xs (i + 1))]) (kk : lK Y G b q A o1 o2 i k n J) : z_W Y 967 (lV b q (A 40) o1 o2 i) [] H k n := by
  obtain ⟨hY, hg, hX, hi, hc⟩ := hC
  have hX1 : z_Xs (z_gg Y) b L xs := by rw [hg]; exact hX
  have hG : z_OK G := by rw [← hg]; exact z_okG hY
  refine z_aload hY eL_law_967 1 rfl ?_
  refine z_aload hY eL_law_968 0 rfl ?_
  refine z_iload hY eL_law_969 5 rfl ?_
  refine z_const hY eL_law_971 ?_
  refine z_iadd hY eL_law_972 ?_
  refine z_sld hY eL_law_973 hX1 (by omega) ?_
  refine z_aload hY eL_law_974 3 rfl ?_
  obtain ⟨d1, mc, ms, d2, hd1, hd2, hmc, hms, ht⟩ := hv f g H hS
  refine z_callSH (M' := mL_place) (As := [.ref q, z_i (zX xs (i + 1)), .ref o1]) (rest := []) (d1 := d1) (mc1 := mc) (ms1 := ms) hY eL_law_975 (by rw [hg]; exact ht) (by omega) (Nat.le_of_ble_eq_true rfl) (by omega) (fun v h1 hv1 => ?_)
  obtain ⟨κ1, f1, c, rfl, hS1, hf1, hc1, hm⟩ := hv1
  unfold lsR at hc1
  unfold lsR at hf1
  refine z_istore (ls' := [(6, z_i c), (0, .ref b), (1, .ref q), (2, .ref (A 40)), (3, .ref o1), (4, .ref o2), (5, z_i i)]) hY eL_law_978 rfl ?_
  refine z_aload hY eL_law_980 3 rfl ?_
  refine z_aload hY eL_law_981 1 rfl ?_
  refine z_iload hY eL_law_982 6 rfl ?_
  refine z_const hY eL_law_984 ?_
  refine z_iadd hY eL_law_985 ?_
  refine z_sld hY eL_law_986 hX1 (by omega) ?_
  refine z_callV (M' := mX8_place) (As := [z_i (zX xs (i + 1))]) (rest := []) (d1 := d2) (mc1 := 0) (ms1 := 0) (ψ1 := z_no) hY eL_law_987 (by rw [hg]; exact hm) hS1.za40 (by omega) (Nat.le_of_ble_eq_true rfl) (by omega) (fun _ _ z => False.elim z) (fun v2 h2 hv2 => ?_)
  obtain ⟨r, ρ, rfl, hr, hS2, hρ, hcr, hB2, hJ2⟩ := hv2
  unfold lsR at hr
  refine z_istore (ls' := [(7, z_i r), (6, z_i c), (0, .ref b), (1, .ref q), (2, .ref (A 40)), (3, .ref o1), (4, .ref o2), (5, z_i i)]) hY eL_law_990 rfl ?_
  refine z_aload hY eL_law_992 4 rfl ?_
  refine z_callVr (M' := mX8_thrown) (As := []) (rest := []) (r := z_i (ρ 0 0)) hY eL_law_993 (by rw [hg]; exact hS2.zth hG hB2) hS2.za40 (by decide) (Nat.le_of_ble_eq_true rfl) (by omega) ?_
  refine z_iload hY eL_law_996 1 rfl ?_
  refine z_icmpeq hY eL_law_998 (by omega) (fun _ => ?_) (fun hne => absurd hρ hne)
  refine z_iload hY eL_law_1003 1 rfl ?_
  refine z_ifne hY eL_law_1005 (by omega) (fun _ => ?_) (fun h0 => ?_)
  · refine z_goto hY eL_law_1020 ?_
    exact z_sub [2, 3, 4, 5, 6, 7] rfl (z_widen (by omega) (by omega) (kk _ _ _ _ _ hS2 hJ2))
  · refine z_aload hY eL_law_1008 5 rfl ?_
    refine z_const hY eL_law_1009 ?_
    refine z_laload hY eL_law_1010 hS2.zo1 (by omega) ?_
    refine z_iload hY eL_law_1011 0 rfl ?_
    refine z_i2l hY eL_law_1013 hr ?_
    refine z_lcmp hY eL_law_1014 (by omega) ?_
    refine z_ifeq hY eL_law_1015 (by have := z_cmp_s (f1 0) r; omega) (fun _ => ?_) (fun hne => absurd ((z_cmp_s (f1 0) r).2.2.1.mpr (hcr h0)) hne)
    refine z_goto hY eL_law_1020 ?_
    exact z_sub [2, 3, 4, 5, 6, 7] rfl (z_widen (by omega) (by omega) (kk _ _ _ _ _ hS2 hJ2))
theorem w_c14 (hC : lC Y G b L xs i k n) (hS : lS G q A o1 o2 κ σ f g H) (hv : vW G q A o1 o2 J κ σ mL_rank hL_rank mX8_rank [z_i (zX xs (i + 1)), z_i (zX xs (i + 2))]) (kk : lK Y G b q A o1 o2 i k n J) : z_W Y 1023 (lV b q (A 40) o1 o2 i) [] H k n := by
  obtain ⟨hY, hg, hX, hi, hc⟩ := hC
  have hX1 : z_Xs (z_gg Y) b L xs := by rw [hg]; exact hX
  have hG : z_OK G := by rw [← hg]; exact z_okG hY
  refine z_aload hY eL_law_1023 1 rfl ?_
  refine z_aload hY eL_law_1024 0 rfl ?_
  refine z_iload hY eL_law_1025 5 rfl ?_
  refine z_const hY eL_law_1027 ?_
  refine z_iadd hY eL_law_1028 ?_
  refine z_sld hY eL_law_1029 hX1 (by omega) ?_
  refine z_aload hY eL_law_1030 0 rfl ?_
  refine z_iload hY eL_law_1031 5 rfl ?_
  refine z_const hY eL_law_1033 ?_
  refine z_iadd hY eL_law_1034 ?_
  refine z_sld hY eL_law_1035 hX1 (by omega) ?_
  refine z_aload hY eL_law_1036 3 rfl ?_
  obtain ⟨d1, mc, ms, d2, hd1, hd2, hmc, hms, ht⟩ := hv f g H hS
  refine z_callSH (M' := mL_rank) (As := [.ref q, z_i (zX xs (i + 1)), z_i (zX xs (i + 2)), .ref o1]) (rest := []) (d1 := d1) (mc1 := mc) (ms1 := ms) hY eL_law_1037 (by rw [hg]; exact ht) (by omega) (Nat.le_of_ble_eq_true rfl) (by omega) (fun v h1 hv1 => ?_)
  obtain ⟨κ1, f1, c, rfl, hS1, hf1, hc1, hm⟩ := hv1
  unfold lsR at hc1
  unfold lsR at hf1
  refine z_istore (ls' := [(6, z_i c), (0, .ref b), (1, .ref q), (2, .ref (A 40)), (3, .ref o1), (4, .ref o2), (5, z_i i)]) hY eL_law_1040 rfl ?_
  refine z_aload hY eL_law_1042 3 rfl ?_
  refine z_aload hY eL_law_1043 1 rfl ?_
  refine z_iload hY eL_law_1044 6 rfl ?_
  refine z_const hY eL_law_1046 ?_
  refine z_iadd hY eL_law_1047 ?_
  refine z_sld hY eL_law_1048 hX1 (by omega) ?_
  refine z_aload hY eL_law_1049 1 rfl ?_
  refine z_iload hY eL_law_1050 6 rfl ?_
  refine z_const hY eL_law_1052 ?_
  refine z_iadd hY eL_law_1053 ?_
  refine z_sld hY eL_law_1054 hX1 (by omega) ?_
  refine z_callV (M' := mX8_rank) (As := [z_i (zX xs (i + 1)), z_i (zX xs (i + 2))]) (rest := []) (d1 := d2) (mc1 := 0) (ms1 := 0) (ψ1 := z_no) hY eL_law_1055 (by rw [hg]; exact hm) hS1.za40 (by omega) (Nat.le_of_ble_eq_true rfl) (by omega) (fun _ _ z => False.elim z) (fun v2 h2 hv2 => ?_)
  obtain ⟨r, ρ, rfl, hr, hS2, hρ, hcr, hB2, hJ2⟩ := hv2
  unfold lsR at hr
  refine z_istore (ls' := [(7, z_i r), (6, z_i c), (0, .ref b), (1, .ref q), (2, .ref (A 40)), (3, .ref o1), (4, .ref o2), (5, z_i i)]) hY eL_law_1058 rfl ?_
  refine z_aload hY eL_law_1060 4 rfl ?_
  refine z_callVr (M' := mX8_thrown) (As := []) (rest := []) (r := z_i (ρ 0 0)) hY eL_law_1061 (by rw [hg]; exact hS2.zth hG hB2) hS2.za40 (by decide) (Nat.le_of_ble_eq_true rfl) (by omega) ?_
  refine z_iload hY eL_law_1064 1 rfl ?_
  refine z_icmpeq hY eL_law_1066 (by omega) (fun _ => ?_) (fun hne => absurd hρ hne)
  refine z_iload hY eL_law_1071 1 rfl ?_
  refine z_ifne hY eL_law_1073 (by omega) (fun _ => ?_) (fun h0 => ?_)
  · refine z_goto hY eL_law_1088 ?_
    exact z_sub [2, 3, 4, 5, 6, 7] rfl (z_widen (by omega) (by omega) (kk _ _ _ _ _ hS2 hJ2))
  · refine z_aload hY eL_law_1076 5 rfl ?_
    refine z_const hY eL_law_1077 ?_
    refine z_laload hY eL_law_1078 hS2.zo1 (by omega) ?_
    refine z_iload hY eL_law_1079 0 rfl ?_
    refine z_i2l hY eL_law_1081 hr ?_
    refine z_lcmp hY eL_law_1082 (by omega) ?_
    refine z_ifeq hY eL_law_1083 (by have := z_cmp_s (f1 0) r; omega) (fun _ => ?_) (fun hne => absurd ((z_cmp_s (f1 0) r).2.2.1.mpr (hcr h0)) hne)
    refine z_goto hY eL_law_1088 ?_
    exact z_sub [2, 3, 4, 5, 6, 7] rfl (z_widen (by omega) (by omega) (kk _ _ _ _ _ hS2 hJ2))
theorem w_c15 (hC : lC Y G b L xs i k n) (hS : lS G q A o1 o2 κ σ f g H) (hv : vW G q A o1 o2 J κ σ mL_alike hL_alike mX8_alike [z_i (zX xs (i + 1))]) (kk : lK Y G b q A o1 o2 i k n J) : z_W Y 1091 (lV b q (A 40) o1 o2 i) [] H k n := by
  obtain ⟨hY, hg, hX, hi, hc⟩ := hC
  have hX1 : z_Xs (z_gg Y) b L xs := by rw [hg]; exact hX
  have hG : z_OK G := by rw [← hg]; exact z_okG hY
  refine z_aload hY eL_law_1091 1 rfl ?_
  refine z_aload hY eL_law_1092 0 rfl ?_
  refine z_iload hY eL_law_1093 5 rfl ?_
  refine z_const hY eL_law_1095 ?_
  refine z_iadd hY eL_law_1096 ?_
  refine z_sld hY eL_law_1097 hX1 (by omega) ?_
  refine z_aload hY eL_law_1098 3 rfl ?_
  obtain ⟨d1, mc, ms, d2, hd1, hd2, hmc, hms, ht⟩ := hv f g H hS
  refine z_callSH (M' := mL_alike) (As := [.ref q, z_i (zX xs (i + 1)), .ref o1]) (rest := []) (d1 := d1) (mc1 := mc) (ms1 := ms) hY eL_law_1099 (by rw [hg]; exact ht) (by omega) (Nat.le_of_ble_eq_true rfl) (by omega) (fun v h1 hv1 => ?_)
  obtain ⟨κ1, f1, c, rfl, hS1, hf1, hc1, hm⟩ := hv1
  unfold lsR at hc1
  unfold lsR at hf1
  refine z_istore (ls' := [(6, z_i c), (0, .ref b), (1, .ref q), (2, .ref (A 40)), (3, .ref o1), (4, .ref o2), (5, z_i i)]) hY eL_law_1102 rfl ?_
  refine z_aload hY eL_law_1104 3 rfl ?_
  refine z_aload hY eL_law_1105 1 rfl ?_
  refine z_iload hY eL_law_1106 6 rfl ?_
  refine z_const hY eL_law_1108 ?_
  refine z_iadd hY eL_law_1109 ?_
  refine z_sld hY eL_law_1110 hX1 (by omega) ?_
  refine z_callV (M' := mX8_alike) (As := [z_i (zX xs (i + 1))]) (rest := []) (d1 := d2) (mc1 := 0) (ms1 := 0) (ψ1 := z_no) hY eL_law_1111 (by rw [hg]; exact hm) hS1.za40 (by omega) (Nat.le_of_ble_eq_true rfl) (by omega) (fun _ _ z => False.elim z) (fun v2 h2 hv2 => ?_)
  obtain ⟨r, ρ, rfl, hr, hS2, hρ, hcr, hB2, hJ2⟩ := hv2
  unfold lsR at hr
  refine z_istore (ls' := [(7, z_i r), (6, z_i c), (0, .ref b), (1, .ref q), (2, .ref (A 40)), (3, .ref o1), (4, .ref o2), (5, z_i i)]) hY eL_law_1114 rfl ?_
  refine z_aload hY eL_law_1116 4 rfl ?_
  refine z_callVr (M' := mX8_thrown) (As := []) (rest := []) (r := z_i (ρ 0 0)) hY eL_law_1117 (by rw [hg]; exact hS2.zth hG hB2) hS2.za40 (by decide) (Nat.le_of_ble_eq_true rfl) (by omega) ?_
  refine z_iload hY eL_law_1120 1 rfl ?_
  refine z_icmpeq hY eL_law_1122 (by omega) (fun _ => ?_) (fun hne => absurd hρ hne)
  refine z_iload hY eL_law_1127 1 rfl ?_
  refine z_ifne hY eL_law_1129 (by omega) (fun _ => ?_) (fun h0 => ?_)
  · refine z_goto hY eL_law_1144 ?_
    exact z_sub [2, 3, 4, 5, 6, 7] rfl (z_widen (by omega) (by omega) (kk _ _ _ _ _ hS2 hJ2))
  · refine z_aload hY eL_law_1132 5 rfl ?_
    refine z_const hY eL_law_1133 ?_
    refine z_laload hY eL_law_1134 hS2.zo1 (by omega) ?_
    refine z_iload hY eL_law_1135 0 rfl ?_
    refine z_i2l hY eL_law_1137 hr ?_
    refine z_lcmp hY eL_law_1138 (by omega) ?_
    refine z_ifeq hY eL_law_1139 (by have := z_cmp_s (f1 0) r; omega) (fun _ => ?_) (fun hne => absurd ((z_cmp_s (f1 0) r).2.2.1.mpr (hcr h0)) hne)
    refine z_goto hY eL_law_1144 ?_
    exact z_sub [2, 3, 4, 5, 6, 7] rfl (z_widen (by omega) (by omega) (kk _ _ _ _ _ hS2 hJ2))
theorem w_c16 (hC : lC Y G b L xs i k n) (hS : lS G q A o1 o2 κ σ f g H) (hv : vD G q A o1 o2 J κ σ mX7_results mX8_results []) (kk : lK Y G b q A o1 o2 i k n J) : z_W Y 1147 (lV b q (A 40) o1 o2 i) [] H k n := by
  obtain ⟨hY, hg, hX, hi, hc⟩ := hC
  have hX1 : z_Xs (z_gg Y) b L xs := by rw [hg]; exact hX
  have hG : z_OK G := by rw [← hg]; exact z_okG hY
  refine z_aload hY eL_law_1147 1 rfl ?_
  obtain ⟨d1, mc, ms, d2, hd1, hd2, hmc, hms, ht⟩ := hv f g H hS
  obtain ⟨fs, hfs⟩ := hS.zq1
  refine z_callV (M' := mX7_results) (As := []) (rest := []) (d1 := d1) (mc1 := mc) (ms1 := ms) (ψ1 := z_no) hY eL_law_1148 (by rw [hg]; exact ht) hfs (by omega) (Nat.le_of_ble_eq_true rfl) (by omega) (fun _ _ z => False.elim z) (fun v1 h1 hv1 => ?_)
  obtain ⟨κ1, r, rfl, hr, hS1, hm⟩ := hv1
  unfold lsR at hr
  refine z_aload hY eL_law_1151 2 rfl ?_
  refine z_callV (M' := mX8_results) (As := []) (rest := [z_i r]) (d1 := d2) (mc1 := 0) (ms1 := 0) (ψ1 := z_no) hY eL_law_1152 (by rw [hg]; exact hm) hS1.za40 (by omega) (Nat.le_of_ble_eq_true rfl) (by omega) (fun _ _ z => False.elim z) (fun v2 h2 hv2 => ?_)
  obtain ⟨ρ, rfl, hS2, hJ2⟩ := hv2
  refine z_icmpeq hY eL_law_1155 (by omega) (fun _ => ?_) (fun hne => absurd rfl hne)
  exact z_sub [0, 1, 2, 3, 4, 5] rfl (z_widen (by omega) (by omega) (kk _ _ _ _ _ hS2 hJ2))
theorem w_c17 (hC : lC Y G b L xs i k n) (hS : lS G q A o1 o2 κ σ f g H) (hv : vD G q A o1 o2 J κ σ mX7_rankSum mX8_rankSum []) (kk : lK Y G b q A o1 o2 i k n J) : z_W Y 1160 (lV b q (A 40) o1 o2 i) [] H k n := by
  obtain ⟨hY, hg, hX, hi, hc⟩ := hC
  have hX1 : z_Xs (z_gg Y) b L xs := by rw [hg]; exact hX
  have hG : z_OK G := by rw [← hg]; exact z_okG hY
  refine z_aload hY eL_law_1160 1 rfl ?_
  obtain ⟨d1, mc, ms, d2, hd1, hd2, hmc, hms, ht⟩ := hv f g H hS
  obtain ⟨fs, hfs⟩ := hS.zq1
  refine z_callV (M' := mX7_rankSum) (As := []) (rest := []) (d1 := d1) (mc1 := mc) (ms1 := ms) (ψ1 := z_no) hY eL_law_1161 (by rw [hg]; exact ht) hfs (by omega) (Nat.le_of_ble_eq_true rfl) (by omega) (fun _ _ z => False.elim z) (fun v1 h1 hv1 => ?_)
  obtain ⟨κ1, r, rfl, hr, hS1, hm⟩ := hv1
  unfold lsR at hr
  refine z_aload hY eL_law_1164 2 rfl ?_
  refine z_callV (M' := mX8_rankSum) (As := []) (rest := [z_i r]) (d1 := d2) (mc1 := 0) (ms1 := 0) (ψ1 := z_no) hY eL_law_1165 (by rw [hg]; exact hm) hS1.za40 (by omega) (Nat.le_of_ble_eq_true rfl) (by omega) (fun _ _ z => False.elim z) (fun v2 h2 hv2 => ?_)
  obtain ⟨ρ, rfl, hS2, hJ2⟩ := hv2
  refine z_icmpeq hY eL_law_1168 (by omega) (fun _ => ?_) (fun hne => absurd rfl hne)
  exact z_sub [0, 1, 2, 3, 4, 5] rfl (z_widen (by omega) (by omega) (kk _ _ _ _ _ hS2 hJ2))
theorem w_c18 (hC : lC Y G b L xs i k n) (hS : lS G q A o1 o2 κ σ f g H) (hv : vW G q A o1 o2 J κ σ mL_wouldGain hL_wouldGain mX8_wouldGain [z_i (zX xs (i + 1)), z_i (zX xs (i + 2)), z_i (zX xs (i + 3))]) (kk : lK Y G b q A o1 o2 i k n J) : z_W Y 1173 (lV b q (A 40) o1 o2 i) [] H k n := by
  obtain ⟨hY, hg, hX, hi, hc⟩ := hC
  have hX1 : z_Xs (z_gg Y) b L xs := by rw [hg]; exact hX
  have hG : z_OK G := by rw [← hg]; exact z_okG hY
  refine z_aload hY eL_law_1173 1 rfl ?_
  refine z_aload hY eL_law_1174 0 rfl ?_
  refine z_iload hY eL_law_1175 5 rfl ?_
  refine z_const hY eL_law_1177 ?_
  refine z_iadd hY eL_law_1178 ?_
  refine z_sld hY eL_law_1179 hX1 (by omega) ?_
  refine z_aload hY eL_law_1180 0 rfl ?_
  refine z_iload hY eL_law_1181 5 rfl ?_
  refine z_const hY eL_law_1183 ?_
  refine z_iadd hY eL_law_1184 ?_
  refine z_sld hY eL_law_1185 hX1 (by omega) ?_
  refine z_aload hY eL_law_1186 0 rfl ?_
  refine z_iload hY eL_law_1187 5 rfl ?_
  refine z_const hY eL_law_1189 ?_
  refine z_iadd hY eL_law_1190 ?_
  refine z_sld hY eL_law_1191 hX1 (by omega) ?_
  refine z_aload hY eL_law_1192 3 rfl ?_
  obtain ⟨d1, mc, ms, d2, hd1, hd2, hmc, hms, ht⟩ := hv f g H hS
  refine z_callSH (M' := mL_wouldGain) (As := [.ref q, z_i (zX xs (i + 1)), z_i (zX xs (i + 2)), z_i (zX xs (i + 3)), .ref o1]) (rest := []) (d1 := d1) (mc1 := mc) (ms1 := ms) hY eL_law_1193 (by rw [hg]; exact ht) (by omega) (Nat.le_of_ble_eq_true rfl) (by omega) (fun v h1 hv1 => ?_)
  obtain ⟨κ1, f1, c, rfl, hS1, hf1, hc1, hm⟩ := hv1
  unfold lsR at hc1
  unfold lsR at hf1
  refine z_istore (ls' := [(6, z_i c), (0, .ref b), (1, .ref q), (2, .ref (A 40)), (3, .ref o1), (4, .ref o2), (5, z_i i)]) hY eL_law_1196 rfl ?_
  refine z_aload hY eL_law_1198 3 rfl ?_
  refine z_aload hY eL_law_1199 1 rfl ?_
  refine z_iload hY eL_law_1200 6 rfl ?_
  refine z_const hY eL_law_1202 ?_
  refine z_iadd hY eL_law_1203 ?_
  refine z_sld hY eL_law_1204 hX1 (by omega) ?_
  refine z_aload hY eL_law_1205 1 rfl ?_
  refine z_iload hY eL_law_1206 6 rfl ?_
  refine z_const hY eL_law_1208 ?_
  refine z_iadd hY eL_law_1209 ?_
  refine z_sld hY eL_law_1210 hX1 (by omega) ?_
  refine z_aload hY eL_law_1211 1 rfl ?_
  refine z_iload hY eL_law_1212 6 rfl ?_
  refine z_const hY eL_law_1214 ?_
  refine z_iadd hY eL_law_1215 ?_
  refine z_sld hY eL_law_1216 hX1 (by omega) ?_
  refine z_callV (M' := mX8_wouldGain) (As := [z_i (zX xs (i + 1)), z_i (zX xs (i + 2)), z_i (zX xs (i + 3))]) (rest := []) (d1 := d2) (mc1 := 0) (ms1 := 0) (ψ1 := z_no) hY eL_law_1217 (by rw [hg]; exact hm) hS1.za40 (by omega) (Nat.le_of_ble_eq_true rfl) (by omega) (fun _ _ z => False.elim z) (fun v2 h2 hv2 => ?_)
  obtain ⟨r, ρ, rfl, hr, hS2, hρ, hcr, hB2, hJ2⟩ := hv2
  unfold lsR at hr
  refine z_istore (ls' := [(7, z_i r), (6, z_i c), (0, .ref b), (1, .ref q), (2, .ref (A 40)), (3, .ref o1), (4, .ref o2), (5, z_i i)]) hY eL_law_1220 rfl ?_
  refine z_aload hY eL_law_1222 4 rfl ?_
  refine z_callVr (M' := mX8_thrown) (As := []) (rest := []) (r := z_i (ρ 0 0)) hY eL_law_1223 (by rw [hg]; exact hS2.zth hG hB2) hS2.za40 (by decide) (Nat.le_of_ble_eq_true rfl) (by omega) ?_
  refine z_iload hY eL_law_1226 1 rfl ?_
  refine z_icmpeq hY eL_law_1228 (by omega) (fun _ => ?_) (fun hne => absurd hρ hne)
  refine z_iload hY eL_law_1233 1 rfl ?_
  refine z_ifne hY eL_law_1235 (by omega) (fun _ => ?_) (fun h0 => ?_)
  · refine z_goto hY eL_law_1250 ?_
    exact z_sub [2, 3, 4, 5, 6, 7] rfl (z_widen (by omega) (by omega) (kk _ _ _ _ _ hS2 hJ2))
  · refine z_aload hY eL_law_1238 5 rfl ?_
    refine z_const hY eL_law_1239 ?_
    refine z_laload hY eL_law_1240 hS2.zo1 (by omega) ?_
    refine z_iload hY eL_law_1241 0 rfl ?_
    refine z_i2l hY eL_law_1243 hr ?_
    refine z_lcmp hY eL_law_1244 (by omega) ?_
    refine z_ifeq hY eL_law_1245 (by have := z_cmp_s (f1 0) r; omega) (fun _ => ?_) (fun hne => absurd ((z_cmp_s (f1 0) r).2.2.1.mpr (hcr h0)) hne)
    refine z_goto hY eL_law_1250 ?_
    exact z_sub [2, 3, 4, 5, 6, 7] rfl (z_widen (by omega) (by omega) (kk _ _ _ _ _ hS2 hJ2))
theorem w_c19 (hC : lC Y G b L xs i k n) (hS : lS G q A o1 o2 κ σ f g H) (hv : vW G q A o1 o2 J κ σ mL_needed hL_needed mX8_needed [z_i (zX xs (i + 1)), z_i (zX xs (i + 2))]) (kk : lK Y G b q A o1 o2 i k n J) : z_W Y 1253 (lV b q (A 40) o1 o2 i) [] H k n := by
  obtain ⟨hY, hg, hX, hi, hc⟩ := hC
  have hX1 : z_Xs (z_gg Y) b L xs := by rw [hg]; exact hX
  have hG : z_OK G := by rw [← hg]; exact z_okG hY
  refine z_aload hY eL_law_1253 1 rfl ?_
  refine z_aload hY eL_law_1254 0 rfl ?_
  refine z_iload hY eL_law_1255 5 rfl ?_
  refine z_const hY eL_law_1257 ?_
  refine z_iadd hY eL_law_1258 ?_
  refine z_sld hY eL_law_1259 hX1 (by omega) ?_
  refine z_aload hY eL_law_1260 0 rfl ?_
  refine z_iload hY eL_law_1261 5 rfl ?_
  refine z_const hY eL_law_1263 ?_
  refine z_iadd hY eL_law_1264 ?_
  refine z_sld hY eL_law_1265 hX1 (by omega) ?_
  refine z_aload hY eL_law_1266 3 rfl ?_
  obtain ⟨d1, mc, ms, d2, hd1, hd2, hmc, hms, ht⟩ := hv f g H hS
  refine z_callSH (M' := mL_needed) (As := [.ref q, z_i (zX xs (i + 1)), z_i (zX xs (i + 2)), .ref o1]) (rest := []) (d1 := d1) (mc1 := mc) (ms1 := ms) hY eL_law_1267 (by rw [hg]; exact ht) (by omega) (Nat.le_of_ble_eq_true rfl) (by omega) (fun v h1 hv1 => ?_)
  obtain ⟨κ1, f1, c, rfl, hS1, hf1, hc1, hm⟩ := hv1
  unfold lsR at hc1
  unfold lsR at hf1
  refine z_istore (ls' := [(6, z_i c), (0, .ref b), (1, .ref q), (2, .ref (A 40)), (3, .ref o1), (4, .ref o2), (5, z_i i)]) hY eL_law_1270 rfl ?_
  refine z_aload hY eL_law_1272 3 rfl ?_
  refine z_aload hY eL_law_1273 1 rfl ?_
  refine z_iload hY eL_law_1274 6 rfl ?_
  refine z_const hY eL_law_1276 ?_
  refine z_iadd hY eL_law_1277 ?_
  refine z_sld hY eL_law_1278 hX1 (by omega) ?_
  refine z_aload hY eL_law_1279 1 rfl ?_
  refine z_iload hY eL_law_1280 6 rfl ?_
  refine z_const hY eL_law_1282 ?_
  refine z_iadd hY eL_law_1283 ?_
  refine z_sld hY eL_law_1284 hX1 (by omega) ?_
  refine z_callV (M' := mX8_needed) (As := [z_i (zX xs (i + 1)), z_i (zX xs (i + 2))]) (rest := []) (d1 := d2) (mc1 := 0) (ms1 := 0) (ψ1 := z_no) hY eL_law_1285 (by rw [hg]; exact hm) hS1.za40 (by omega) (Nat.le_of_ble_eq_true rfl) (by omega) (fun _ _ z => False.elim z) (fun v2 h2 hv2 => ?_)
  obtain ⟨r, ρ, rfl, hr, hS2, hρ, hcr, hB2, hJ2⟩ := hv2
  unfold lsR at hr
  refine z_istore (ls' := [(7, z_i r), (6, z_i c), (0, .ref b), (1, .ref q), (2, .ref (A 40)), (3, .ref o1), (4, .ref o2), (5, z_i i)]) hY eL_law_1288 rfl ?_
  refine z_aload hY eL_law_1290 4 rfl ?_
  refine z_callVr (M' := mX8_thrown) (As := []) (rest := []) (r := z_i (ρ 0 0)) hY eL_law_1291 (by rw [hg]; exact hS2.zth hG hB2) hS2.za40 (by decide) (Nat.le_of_ble_eq_true rfl) (by omega) ?_
  refine z_iload hY eL_law_1294 1 rfl ?_
  refine z_icmpeq hY eL_law_1296 (by omega) (fun _ => ?_) (fun hne => absurd hρ hne)
  refine z_iload hY eL_law_1301 1 rfl ?_
  refine z_ifne hY eL_law_1303 (by omega) (fun _ => ?_) (fun h0 => ?_)
  · refine z_goto hY eL_law_1318 ?_
    exact z_sub [2, 3, 4, 5, 6, 7] rfl (z_widen (by omega) (by omega) (kk _ _ _ _ _ hS2 hJ2))
  · refine z_aload hY eL_law_1306 5 rfl ?_
    refine z_const hY eL_law_1307 ?_
    refine z_laload hY eL_law_1308 hS2.zo1 (by omega) ?_
    refine z_iload hY eL_law_1309 0 rfl ?_
    refine z_i2l hY eL_law_1311 hr ?_
    refine z_lcmp hY eL_law_1312 (by omega) ?_
    refine z_ifeq hY eL_law_1313 (by have := z_cmp_s (f1 0) r; omega) (fun _ => ?_) (fun hne => absurd ((z_cmp_s (f1 0) r).2.2.1.mpr (hcr h0)) hne)
    refine z_goto hY eL_law_1318 ?_
    exact z_sub [2, 3, 4, 5, 6, 7] rfl (z_widen (by omega) (by omega) (kk _ _ _ _ _ hS2 hJ2))
end LC11
