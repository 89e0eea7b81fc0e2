/-! The hall: the tape, the end of a round, the standing made anew (laid by wip/whole/gen/gm37.py). -/
section D6
theorem kTk_n {κ : c_K} (v : Int) {k : Nat} (h : k ≠ 4 ∧ k ≠ 5) : kTk κ v k = κ k := by
  have h1 : ∀ (κ : c_K) (b : Int), kPb κ b k = κ k := by
    intro κ b
    unfold kPb
    split
    · rfl
    · rw [k_u_ne h.2, k_u_ne h.1]
  unfold kTk
  rw [h1, h1, h1, h1]
/-- the addresses, those of the lists' arrays aside -/
def bE (B : Nat → Int → Nat) (E : Int → Nat) : Nat → Int → Nat := fun t i => if t = 8 then E i else B t i
theorem bE_u {B : Nat → Int → Nat} {E : Int → Nat} {r : Int} {e : Nat} : bU (bE B E) r e = bE B (fun j => if j = r then e else E j) := by
  funext t i
  by_cases h : t = 8
  · subst h
    rfl
  · unfold bU bE
    rw [if_neg h, if_neg h, if_neg h]
theorem bE_0 {B : Nat → Int → Nat} : B = bE B (B 8) := by
  funext t i
  by_cases h : t = 8
  · subst h
    rfl
  · exact (if_neg h).symm
/-- the standing made anew: the first m entrants, those that are there put in -/
def kMr (κ : c_K) : Nat → c_K → Prop
  | 0, κ' => κ' = κ
  | m + 1, κ' => ∃ κ0, kMr κ m κ0 ∧ ((κ0 36 m 0 = 0 ∧ κ' = κ0) ∨ (κ0 36 m 0 ≠ 0 ∧ ∃ N, κ' = kSp (kJd κ0 (κ0 17 0 0) m) m N))
theorem kMr_s0 {κ κ0 : c_K} {i : Int} (h : 0 ≤ i) (h1 : kMr κ i.toNat κ0) (h2 : κ0 36 i 0 = 0) : kMr κ (i + 1).toNat κ0 := by
  rw [show (i + 1).toNat = i.toNat + 1 by omega]
  refine ⟨κ0, h1, Or.inl ⟨?_, rfl⟩⟩
  rw [Int.toNat_of_nonneg h]
  exact h2
theorem kMr_s1 {κ κ0 : c_K} {i N : Int} (h : 0 ≤ i) (h1 : kMr κ i.toNat κ0) (h2 : κ0 36 i 0 ≠ 0) : kMr κ (i + 1).toNat (kSp (kJd κ0 (κ0 17 0 0) i) i N) := by
  rw [show (i + 1).toNat = i.toNat + 1 by omega]
  refine ⟨κ0, h1, Or.inr ⟨?_, N, ?_⟩⟩
  · rw [Int.toNat_of_nonneg h]; exact h2
  · rw [Int.toNat_of_nonneg h]
/-- the standing emptied -/
def kCl (κ : c_K) : c_K := kRw κ 1 (κ 20 1) 0 (kW (κ 25 1 0))
theorem S_Cl {κ : c_K} (hV : cV κ) (hS : cS κ) : cV (kCl κ) ∧ cS (kCl κ) := by
  have h1 := hV.2.1 1 (by omega) (by omega)
  exact ⟨cV_Rw hV (by omega) (by omega) (fun j a b => by omega), cS_Rw hS (by omega) (by omega) (kW_b _) (fun j => hS.b 20 1 j)⟩
theorem L_Cl {κ : c_K} (t : Nat) (i : Int) : cL (kCl κ) t i ↔ cL κ t i := cL_Rw (by omega) t i
theorem kCl_n {κ : c_K} : kCl κ 24 0 0 = κ 24 0 0 := by unfold kCl; rw [kRw_ni (by omega)]
theorem kCl_1 {κ : c_K} : kCl κ 24 1 0 = 0 := kRw_24
theorem kSp_1 {κ : c_K} {e N : Int} : kSp κ e N 24 1 0 = κ 24 1 0 + 1 := by
  unfold kSp kNa
  rw [kNp_ne (by decide), kAd_24]

theorem q_append {G : z_G} {D : Nat} {B : Nat → Int → Nat} {κ : c_K} {h : z_H} (hG : z_OK G) (hD : D = z_dc G) (hM : z_MI G) (hJ : cJ B κ) (hB : cB κ) (hV : cV κ) (hS : cS κ) {a b c k e : Int} (hra : -2147483648 ≤ a ∧ a ≤ 2147483647) (hrb : -2147483648 ≤ b ∧ b ≤ 2147483647) (hrc : -2147483648 ≤ c ∧ c ≤ 2147483647) (hrk : -2147483648 ≤ k ∧ k ≤ 2147483647) (hre : -2147483648 ≤ e ∧ e ≤ 2147483647) : z_T G mX7_append [.ref (B 0 0), z_i a, z_i b, z_i c, z_i k, z_i e] (cH D B κ h) 1 1 6 (fun v' h' => (κ 5 0 0 + (yBy a + yBy b + yBy c + yBy k + yBy e) ≤ 100) ∧ v' = some (z_i (κ 5 0 0 + (yBy a + yBy b + yBy c + yBy k + yBy e))) ∧ ∃ (κ' : c_K) (B' : Nat → Int → Nat) (h2 : z_H), h' = cH D B' κ' h2 ∧ cI B κ h B' κ' h2 ∧ κ' = kTk (kTk (kTk (kTk (kTk κ a) b) c) k) e) (fun E h' => h' = cH D B κ h ∧ ((E = "java/lang/IllegalStateException" ∧ ¬ κ 5 0 0 + (yBy a + yBy b + yBy c + yBy k + yBy e) ≤ 100))) := by
  obtain ⟨hn, hsz, hrw, hcu, htl, hth⟩ := id hV
  have hs0 := hsz 0 (by omega) (by omega)
  have hs1 := hsz 1 (by omega) (by omega)
  have hs2 := hsz 2 (by omega) (by omega)
  have hs3 := hsz 3 (by omega) (by omega)
  refine z_T_of hG pX7_append (Nat.le_of_ble_eq_true rfl) (ls0 := [(0, .ref (B 0 0)), (1, z_i a), (2, z_i b), (3, z_i c), (4, z_i k), (5, z_i e)]) rfl fun Y hY hg hmc hms hφ hψ => ?_
  subst hg
  have hI0 := cI_r (h := h) hJ hV hS
  refine z_aload hY eX7_append_0 0 rfl ?_
  refine c_gf hY hI0.1 eX7_append_1 (t := 0) (i := 0) (v := .ref (B 1 0)) (by omega) rfl rfl ?_
  refine z_iload hY eX7_append_4 1 rfl ?_
  refine z_callVr (As := [z_i a]) (rest := []) (r := z_i (yBy a)) hY eX7_append_5 (t_bytesIn hG (by omega)) (cH_at (B := B) (t := 1) (i := 0) hI0.1 (by omega)) (by decide) (Nat.le_of_ble_eq_true rfl) ⟨Nat.zero_le _, Nat.zero_le _⟩ ?_
  have hc1 := yBy_b a
  refine z_aload hY eX7_append_8 0 rfl ?_
  refine c_gf hY hI0.1 eX7_append_9 (t := 0) (i := 0) (v := .ref (B 1 0)) (by omega) rfl rfl ?_
  refine z_iload hY eX7_append_12 2 rfl ?_
  refine z_callVr (As := [z_i b]) (rest := [z_i (yBy a)]) (r := z_i (yBy b)) hY eX7_append_13 (t_bytesIn hG (by omega)) (cH_at (B := B) (t := 1) (i := 0) hI0.1 (by omega)) (by decide) (Nat.le_of_ble_eq_true rfl) ⟨Nat.zero_le _, Nat.zero_le _⟩ ?_
  have hc2 := yBy_b b
  refine z_iadd hY eX7_append_16 ?_
  refine z_aload hY eX7_append_17 0 rfl ?_
  refine c_gf hY hI0.1 eX7_append_18 (t := 0) (i := 0) (v := .ref (B 1 0)) (by omega) rfl rfl ?_
  refine z_iload hY eX7_append_21 3 rfl ?_
  refine z_callVr (As := [z_i c]) (rest := [z_i ((yBy a) + (yBy b))]) (r := z_i (yBy c)) hY eX7_append_22 (t_bytesIn hG (by omega)) (cH_at (B := B) (t := 1) (i := 0) hI0.1 (by omega)) (by decide) (Nat.le_of_ble_eq_true rfl) ⟨Nat.zero_le _, Nat.zero_le _⟩ ?_
  have hc3 := yBy_b c
  refine z_iadd hY eX7_append_25 ?_
  refine z_aload hY eX7_append_26 0 rfl ?_
  refine c_gf hY hI0.1 eX7_append_27 (t := 0) (i := 0) (v := .ref (B 1 0)) (by omega) rfl rfl ?_
  refine z_iload hY eX7_append_30 4 rfl ?_
  refine z_callVr (As := [z_i k]) (rest := [z_i ((yBy a) + (yBy b) + (yBy c))]) (r := z_i (yBy k)) hY eX7_append_32 (t_bytesIn hG (by omega)) (cH_at (B := B) (t := 1) (i := 0) hI0.1 (by omega)) (by decide) (Nat.le_of_ble_eq_true rfl) ⟨Nat.zero_le _, Nat.zero_le _⟩ ?_
  have hc4 := yBy_b k
  refine z_iadd hY eX7_append_35 ?_
  refine z_aload hY eX7_append_36 0 rfl ?_
  refine c_gf hY hI0.1 eX7_append_37 (t := 0) (i := 0) (v := .ref (B 1 0)) (by omega) rfl rfl ?_
  refine z_iload hY eX7_append_40 5 rfl ?_
  refine z_callVr (As := [z_i e]) (rest := [z_i ((yBy a) + (yBy b) + (yBy c) + (yBy k))]) (r := z_i (yBy e)) hY eX7_append_42 (t_bytesIn hG (by omega)) (cH_at (B := B) (t := 1) (i := 0) hI0.1 (by omega)) (by decide) (Nat.le_of_ble_eq_true rfl) ⟨Nat.zero_le _, Nat.zero_le _⟩ ?_
  have hc5 := yBy_b e
  refine z_iadd hY eX7_append_45 ?_
  refine z_istore hY eX7_append_46 (ls' := [(6, z_i ((yBy a) + (yBy b) + (yBy c) + (yBy k) + (yBy e))), (0, .ref (B 0 0)), (1, z_i a), (2, z_i b), (3, z_i c), (4, z_i k), (5, z_i e)]) rfl ?_
  refine z_aload hY eX7_append_48 1 rfl ?_
  refine c_gf hY hI0.1 eX7_append_49 (t := 0) (i := 0) (v := .ref (B 1 0)) (by omega) rfl rfl ?_
  have hb6 := hS.s5 0 0
  refine c_gf hY hI0.1 eX7_append_52 (t := 1) (i := 0) (v := z_i (κ 5 0 0)) (by omega) rfl rfl ?_
  refine z_iload hY eX7_append_55 0 rfl ?_
  refine z_iadd hY eX7_append_57 ?_
  refine z_top (b := (κ 5 0 0) + (yBy a) + (yBy b) + (yBy c) + (yBy k) + (yBy e)) (by omega) ?_
  refine z_const hY eX7_append_58 ?_
  refine z_icmple hY eX7_append_60 (by omega) (fun c60 => ?_) (fun c60 => ?_)
  · refine z_aload hY eX7_append_73 1 rfl ?_
    refine c_gf hY hI0.1 eX7_append_74 (t := 0) (i := 0) (v := .ref (B 1 0)) (by omega) rfl rfl ?_
    refine z_iload hY eX7_append_77 2 rfl ?_
    refine z_callV (As := [z_i a]) (rest := []) hY eX7_append_78 (t_addWord (B := B) (κ := κ) hG hI0.1 hI0.2.1.2.b hI0.2.1.1 (by omega) (by omega)) (cH_at (B := B) (t := 1) (i := 0) hI0.1 (by omega)) (by decide) (Nat.le_of_ble_eq_true rfl) ⟨Nat.zero_le _, Nat.zero_le _⟩ (fun _ _ q => q.elim) (fun vv7 hh7 q7 => ?_)
    obtain ⟨rfl, rfl⟩ := q7
    obtain ⟨κ8, hk8⟩ : ∃ qq, qq = kTk κ a := ⟨_, rfl⟩
    refine z_heq (congrArg (fun q => cH D B q h) hk8.symm) ?_
    have hI8 : cI B κ h B κ8 h := hk8 ▸ cI_t hI0 (L_Tk a) (S_Tk hI0.2.1.1 hI0.2.1.2 (by omega))
    have hn9 : κ8 5 0 0 = κ 5 0 0 + yBy a := by rw [hk8]; exact kTk_5 _ _
    have hn10 : κ8 24 0 0 = κ 24 0 0 := by rw [hk8]; rw [kTk_n _ (by decide)]
    refine z_aload hY eX7_append_81 1 rfl ?_
    refine c_gf hY hI8.1 eX7_append_82 (t := 0) (i := 0) (v := .ref (B 1 0)) ((hI8.2.2.2 _ _ (by decide) (by omega)).1) rfl rfl ?_
    refine z_iload hY eX7_append_85 3 rfl ?_
    refine z_callV (As := [z_i b]) (rest := []) hY eX7_append_86 (t_addWord (B := B) (κ := κ8) hG hI8.1 hI8.2.1.2.b hI8.2.1.1 (by omega) (by omega)) (cH_at (B := B) (t := 1) (i := 0) hI8.1 ((hI8.2.2.2 _ _ (by decide) (by omega)).1)) (by decide) (Nat.le_of_ble_eq_true rfl) ⟨Nat.zero_le _, Nat.zero_le _⟩ (fun _ _ q => q.elim) (fun vv11 hh11 q11 => ?_)
    obtain ⟨rfl, rfl⟩ := q11
    obtain ⟨κ12, hk12⟩ : ∃ qq, qq = kTk κ8 b := ⟨_, rfl⟩
    refine z_heq (congrArg (fun q => cH D B q h) hk12.symm) ?_
    have hI12 : cI B κ h B κ12 h := hk12 ▸ cI_t hI8 (L_Tk b) (S_Tk hI8.2.1.1 hI8.2.1.2 (by omega))
    have hn13 : κ12 5 0 0 = κ8 5 0 0 + yBy b := by rw [hk12]; exact kTk_5 _ _
    have hn14 : κ12 24 0 0 = κ8 24 0 0 := by rw [hk12]; rw [kTk_n _ (by decide)]
    refine z_aload hY eX7_append_89 1 rfl ?_
    refine c_gf hY hI12.1 eX7_append_90 (t := 0) (i := 0) (v := .ref (B 1 0)) ((hI12.2.2.2 _ _ (by decide) (by omega)).1) rfl rfl ?_
    refine z_iload hY eX7_append_93 4 rfl ?_
    refine z_callV (As := [z_i c]) (rest := []) hY eX7_append_94 (t_addWord (B := B) (κ := κ12) hG hI12.1 hI12.2.1.2.b hI12.2.1.1 (by omega) (by omega)) (cH_at (B := B) (t := 1) (i := 0) hI12.1 ((hI12.2.2.2 _ _ (by decide) (by omega)).1)) (by decide) (Nat.le_of_ble_eq_true rfl) ⟨Nat.zero_le _, Nat.zero_le _⟩ (fun _ _ q => q.elim) (fun vv15 hh15 q15 => ?_)
    obtain ⟨rfl, rfl⟩ := q15
    obtain ⟨κ16, hk16⟩ : ∃ qq, qq = kTk κ12 c := ⟨_, rfl⟩
    refine z_heq (congrArg (fun q => cH D B q h) hk16.symm) ?_
    have hI16 : cI B κ h B κ16 h := hk16 ▸ cI_t hI12 (L_Tk c) (S_Tk hI12.2.1.1 hI12.2.1.2 (by omega))
    have hn17 : κ16 5 0 0 = κ12 5 0 0 + yBy c := by rw [hk16]; exact kTk_5 _ _
    have hn18 : κ16 24 0 0 = κ12 24 0 0 := by rw [hk16]; rw [kTk_n _ (by decide)]
    refine z_aload hY eX7_append_97 1 rfl ?_
    refine c_gf hY hI16.1 eX7_append_98 (t := 0) (i := 0) (v := .ref (B 1 0)) ((hI16.2.2.2 _ _ (by decide) (by omega)).1) rfl rfl ?_
    refine z_iload hY eX7_append_101 5 rfl ?_
    refine z_callV (As := [z_i k]) (rest := []) hY eX7_append_103 (t_addWord (B := B) (κ := κ16) hG hI16.1 hI16.2.1.2.b hI16.2.1.1 (by omega) (by omega)) (cH_at (B := B) (t := 1) (i := 0) hI16.1 ((hI16.2.2.2 _ _ (by decide) (by omega)).1)) (by decide) (Nat.le_of_ble_eq_true rfl) ⟨Nat.zero_le _, Nat.zero_le _⟩ (fun _ _ q => q.elim) (fun vv19 hh19 q19 => ?_)
    obtain ⟨rfl, rfl⟩ := q19
    obtain ⟨κ20, hk20⟩ : ∃ qq, qq = kTk κ16 k := ⟨_, rfl⟩
    refine z_heq (congrArg (fun q => cH D B q h) hk20.symm) ?_
    have hI20 : cI B κ h B κ20 h := hk20 ▸ cI_t hI16 (L_Tk k) (S_Tk hI16.2.1.1 hI16.2.1.2 (by omega))
    have hn21 : κ20 5 0 0 = κ16 5 0 0 + yBy k := by rw [hk20]; exact kTk_5 _ _
    have hn22 : κ20 24 0 0 = κ16 24 0 0 := by rw [hk20]; rw [kTk_n _ (by decide)]
    refine z_aload hY eX7_append_106 1 rfl ?_
    refine c_gf hY hI20.1 eX7_append_107 (t := 0) (i := 0) (v := .ref (B 1 0)) ((hI20.2.2.2 _ _ (by decide) (by omega)).1) rfl rfl ?_
    refine z_iload hY eX7_append_110 6 rfl ?_
    refine z_callV (As := [z_i e]) (rest := []) hY eX7_append_112 (t_addWord (B := B) (κ := κ20) hG hI20.1 hI20.2.1.2.b hI20.2.1.1 (by omega) (by omega)) (cH_at (B := B) (t := 1) (i := 0) hI20.1 ((hI20.2.2.2 _ _ (by decide) (by omega)).1)) (by decide) (Nat.le_of_ble_eq_true rfl) ⟨Nat.zero_le _, Nat.zero_le _⟩ (fun _ _ q => q.elim) (fun vv23 hh23 q23 => ?_)
    obtain ⟨rfl, rfl⟩ := q23
    obtain ⟨κ24, hk24⟩ : ∃ qq, qq = kTk κ20 e := ⟨_, rfl⟩
    refine z_heq (congrArg (fun q => cH D B q h) hk24.symm) ?_
    have hI24 : cI B κ h B κ24 h := hk24 ▸ cI_t hI20 (L_Tk e) (S_Tk hI20.2.1.1 hI20.2.1.2 (by omega))
    have hn25 : κ24 5 0 0 = κ20 5 0 0 + yBy e := by rw [hk24]; exact kTk_5 _ _
    have hn26 : κ24 24 0 0 = κ20 24 0 0 := by rw [hk24]; rw [kTk_n _ (by decide)]
    refine z_aload hY eX7_append_115 1 rfl ?_
    refine c_gf hY hI24.1 eX7_append_116 (t := 0) (i := 0) (v := .ref (B 1 0)) ((hI24.2.2.2 _ _ (by decide) (by omega)).1) rfl rfl ?_
    have hb27 := hI24.2.1.2.s5 0 0
    refine c_gf hY hI24.1 eX7_append_119 (t := 1) (i := 0) (v := z_i (κ24 5 0 0)) ((hI24.2.2.2 _ _ (by decide) (by omega)).1) rfl rfl ?_
    exact z_ireturn hY eX7_append_122 rfl (by rw [hφ]; subst_vars; first | (exfalso; omega) | exact ⟨by omega, congrArg (fun q => some (z_i q)) (by omega), _, _, _, rfl, hI24, rfl⟩) ⟨Nat.zero_le _, Nat.zero_le _⟩
  · exact z_thr hY xX7_append_63 (by rw [hmc, hms]; omega) (by rw [hψ]; refine ⟨rfl, ?_⟩; first | exact ⟨rfl, by omega⟩ | exact Or.inl ⟨rfl, by omega⟩ | exact Or.inr ⟨rfl, by omega⟩ | exact Or.inr (Or.inl ⟨rfl, by omega⟩) | exact Or.inr (Or.inr ⟨rfl, by omega⟩))
theorem q_endRound {G : z_G} {D : Nat} {B : Nat → Int → Nat} {κ : c_K} {h : z_H} (hG : z_OK G) (hD : D = z_dc G) (hM : z_MI G) (hJ : cJ B κ) (hB : cB κ) (hV : cV κ) (hS : cS κ)  : z_T G mX7_endRound [.ref (B 0 0)] (cH D B κ h) 4 1 6 (fun v' h' => (κ 1 0 0 < 200) ∧ v' = some (z_i (κ 1 0 0)) ∧ ∃ (κ' : c_K) (B' : Nat → Int → Nat) (h2 : z_H), h' = cH D B' κ' h2 ∧ cI B κ h B' κ' h2 ∧ κ' = kEr κ) (fun E h' => h' = cH D B κ h ∧ ((E = "java/lang/IllegalStateException" ∧ ¬ κ 1 0 0 < 200))) := by
  obtain ⟨hn, hsz, hrw, hcu, htl, hth⟩ := id hV
  have hs0 := hsz 0 (by omega) (by omega)
  have hs1 := hsz 1 (by omega) (by omega)
  have hs2 := hsz 2 (by omega) (by omega)
  have hs3 := hsz 3 (by omega) (by omega)
  refine z_T_of hG pX7_endRound (Nat.le_of_ble_eq_true rfl) (ls0 := [(0, .ref (B 0 0))]) rfl fun Y hY hg hmc hms hφ hψ => ?_
  subst hg
  have hI0 := cI_r (h := h) hJ hV hS
  refine z_aload hY eX7_endRound_0 0 rfl ?_
  have hb1 := hS.s1 0 0
  refine c_gf hY hI0.1 eX7_endRound_1 (t := 0) (i := 0) (v := z_i (κ 1 0 0)) (by omega) rfl rfl ?_
  refine z_const hY eX7_endRound_4 ?_
  refine z_icmplt hY eX7_endRound_7 (by omega) (fun c7 => ?_) (fun c7 => ?_)
  · refine z_aload hY eX7_endRound_21 0 rfl ?_
    refine c_gf hY hI0.1 eX7_endRound_22 (t := 0) (i := 0) (v := .ref (B 11 0)) (by omega) rfl rfl ?_
    refine z_aload hY eX7_endRound_25 0 rfl ?_
    refine c_gf hY hI0.1 eX7_endRound_26 (t := 0) (i := 0) (v := z_i (κ 1 0 0)) (by omega) rfl rfl ?_
    refine z_callV (As := [z_i (κ 1 0 0)]) (rest := []) hY eX7_endRound_29 (l_letFall hG hI0.1 hI0.2.1.2.b hI0.2.1.1 (r := κ 1 0 0) (by omega) (hS.s19 0 0)) (cH_at (B := B) (t := 11) (i := 0) hI0.1 (by omega)) (by decide) (Nat.le_of_ble_eq_true rfl) ⟨Nat.zero_le _, Nat.zero_le _⟩ (fun _ _ q => q.elim) (fun vv2 hh2 q2 => ?_)
    obtain ⟨rfl, rfl⟩ := q2
    obtain ⟨κ3, hk3⟩ : ∃ qq, qq = kFa κ (κ 1 0 0 - κ 19 0 0 + 1) := ⟨_, rfl⟩
    refine z_heq (congrArg (fun q => cH D B q h) hk3.symm) ?_
    have hI3 : cI B κ h B κ3 h := hk3 ▸ cI_t hI0 (L_Fa _) (S_Fa hV hS _)
    have hn4 : κ3 24 0 0 = κ 24 0 0 := by rw [hk3]; rw [kFa_ne (by decide)]
    have hn5 : κ3 1 0 0 = κ 1 0 0 := by rw [hk3]; rw [kFa_ne (by decide)]
    refine z_const hY eX7_endRound_32 ?_
    refine z_istore hY eX7_endRound_33 (ls' := [(1, z_i 0), (0, .ref (B 0 0))]) rfl ?_
    refine z_sub [1, 0] (ls' := [(0, .ref (B 0 0)), (1, z_i 0)]) rfl ?_
    have lp : ∀ (fu : Nat) (i : Int), (κ 24 0 0 - i).toNat < fu → (0 ≤ i ∧ i ≤ κ 24 0 0) → z_W Y 34 [(0, .ref (B 0 0)), (1, z_i i)] [] (cH D B (kKs κ3 (κ 1 0 0) i.toNat) h) 0 0 := by
      intro fu
      induction fu with
      | zero => intro i hf; exact absurd hf (Nat.not_lt_zero _)
      | succ fu ih =>
        intro i hf h0
        obtain ⟨κ6, hk6⟩ : ∃ qq, qq = kKs κ3 (κ 1 0 0) i.toNat := ⟨_, rfl⟩
        refine z_heq (congrArg (fun q => cH D B q h) hk6.symm) ?_
        have hI6 : cI B κ h B κ6 h := hk6 ▸ cI_t hI3 (L_Ks _ _) (S_Ks hI3.2.1.1 hI3.2.1.2 _ _)
        have hn7 : κ6 24 0 0 = κ3 24 0 0 := by rw [hk6]; rw [kKs_ne (by decide)]
        have hn8 : κ6 1 0 0 = κ3 1 0 0 := by rw [hk6]; rw [kKs_ne (by decide)]
        have hz6_1 : @Eq Int (κ 1 0 0) (κ6 1 0 0) := by omega
        refine z_iload hY eX7_endRound_34 1 rfl ?_
        refine z_aload hY eX7_endRound_35 0 rfl ?_
        refine c_gf hY hI6.1 eX7_endRound_36 (t := 0) (i := 0) (v := .ref (B 7 0)) ((hI6.2.2.2 _ _ (by decide) (by omega)).1) rfl rfl ?_
        refine z_callVr (As := []) (rest := [z_i i]) (r := z_i (κ6 24 0 0)) hY eX7_endRound_39 (c_size (B := B) (κ := κ6) hG hI6.1 hI6.2.1.2.b hI6.2.1.1 (by omega)) (cH_at (B := B) (t := 7) (i := 0) hI6.1 ((hI6.2.2.2 _ _ (by decide) (by omega)).1)) (by decide) (Nat.le_of_ble_eq_true rfl) ⟨Nat.zero_le _, Nat.zero_le _⟩ ?_
        refine z_icmpge hY eX7_endRound_42 (by omega) (fun c42 => ?_) (fun c42 => ?_)
        · refine z_aload hY eX7_endRound_69 0 rfl ?_
          refine z_dup hY eX7_endRound_70 rfl ?_
          have hb9 := hI6.2.1.2.s1 0 0
          refine c_gf hY hI6.1 eX7_endRound_71 (t := 0) (i := 0) (v := z_i (κ6 1 0 0)) ((hI6.2.2.2 _ _ (by decide) (by omega)).1) rfl rfl ?_
          refine z_const hY eX7_endRound_74 ?_
          refine z_iadd hY eX7_endRound_75 ?_
          refine c_pf hY hI6.1 eX7_endRound_76 (key := 1) (t := 0) (i := 0) (by decide) rfl ((hI6.2.2.2 _ _ (by decide) (by omega)).1) rfl (Nat.le_of_ble_eq_true rfl) (by simp [cC, k_u, k_r]) ?_
          obtain ⟨κ10, hk10⟩ : ∃ qq, qq = k_u κ6 1 0 0 ((κ6 1 0 0) + 1) := ⟨_, rfl⟩
          refine z_heq (congrArg (fun q => cH D B q h) hk10.symm) ?_
          have hI10 : cI B κ h B κ10 h := hk10 ▸ cI_t hI6 (cL_u (by decide)) (S_u hI6.2.1.1 hI6.2.1.2 (by decide) ⟨by show (0 : Int) ≤ _; omega, by show _ ≤ (200 : Int); omega⟩)
          have hn11 : κ10 24 0 0 = κ6 24 0 0 := by rw [hk10]; rw [k_u_ne (by decide)]
          have hn12 : κ10 24 1 0 = κ6 24 1 0 := by rw [hk10]; rw [k_u_ne (by decide)]
          have hn13 : κ10 24 2 0 = κ6 24 2 0 := by rw [hk10]; rw [k_u_ne (by decide)]
          have hn14 : κ10 24 3 0 = κ6 24 3 0 := by rw [hk10]; rw [k_u_ne (by decide)]
          have hn15 : κ10 1 0 0 = (κ6 1 0 0) + 1 := by rw [hk10]; exact k_u_at
          refine z_aload hY eX7_endRound_79 0 rfl ?_
          have hb16 := hI10.2.1.2.s1 0 0
          refine c_gf hY hI10.1 eX7_endRound_80 (t := 0) (i := 0) (v := z_i (κ10 1 0 0)) ((hI10.2.2.2 _ _ (by decide) (by omega)).1) rfl rfl ?_
          refine z_const hY eX7_endRound_83 ?_
          refine z_isub hY eX7_endRound_84 ?_
          exact z_ireturn hY eX7_endRound_85 rfl (by rw [hφ]; subst_vars; first | (exfalso; omega) | exact ⟨by omega, congrArg (fun q => some (z_i q)) (by first | rfl | omega), _, _, _, rfl, hI10, by unfold kEr; rw [kKs_ne (k := 1) (by decide), kFa_ne (k := 1) (by decide), show i = κ 24 0 0 by omega]⟩) ⟨Nat.zero_le _, Nat.zero_le _⟩
        · refine z_aload hY eX7_endRound_45 0 rfl ?_
          refine c_gf hY hI6.1 eX7_endRound_46 (t := 0) (i := 0) (v := .ref (B 7 0)) ((hI6.2.2.2 _ _ (by decide) (by omega)).1) rfl rfl ?_
          refine z_iload hY eX7_endRound_49 1 rfl ?_
          refine z_callVr (As := [z_i i]) (rest := []) (r := .ref (B 20 i)) hY eX7_endRound_50 (c_get0 (B := B) (κ := κ6) hG hI6.1 hI6.2.1.2.b hI6.2.1.1 hI6.2.1.2 (show 0 ≤ i ∧ i < _ by omega)) (cH_at (B := B) (t := 7) (i := 0) hI6.1 ((hI6.2.2.2 _ _ (by decide) (by omega)).1)) (by decide) (Nat.le_of_ble_eq_true rfl) ⟨Nat.zero_le _, Nat.zero_le _⟩ ?_
          refine z_cast hY eX7_endRound_53 (ci := 0) (nm := "StandingsHall$Entrant") (T := TX0) (N := 11) rfl (cH_at (B := B) (t := 20) (i := i) hI6.1 ((hI6.2.2.2 _ _ (by decide) (by omega)).1)) ?_
          refine z_aload hY eX7_endRound_56 0 rfl ?_
          have hb17 := hI6.2.1.2.s1 0 0
          refine c_gf hY hI6.1 eX7_endRound_57 (t := 0) (i := 0) (v := z_i (κ6 1 0 0)) ((hI6.2.2.2 _ _ (by decide) (by omega)).1) rfl rfl ?_
          refine z_top (b := κ 1 0 0) (by omega) ?_
          refine z_callV (As := [z_i (κ 1 0 0)]) (rest := []) hY eX7_endRound_60 (e_keepRound (B := B) (κ := κ6) hG hI6.1 hI6.2.1.2.b hI6.2.1.1 (show -1 ≤ i ∧ i < _ by omega) (by omega)) (cH_at (B := B) (t := 20) (i := i) hI6.1 ((hI6.2.2.2 _ _ (by decide) (by omega)).1)) (by decide) (Nat.le_of_ble_eq_true rfl) ⟨Nat.zero_le _, Nat.zero_le _⟩ (fun _ _ q => q.elim) (fun vv18 hh18 q18 => ?_)
          obtain ⟨rfl, rfl⟩ := q18
          obtain ⟨κ19, hk19⟩ : ∃ qq, qq = kK κ6 i (κ 1 0 0) := ⟨_, rfl⟩
          refine z_heq (congrArg (fun q => cH D B q h) hk19.symm) ?_
          have hI19 : cI B κ h B κ19 h := hk19 ▸ cI_t hI6 (L_K _ _) (S_K hI6.2.1.1 hI6.2.1.2 _ _)
          refine z_iinc hY eX7_endRound_63 1 rfl (ls' := [(1, z_i (i + 1)), (0, .ref (B 0 0))]) rfl ?_
          refine z_goto hY eX7_endRound_66 ?_
          refine z_sub [1, 0] (ls' := [(0, .ref (B 0 0)), (1, z_i (i + 1))]) rfl ?_
          refine z_heq (congrArg (fun q => cH D B q h) (show κ19 = kKs κ3 (κ 1 0 0) (i + 1).toNat from by rw [hk19, hk6, kKs_S (by omega)])) ?_
          exact ih (i + 1) (by omega) (by omega)
    exact lp _ 0 (Nat.lt_succ_self _) (by omega)
  · exact z_thr hY xX7_endRound_10 (by rw [hmc, hms]; omega) (by rw [hψ]; refine ⟨rfl, ?_⟩; first | exact ⟨rfl, by omega⟩ | exact Or.inl ⟨rfl, by omega⟩ | exact Or.inr ⟨rfl, by omega⟩ | exact Or.inr (Or.inl ⟨rfl, by omega⟩) | exact Or.inr (Or.inr ⟨rfl, by omega⟩))
theorem c_makeAnew {G : z_G} {D : Nat} {B : Nat → Int → Nat} {κ : c_K} {h : z_H} (hG : z_OK G) (hD : D = z_dc G) (hM : z_MI G) (hJ : cJ B κ) (hB : cB κ) (hV : cV κ) (hS : cS κ)  : z_T G mX7_makeStandingAnew [.ref (B 0 0)] (cH D B κ h) 8 30 1350 (fun v' h' => v' = none ∧ ∃ (κ' : c_K) (B' : Nat → Int → Nat) (h2 : z_H), h' = cH D B' κ' h2 ∧ cI B κ h B' κ' h2 ∧ kMr (kCl κ) (κ 24 0 0).toNat κ') (z_no) := by
  obtain ⟨hn, hsz, hrw, hcu, htl, hth⟩ := id hV
  have hs0 := hsz 0 (by omega) (by omega)
  have hs1 := hsz 1 (by omega) (by omega)
  have hs2 := hsz 2 (by omega) (by omega)
  have hs3 := hsz 3 (by omega) (by omega)
  refine z_T_of hG pX7_makeStandingAnew (Nat.le_of_ble_eq_true rfl) (ls0 := [(0, .ref (B 0 0))]) rfl fun Y hY hg hmc hms hφ hψ => ?_
  subst hg
  have hI0 := cI_r (h := h) hJ hV hS
  refine z_aload hY eX7_makeStandingAnew_0 0 rfl ?_
  refine c_gf hY hI0.1 eX7_makeStandingAnew_1 (t := 0) (i := 0) (v := .ref (B 9 0)) (by omega) rfl rfl ?_
  refine c_gfN hY hI0.1 eX7_makeStandingAnew_4 (t := 9) (i := 0) (v := .ref (B 7 1)) (by omega) rfl rfl ?_
  refine z_callV (As := []) (rest := []) hY eX7_makeStandingAnew_7 (c_clear (B := B) (κ := κ) (h := h) (r := 1) hG hI0.1 hI0.2.1.1 hD (by omega)) (cH_at (B := B) (t := 7) (i := 1) hI0.1 (by omega)) (by decide) (Nat.le_of_ble_eq_true rfl) ⟨Nat.zero_le _, Nat.zero_le _⟩ (fun _ _ q => q.elim) (fun vv1 hh1 q1 => ?_)
  obtain ⟨rfl, rfl⟩ := q1
  obtain ⟨κ2, hk2⟩ : ∃ qq, qq = kCl κ := ⟨_, rfl⟩
  refine z_heq (congrArg (fun q => cH D B q h) hk2.symm) ?_
  have hI2 : cI B κ h B κ2 h := hk2 ▸ cI_t hI0 L_Cl (S_Cl hI0.2.1.1 hI0.2.1.2)
  have hn3 : κ2 24 0 0 = κ 24 0 0 := by rw [hk2]; exact kCl_n
  have hn4 : κ2 24 1 0 = 0 := by rw [hk2]; exact kCl_1
  refine z_const hY eX7_makeStandingAnew_10 ?_
  refine z_istore hY eX7_makeStandingAnew_11 (ls' := [(1, z_i 0), (0, .ref (B 0 0))]) rfl ?_
  refine z_sub [1, 0] (ls' := [(0, .ref (B 0 0)), (1, z_i 0)]) rfl ?_
  have lp : ∀ (fu : Nat) (i : Int) (E : Int → Nat) (κx : c_K) (gx : z_H), (κ 24 0 0 - i).toNat < fu → (0 ≤ i ∧ i ≤ κ 24 0 0) → kMr κ2 i.toNat κx → (κx 24 1 0 ≤ i) → (κx 24 0 0 = κ 24 0 0) → cI B κ h (bE B E) κx gx → z_W Y 12 [(0, .ref (B 0 0)), (1, z_i i)] [] (cH D (bE B E) κx gx) (i.toNat) (45 * i.toNat) := by
    intro fu
    induction fu with
    | zero => intro i E κx gx hf; exact absurd hf (Nat.not_lt_zero _)
    | succ fu ih =>
      intro i E κx gx hf h0 hm hsz hnx hIx
      refine z_iload hY eX7_makeStandingAnew_12 1 rfl ?_
      refine z_aload hY eX7_makeStandingAnew_13 0 rfl ?_
      refine c_gf hY hIx.1 eX7_makeStandingAnew_14 (t := 0) (i := 0) (v := .ref (B 7 0)) ((hIx.2.2.2 _ _ (by decide) (by omega)).1) rfl rfl ?_
      refine z_callVr (As := []) (rest := [z_i i]) (r := z_i (κx 24 0 0)) hY eX7_makeStandingAnew_17 (c_size (B := (bE B E)) (κ := κx) hG hIx.1 hIx.2.1.2.b hIx.2.1.1 (by omega)) (cH_at (B := (bE B E)) (t := 7) (i := 0) hIx.1 ((hIx.2.2.2 _ _ (by decide) (by omega)).1)) (by decide) (Nat.le_of_ble_eq_true rfl) (by rw [hmc, hms]; omega) ?_
      refine z_icmpge hY eX7_makeStandingAnew_20 (by omega) (fun c20 => ?_) (fun c20 => ?_)
      · exact z_return hY eX7_makeStandingAnew_64 rfl (by rw [hφ]; exact ⟨rfl, _, _, _, rfl, hIx, by rw [show κ 24 0 0 = i by omega]; subst_vars; exact hm⟩) (by rw [hmc, hms]; omega)
      · refine z_aload hY eX7_makeStandingAnew_23 0 rfl ?_
        refine c_gf hY hIx.1 eX7_makeStandingAnew_24 (t := 0) (i := 0) (v := .ref (B 7 0)) ((hIx.2.2.2 _ _ (by decide) (by omega)).1) rfl rfl ?_
        refine z_iload hY eX7_makeStandingAnew_27 1 rfl ?_
        refine z_callVr (As := [z_i i]) (rest := []) (r := .ref (B 20 i)) hY eX7_makeStandingAnew_28 (c_get0 (B := (bE B E)) (κ := κx) hG hIx.1 hIx.2.1.2.b hIx.2.1.1 hIx.2.1.2 (show 0 ≤ i ∧ i < _ by omega)) (cH_at (B := (bE B E)) (t := 7) (i := 0) hIx.1 ((hIx.2.2.2 _ _ (by decide) (by omega)).1)) (by decide) (Nat.le_of_ble_eq_true rfl) (by rw [hmc, hms]; omega) ?_
        refine z_cast hY eX7_makeStandingAnew_31 (ci := 0) (nm := "StandingsHall$Entrant") (T := TX0) (N := 11) rfl (cH_at (B := (bE B E)) (t := 20) (i := i) hIx.1 ((hIx.2.2.2 _ _ (by decide) (by omega)).1)) ?_
        refine z_astore hY eX7_makeStandingAnew_34 (ls' := [(2, .ref (B 20 i)), (0, .ref (B 0 0)), (1, z_i i)]) rfl ?_
        refine z_aload hY eX7_makeStandingAnew_35 0 rfl ?_
        have hb5 := hIx.2.1.2.s36 i 0
        refine c_gf hY hIx.1 eX7_makeStandingAnew_36 (t := 20) (i := i) (v := z_i (κx 36 i 0)) ((hIx.2.2.2 _ _ (by decide) (by omega)).1) rfl rfl ?_
        refine z_ifeq hY eX7_makeStandingAnew_39 (by omega) (fun c39 => ?_) (fun c39 => ?_)
        · refine z_iinc hY eX7_makeStandingAnew_58 2 rfl (ls' := [(1, z_i (i + 1)), (2, .ref (B 20 i)), (0, .ref (B 0 0))]) rfl ?_
          refine z_goto hY eX7_makeStandingAnew_61 ?_
          refine z_sub [2, 0] (ls' := [(0, .ref (B 0 0)), (1, z_i (i + 1))]) rfl ?_
          refine z_widen (k' := (i + 1).toNat) (n' := 45 * (i + 1).toNat) (by omega) (by omega) ?_
          exact ih (i + 1) E κx gx (by omega) (by omega) (kMr_s0 h0.1 hm (by omega)) (by omega) (by omega) hIx
        · refine z_aload hY eX7_makeStandingAnew_42 1 rfl ?_
          have hb6 := hIx.2.1.2.s17 0 0
          refine c_gf hY hIx.1 eX7_makeStandingAnew_43 (t := 0) (i := 0) (v := .ref (B 4 (κx 17 0 0))) ((hIx.2.2.2 _ _ (by decide) (by omega)).1) rfl rfl ?_
          refine z_aload hY eX7_makeStandingAnew_46 0 rfl ?_
          refine z_callV (As := [.ref (B 20 i)]) (rest := []) hY eX7_makeStandingAnew_47 (t_judge (B := (bE B E)) (κ := κx) hG hIx.1 hIx.2.1.1 hIx.2.1.2 (by omega) (show -1 ≤ i ∧ i < _ by omega)) (cH_at (B := (bE B E)) (t := 4) (i := (κx 17 0 0)) hIx.1 ((hIx.2.2.2 _ _ (by decide) (by omega)).1)) (by decide) (Nat.le_of_ble_eq_true rfl) (by rw [hmc, hms]; omega) (fun _ _ q => q.elim) (fun vv7 hh7 q7 => ?_)
          obtain ⟨rfl, rfl⟩ := q7
          obtain ⟨κ8, hk8⟩ : ∃ qq, qq = kJd κx (κx 17 0 0) i := ⟨_, rfl⟩
          refine z_heq (congrArg (fun q => cH D (bE B E) q gx) hk8.symm) ?_
          have hI8 : cI B κ h (bE B E) κ8 gx := hk8 ▸ cI_t hIx (L_Jd _ _) (S_Jd hIx.2.1.1 hIx.2.1.2 _ _)
          have hn9 : κ8 24 0 0 = κx 24 0 0 := by rw [hk8]; rw [kJd_ne (by decide)]
          have hn10 : κ8 24 1 0 = κx 24 1 0 := by rw [hk8]; rw [kJd_ne (by decide)]
          have hn11 : κ8 24 2 0 = κx 24 2 0 := by rw [hk8]; rw [kJd_ne (by decide)]
          have hn12 : κ8 24 3 0 = κx 24 3 0 := by rw [hk8]; rw [kJd_ne (by decide)]
          refine z_aload hY eX7_makeStandingAnew_50 1 rfl ?_
          refine c_gf hY hI8.1 eX7_makeStandingAnew_51 (t := 0) (i := 0) (v := .ref (B 9 0)) ((hI8.2.2.2 _ _ (by decide) (by omega)).1) rfl rfl ?_
          refine z_aload hY eX7_makeStandingAnew_54 0 rfl ?_
          refine z_callV (As := [.ref (B 20 i)]) (rest := []) hY eX7_makeStandingAnew_55 (m_sput (B1 := (bE B E)) (κ1 := κ8) (h1 := gx) hG hD hM hI8 (e := i) (by omega) (by omega)) (cH_at (B := (bE B E)) (t := 9) (i := 0) hI8.1 ((hI8.2.2.2 _ _ (by decide) (by omega)).1)) (by decide) (Nat.le_of_ble_eq_true rfl) (by rw [hmc, hms]; omega) (fun _ _ q => q.elim) (fun vv13 hh13 q13 => ?_)
          obtain ⟨rfl, N13, a13, g13, rfl, hN13, hI13⟩ := q13
          obtain ⟨κ14, hk14⟩ : ∃ qq, qq = kSp κ8 i N13 := ⟨_, rfl⟩
          refine z_heq (congrArg (fun q => cH D (bU (bE B E) 1 a13) q g13) hk14.symm) ?_
          have hI14 : cI B κ h (bU (bE B E) 1 a13) κ14 g13 := hk14 ▸ hI13
          have hn15 : κ14 24 0 0 = κ8 24 0 0 := by rw [hk14]; exact kSp_n
          have hn16 : κ14 24 1 0 = κ8 24 1 0 + 1 := by rw [hk14]; exact kSp_1
          refine z_iinc hY eX7_makeStandingAnew_58 2 rfl (ls' := [(1, z_i (i + 1)), (2, .ref (B 20 i)), (0, .ref (B 0 0))]) rfl ?_
          refine z_goto hY eX7_makeStandingAnew_61 ?_
          refine z_sub [2, 0] (ls' := [(0, .ref (B 0 0)), (1, z_i (i + 1))]) rfl ?_
          refine z_widen (k' := (i + 1).toNat) (n' := 45 * (i + 1).toNat) (by omega) (by omega) ?_
          refine z_heq (congrArg (fun b => cH D b κ14 g13) bE_u) ?_
          exact ih (i + 1) (fun j => if j = 1 then a13 else E j) κ14 g13 (by omega) (by omega) (by subst_vars; exact kMr_s1 h0.1 hm (by omega)) (by omega) (by omega) (bE_u ▸ hI14)
  refine z_heq (congrArg (fun b => cH D b κ2 h) bE_0) ?_
  exact lp _ 0 (B 8) κ2 h (Nat.lt_succ_self _) (by omega) rfl (by omega) (by omega) (bE_0 ▸ hI2)
end D6
