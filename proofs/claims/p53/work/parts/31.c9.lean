/-! The standing, the row of points, the ladder: what they change (laid by wip/whole/gen/gm31.py). -/
section C9
def kNp (κ : c_K) : Nat → c_K
  | 0 => κ
  | m + 1 => k_u (kNp κ m) 37 (κ 20 1 m) 0 (m + 1)
theorem kNp_ne {κ : c_K} {k : Nat} (h : k ≠ 37) : ∀ m, kNp κ m k = κ k := by
  intro m
  induction m with
  | zero => rfl
  | succ m ih => exact (k_u_ne h).trans ih
theorem kNp_S {κ : c_K} {i : Int} (h : 0 ≤ i) : k_u (kNp κ i.toNat) 37 (κ 20 1 i) 0 (i + 1) = kNp κ (i + 1).toNat := by
  rw [show (i + 1).toNat = i.toNat + 1 by omega]
  show _ = k_u (kNp κ i.toNat) 37 (κ 20 1 (i.toNat : Int)) 0 ((i.toNat : Int) + 1)
  rw [Int.toNat_of_nonneg h]
theorem cV_Np {κ : c_K} (hV : cV κ) (m : Nat) : cV (kNp κ m) := cV_of hV fun k hk => kNp_ne (by omega) m
theorem cL_Np {κ : c_K} (m : Nat) (t : Nat) (i : Int) : cL (kNp κ m) t i ↔ cL κ t i := cL_other (by rw [kNp_ne (by decide)]) (fun i => by rw [kNp_ne (by decide)]) t i
theorem cJ_Np {B : Nat → Int → Nat} {κ : c_K} (hJ : cJ B κ) (m : Nat) : cJ B (kNp κ m) := cJ_of hJ (cL_Np m)
/-- the places numbered anew -/
def kNa (κ : c_K) : c_K := kNp κ (κ 24 1 0).toNat
theorem cV_Ad {κ : c_K} (hV : cV κ) {r mo N : Int} {f : Int → Int} (hr : 1 ≤ r ∧ r ≤ 3) (hs : κ 24 r 0 + 1 ≤ κ 24 0 0) (hN : κ 24 r 0 + 1 ≤ N ∧ N ≤ 45) (hf : ∀ j, 0 ≤ j → j < κ 24 r 0 + 1 → 0 ≤ f j ∧ f j < κ 24 0 0) : cV (kAd κ r f mo N) := by
  have e0 : kAd κ r f mo N 24 0 0 = κ 24 0 0 := by rw [kAd_ni (by omega)]
  obtain ⟨h1, h2, h3, h4, h5, h6⟩ := hV
  refine ⟨by rw [e0]; exact h1, fun q a b => ?_, fun q j a b c d => ?_, by rw [kAd_ne (by decide)]; exact h4, by rw [kAd_ne (by decide)]; exact h5, by rw [kAd_ne (by decide)]; exact h6⟩
  · rw [e0]
    by_cases hq : q = r
    · subst hq
      rw [kAd_24, kAd_26]
      have := h2 q a b
      omega
    · rw [kAd_ni hq, kAd_ni hq]
      exact h2 q a b
  · rw [e0]
    by_cases hq : q = r
    · subst hq
      rw [kAd_24] at d
      rw [kAd_20]
      exact hf j c d
    · rw [kAd_ni hq] at d ⊢
      exact h3 q j a b c d
theorem cV_Rw {κ : c_K} (hV : cV κ) {r mo n : Int} {f : Int → Int} (hr : 1 ≤ r ∧ r ≤ 3) (hn : 0 ≤ n ∧ n ≤ κ 24 r 0) (hf : ∀ j, 0 ≤ j → j < n → 0 ≤ f j ∧ f j < κ 24 0 0) : cV (kRw κ r f n mo) := by
  have e0 : kRw κ r f n mo 24 0 0 = κ 24 0 0 := by rw [kRw_ni (by omega)]
  obtain ⟨h1, h2, h3, h4, h5, h6⟩ := hV
  refine ⟨by rw [e0]; exact h1, fun q a b => ?_, fun q j a b c d => ?_, by rw [kRw_ne (by decide)]; exact h4, by rw [kRw_ne (by decide)]; exact h5, by rw [kRw_ne (by decide)]; exact h6⟩
  · rw [e0]
    by_cases hq : q = r
    · subst hq
      rw [kRw_24, kRw_ne (by decide)]
      have := h2 q a b
      omega
    · rw [kRw_ni hq, kRw_ni hq]
      exact h2 q a b
  · rw [e0]
    by_cases hq : q = r
    · subst hq
      rw [kRw_24] at d
      rw [kRw_20]
      exact hf j c d
    · rw [kRw_ni hq] at d ⊢
      exact h3 q j a b c d
theorem fIn_b {κ : c_K} (hV : cV κ) {r i e : Int} (hr : 0 ≤ r ∧ r ≤ 3) (hi : 0 ≤ i ∧ i ≤ κ 24 r 0) (he : 0 ≤ e ∧ e < κ 24 0 0) : ∀ j, 0 ≤ j → j < κ 24 r 0 + 1 → 0 ≤ fIn κ r i e j ∧ fIn κ r i e j < κ 24 0 0 := by
  intro j h1 h2
  unfold fIn
  split
  · exact hV.2.2.1 r j hr.1 hr.2 h1 (by omega)
  · split
    · exact he
    · exact hV.2.2.1 r (j - 1) hr.1 hr.2 (by omega) (by omega)
theorem fDl_b {κ : c_K} (hV : cV κ) {r i : Int} (hr : 0 ≤ r ∧ r ≤ 3) (hi : 0 ≤ i ∧ i < κ 24 r 0) : ∀ j, 0 ≤ j → j < κ 24 r 0 - 1 → 0 ≤ fDl κ r i j ∧ fDl κ r i j < κ 24 0 0 := by
  intro j h1 h2
  unfold fDl
  split
  · exact hV.2.2.1 r j hr.1 hr.2 h1 (by omega)
  · exact hV.2.2.1 r (j + 1) hr.1 hr.2 (by omega) (by omega)
theorem cFr_t {D : Nat} {B B' : Nat → Int → Nat} {κ κ' κ'' : c_K} {h h' : z_H} (hF : cFr D B κ h B' κ' h') (hLL : ∀ t i, cL κ'' t i ↔ cL κ' t i) : cFr D B κ h B' κ'' h' := ⟨hF.1, hF.2.1, fun t i hl => hF.2.2 t i ((hLL t i).mp hl)⟩
theorem cFr_l {D : Nat} {B B' : Nat → Int → Nat} {κ κ1 κ' : c_K} {h h' : z_H} (hJ : cJ B κ) (hLL : ∀ t i, cL κ1 t i ↔ cL κ t i) (hF : cFr D B κ1 h B' κ' h') : cFr D B κ h B' κ' h' := by
  refine ⟨fun x hx => hF.1 x (fun t i hl => hx t i ((hLL t i).mp hl)), fun t i ht hl => hF.2.1 t i ht ((hLL t i).mpr hl), fun t i hl => ?_⟩
  rcases hF.2.2 t i hl with ⟨q1, q2⟩ | q
  · exact Or.inl ⟨(hLL t i).mp q1, q2⟩
  · refine Or.inr ?_
    by_cases hx : ∃ t' i', cL κ t' i' ∧ B t' i' = B' t i
    · obtain ⟨t', i', q1, q2⟩ := hx
      rw [← q2, cH_at (cJ_of hJ hLL) ((hLL t' i').mpr q1)] at q
      cases q
    · rw [cH_no (fun t' i' q1 q2 => hx ⟨t', i', q1, q2⟩)]
      rw [cH_no (fun t' i' q1 q2 => hx ⟨t', i', (hLL t' i').mp q1, q2⟩)] at q
      exact q
def sW (κ : c_K) (e : Int) : Int := z_fw (fun i => hI κ (κ 20 1 i) e ≠ 0) (κ 24 1 0)
def pW (κ : c_K) (e : Int) : Int := z_fw (fun i => κ 30 (κ 20 2 i) 0 ≤ κ 30 e 0) (κ 24 2 0)
/-- an end of putting one into the standing -/
def sPut (D : Nat) (B : Nat → Int → Nat) (κ : c_K) (h : z_H) (e : Int) (h' : z_H) : Prop := ∃ (e1 : Nat) (N1 : Int) (h2 : z_H), h' = cH D (bU B 1 e1) (kNa (kAd κ 1 (fIn κ 1 (sW κ e) e) (kW (κ 25 1 0)) N1)) h2 ∧ cJ (bU B 1 e1) (kNa (kAd κ 1 (fIn κ 1 (sW κ e) e) (kW (κ 25 1 0)) N1)) ∧ (κ 24 1 0 + 1 ≤ N1 ∧ 0 < N1 ∧ N1 ≤ 45) ∧ cFr D B κ h (bU B 1 e1) (kNa (kAd κ 1 (fIn κ 1 (sW κ e) e) (kW (κ 25 1 0)) N1)) h2
def kTa (κ : c_K) (e : Int) : c_K := kNa (if 1 ≤ κ 37 e 0 ∧ κ 37 e 0 ≤ κ 24 1 0 then kRw κ 1 (fDl κ 1 (κ 37 e 0 - 1)) (κ 24 1 0 - 1) (kW (κ 25 1 0)) else κ)
def kTp (κ : c_K) (e : Int) : c_K := if z_ff (fun i => κ 20 2 i = e) (κ 24 2 0) = -1 then κ else kRw κ 2 (fDl κ 2 (z_ff (fun i => κ 20 2 i = e) (κ 24 2 0))) (κ 24 2 0 - 1) (kW (κ 25 2 0))
def kTl (κ : c_K) (e : Int) : c_K := if cLp κ e = -1 then κ else kRw κ 3 (fDl κ 3 (cLp κ e - 1)) (κ 24 3 0 - 1) (kW (κ 25 3 0))
/-- the ladder when those fall that have not played: from the lowest but one up -/
def kFs (κ : c_K) (a : Int) : Nat → c_K
  | 0 => κ
  | j + 1 => if κ 39 (κ 20 3 (κ 24 3 0 - 2 - j)) 0 ≤ a ∧ κ 40 (κ 20 3 (κ 24 3 0 - 2 - j)) 0 < a then k_u (k_u (kFs κ a j) 20 3 (κ 24 3 0 - 2 - j) (kFs κ a j 20 3 (κ 24 3 0 - 2 - j + 1))) 20 3 (κ 24 3 0 - 2 - j + 1) (κ 20 3 (κ 24 3 0 - 2 - j)) else kFs κ a j
theorem kFs_ne {κ : c_K} {a : Int} {k : Nat} (h : k ≠ 20) : ∀ j, kFs κ a j k = κ k := by
  intro j
  induction j with
  | zero => rfl
  | succ j ih =>
    unfold kFs
    split
    · rw [k_u_ne h, k_u_ne h, ih]
    · exact ih
theorem kFs_ni {κ : c_K} {a q : Int} (h : q ≠ 3) : ∀ j, kFs κ a j 20 q = κ 20 q := by
  intro j
  induction j with
  | zero => rfl
  | succ j ih =>
    unfold kFs
    split
    · rw [k_u_ni h, k_u_ni h, ih]
    · exact ih
theorem kFs_lo {κ : c_K} {a : Int} : ∀ (j : Nat) (i : Int), i ≤ κ 24 3 0 - 2 - j → kFs κ a j 20 3 i = κ 20 3 i := by
  intro j
  induction j with
  | zero => intro i _; rfl
  | succ j ih =>
    intro i hi
    unfold kFs
    split
    · rw [k_u_eq, k_u_eq]
      unfold z_up
      rw [if_neg (by omega), if_neg (by omega)]
      exact ih i (by omega)
    · exact ih i (by omega)
theorem kFs_b {κ : c_K} (hV : cV κ) {a : Int} : ∀ (j : Nat) (i : Int), (j : Int) ≤ κ 24 3 0 - 1 → 0 ≤ i → i < κ 24 3 0 → 0 ≤ kFs κ a j 20 3 i ∧ kFs κ a j 20 3 i < κ 24 0 0 := by
  intro j
  induction j with
  | zero => intro i _ h1 h2; exact hV.2.2.1 3 i (by omega) (by omega) h1 h2
  | succ j ih =>
    intro i hj h1 h2
    unfold kFs
    split
    · rw [k_u_eq, k_u_eq]
      unfold z_up
      split
      · exact hV.2.2.1 3 _ (by omega) (by omega) (by omega) (by omega)
      · split
        · exact ih _ (by omega) (by omega) (by omega)
        · exact ih _ (by omega) h1 h2
    · exact ih _ (by omega) h1 h2
theorem k_u_24 {κ : c_K} {i j v : Int} : k_u κ 20 i j v 24 = κ 24 := k_u_ne (by decide)
theorem cV_20 {κ : c_K} (hV : cV κ) {r j v : Int} (hv : 0 ≤ v ∧ v < κ 24 0 0) : cV (k_u κ 20 r j v) := by
  obtain ⟨h1, h2, h3, h4, h5, h6⟩ := hV
  refine ⟨h1, h2, fun q i a b c d => ?_, h4, h5, h6⟩
  have h7 := h3 q i a b c (by rw [k_u_ne (by decide)] at d; exact d)
  rw [k_u_ne (k := 20) (k' := 24) (by decide)]
  unfold k_u
  (repeat' split) <;> omega
theorem cV_Fs {κ : c_K} (hV : cV κ) {a : Int} : ∀ j : Nat, (j : Int) ≤ κ 24 3 0 - 1 → cV (kFs κ a j) := by
  intro j
  induction j with
  | zero => intro _; exact hV
  | succ j ih =>
    intro hj
    unfold kFs
    split
    · refine cV_20 (cV_20 (ih (by omega)) ?_) ?_
      · rw [kFs_ne (k := 24) (by decide)]
        exact kFs_b hV j _ (by omega) (by omega) (by omega)
      · rw [k_u_ne (k := 20) (k' := 24) (by decide), kFs_ne (k := 24) (by decide)]
        exact hV.2.2.1 3 _ (by omega) (by omega) (by omega) (by omega)
    · exact ih (by omega)
theorem cL_Fs {κ : c_K} {a : Int} (j : Nat) (t : Nat) (i : Int) : cL (kFs κ a j) t i ↔ cL κ t i := cL_other (by rw [kFs_ne (by decide)]) (fun i => by rw [kFs_ne (by decide)]) t i
theorem kFs_s {κ : c_K} {a i : Int} (h : 0 ≤ i ∧ i ≤ κ 24 3 0 - 2) (hc : ¬ (κ 39 (κ 20 3 i) 0 ≤ a ∧ κ 40 (κ 20 3 i) 0 < a)) : kFs κ a (κ 24 3 0 - 2 - i).toNat = kFs κ a (κ 24 3 0 - 2 - (i - 1)).toNat := by
  rw [show (κ 24 3 0 - 2 - (i - 1)).toNat = (κ 24 3 0 - 2 - i).toNat + 1 by omega]
  show _ = ite _ _ _
  have e : κ 24 3 0 - 2 - (((κ 24 3 0 - 2 - i).toNat : Nat) : Int) = i := by omega
  rw [e, if_neg hc]
theorem kFs_w {κ : c_K} {a i : Int} (h : 0 ≤ i ∧ i ≤ κ 24 3 0 - 2) (hc : κ 39 (κ 20 3 i) 0 ≤ a ∧ κ 40 (κ 20 3 i) 0 < a) : k_u (k_u (kFs κ a (κ 24 3 0 - 2 - i).toNat) 20 3 i (kFs κ a (κ 24 3 0 - 2 - i).toNat 20 3 (i + 1))) 20 3 (i + 1) (κ 20 3 i) = kFs κ a (κ 24 3 0 - 2 - (i - 1)).toNat := by
  rw [show (κ 24 3 0 - 2 - (i - 1)).toNat = (κ 24 3 0 - 2 - i).toNat + 1 by omega]
  show _ = ite _ _ _
  have e : κ 24 3 0 - 2 - (((κ 24 3 0 - 2 - i).toNat : Nat) : Int) = i := by omega
  rw [e, if_pos hc]
/-- the ladder behind a round that ends with the first round a of the patience -/
def kFa (κ : c_K) (a : Int) : c_K := if κ 24 3 0 < 2 then κ else kFs κ a (κ 24 3 0 - 1).toNat
def kRs (κ : c_K) (p : Int) : c_K := kRw κ 3 (fDl κ 3 (p - 1)) (κ 24 3 0 - 1) (kW (κ 25 3 0))

theorem c_getV {G : z_G} {D : Nat} {B : Nat → Int → Nat} {κ : c_K} {h : z_H} (hG : z_OK G) (hJ : cJ B κ) (hV : cV κ) {r : Int} (hr : 0 ≤ r ∧ r ≤ 3) {j : Int} (hj : 0 ≤ j ∧ j < κ 24 r 0) : z_Tr G mJx4a65c_get_915e3 [.ref (B 7 r), z_i j] (cH D B κ h) 2 (.ref (B 20 (κ 20 r j))) := by
  have h1 := hV.2.1 r hr.1 hr.2
  have hc : (0 : Int) < κ 26 r 0 := by omega
  refine al_get (mo := κ 25 r 0) (e := B 8 r) (N := (κ 26 r 0).toNat) (l := fun j => B 20 (κ 20 r j)) hG ((cH_at (D := D) (h := h) hJ (t := 7) (i := r) (by omega)).trans ?_) (cH_at (D := D) (h := h) hJ (t := 8) (i := r) (by omega)) (by omega) hj
  show some (z_ob 9 [z_i (κ 25 r 0), .ref (if 0 < κ 26 r 0 then B 8 r else D), z_i (κ 24 r 0)]) = _
  rw [if_pos hc]
theorem s_numberPlaces {G : z_G} {D : Nat} {B : Nat → Int → Nat} {κ : c_K} {h : z_H} (hG : z_OK G) (hJ : cJ B κ) (hV : cV κ)  : z_T G mX5_numberPlaces [.ref (B 9 0)] (cH D B κ h) 3 0 0 (fun v h' => v = none ∧ h' = cH D B (kNa κ) h) (z_no) := by
  obtain ⟨hn, hsz, hrw, hcu, htl, hth⟩ := id hV
  have hs0 := hsz 0 (by omega) (by omega)
  have hs1 := hsz 1 (by omega) (by omega)
  have hs2 := hsz 2 (by omega) (by omega)
  have hs3 := hsz 3 (by omega) (by omega)
  refine z_T_of hG pX5_numberPlaces (Nat.le_of_ble_eq_true rfl) (ls0 := [(0, .ref (B 9 0))]) rfl fun Y hY hg hmc hms hφ hψ => ?_
  subst hg
  refine z_const hY eX5_numberPlaces_0 ?_
  refine z_istore hY eX5_numberPlaces_1 (ls' := [(1, z_i 0), (0, .ref (B 9 0))]) rfl ?_
  refine z_sub [1, 0] (ls' := [(0, .ref (B 9 0)), (1, z_i 0)]) rfl ?_
  have lp : ∀ (fu : Nat) (i : Int), (κ 24 1 0 - i).toNat < fu → (0 ≤ i ∧ i ≤ κ 24 1 0) → z_W Y 2 [(0, .ref (B 9 0)), (1, z_i i)] [] (cH D B (kNp κ i.toNat) h) 0 0 := by
    intro fu
    induction fu with
    | zero => intro i hf; exact absurd hf (Nat.not_lt_zero _)
    | succ fu ih =>
      intro i hf h0
      refine z_iload hY eX5_numberPlaces_2 1 rfl ?_
      refine z_aload hY eX5_numberPlaces_3 0 rfl ?_
      refine c_gf hY (cJ_Np hJ i.toNat) eX5_numberPlaces_4 (t := 9) (i := 0) (v := .ref (B 7 1)) ((cL_Np _ _ _).mpr (by omega)) rfl rfl ?_
      refine z_callVr (As := []) (rest := [z_i i]) (r := z_i (κ 24 1 0)) hY eX5_numberPlaces_7 ((congrFun (congrFun (kNp_ne (κ := κ) (k := 24) (by decide) i.toNat) 1) 0) ▸ al_size hG (cH_at (t := 7) (i := 1) (cJ_Np hJ i.toNat) ((cL_Np i.toNat _ _).mpr (by omega)))) (cH_at (t := 7) (i := 1) (cJ_Np hJ i.toNat) ((cL_Np _ _ _).mpr (by omega))) (by decide) (Nat.le_of_ble_eq_true rfl) ⟨Nat.zero_le _, Nat.zero_le _⟩ ?_
      refine z_icmpge hY eX5_numberPlaces_10 (by omega) (fun c10 => ?_) (fun c10 => ?_)
      · exact z_return hY eX5_numberPlaces_36 rfl (by rw [hφ]; exact ⟨rfl, by rw [show i = κ 24 1 0 by omega]; rfl⟩) ⟨Nat.zero_le _, Nat.zero_le _⟩
      · refine z_aload hY eX5_numberPlaces_13 0 rfl ?_
        refine c_gf hY (cJ_Np hJ i.toNat) eX5_numberPlaces_14 (t := 9) (i := 0) (v := .ref (B 7 1)) ((cL_Np _ _ _).mpr (by omega)) rfl rfl ?_
        refine z_iload hY eX5_numberPlaces_17 1 rfl ?_
        refine z_callVr (As := [z_i i]) (rest := []) (r := .ref (B 20 (κ 20 1 i))) hY eX5_numberPlaces_18 ((congrFun (congrFun (kNp_ne (κ := κ) (k := 20) (by decide) i.toNat) 1) i) ▸ c_getV (κ := kNp κ i.toNat) hG (cJ_Np hJ _) (cV_Np hV _) (r := 1) (by omega) (j := i) (by rw [kNp_ne (by decide)]; omega)) (cH_at (t := 7) (i := 1) (cJ_Np hJ i.toNat) ((cL_Np _ _ _).mpr (by omega))) (by decide) (Nat.le_of_ble_eq_true rfl) ⟨Nat.zero_le _, Nat.zero_le _⟩ ?_
        have hrw1 := hrw 1 i (by omega) (by omega) (by omega) (by omega)
        refine z_cast hY eX5_numberPlaces_21 (ci := 0) (nm := "StandingsHall$Entrant") (T := TX0) (N := 11) rfl (cH_at (t := 20) (i := (κ 20 1 i)) (cJ_Np hJ i.toNat) ((cL_Np _ _ _).mpr (by omega))) ?_
        refine z_iload hY eX5_numberPlaces_24 1 rfl ?_
        refine z_const hY eX5_numberPlaces_25 ?_
        refine z_iadd hY eX5_numberPlaces_26 ?_
        refine c_pf hY (cJ_Np hJ i.toNat) eX5_numberPlaces_27 (key := 37) (t := 20) (i := (κ 20 1 i)) (by decide) rfl ((cL_Np _ _ _).mpr (by omega)) rfl (Nat.le_of_ble_eq_true rfl) (by simp [cC, k_u, k_r]) ?_
        refine z_iinc hY eX5_numberPlaces_30 1 rfl (ls' := [(1, z_i (i + 1)), (0, .ref (B 9 0))]) rfl ?_
        refine z_goto hY eX5_numberPlaces_33 ?_
        refine z_sub [1, 0] (ls' := [(0, .ref (B 9 0)), (1, z_i (i + 1))]) rfl ?_
        refine z_heq (congrArg (fun q => cH D B q h) (show k_u (kNp κ i.toNat) 37 (κ 20 1 i) 0 (i + 1) = kNp κ (i + 1).toNat from kNp_S h0.1)) ?_
        exact ih (i + 1) (by omega) (by omega)
  exact lp _ 0 (Nat.lt_succ_self _) (by omega)
theorem s_put {G : z_G} {D : Nat} {B : Nat → Int → Nat} {κ : c_K} {h : z_H} (hG : z_OK G) (hD : D = z_dc G) (hJ : cJ B κ) (hB : cB κ) (hV : cV κ) (hM : z_MI G) {e : Int} (he : 0 ≤ e ∧ e < κ 24 0 0) (hroom : κ 24 1 0 + 1 ≤ κ 24 0 0) : z_T G mX5_put [.ref (B 9 0), .ref (B 20 e)] (cH D B κ h) 7 1 45 (fun v h' => v = none ∧ sPut D B κ h e h') (z_no) := by
  obtain ⟨hn, hsz, hrw, hcu, htl, hth⟩ := id hV
  have hs0 := hsz 0 (by omega) (by omega)
  have hs1 := hsz 1 (by omega) (by omega)
  have hs2 := hsz 2 (by omega) (by omega)
  have hs3 := hsz 3 (by omega) (by omega)
  refine z_T_of hG pX5_put (Nat.le_of_ble_eq_true rfl) (ls0 := [(0, .ref (B 9 0)), (1, .ref (B 20 e))]) rfl fun Y hY hg hmc hms hφ hψ => ?_
  subst hg
  refine z_const hY eX5_put_0 ?_
  refine z_istore hY eX5_put_1 (ls' := [(2, z_i 0), (0, .ref (B 9 0)), (1, .ref (B 20 e))]) rfl ?_
  refine z_const hY eX5_put_2 ?_
  refine z_istore hY eX5_put_3 (ls' := [(3, z_i 0), (2, z_i 0), (0, .ref (B 9 0)), (1, .ref (B 20 e))]) rfl ?_
  refine z_sub [2, 3, 0, 1] (ls' := [(0, .ref (B 9 0)), (1, .ref (B 20 e)), (3, z_i 0), (2, z_i 0)]) rfl ?_
  have lp4 : ∀ (fu : Nat) (i : Int) (n : Int), (κ 24 1 0 - i).toNat < fu → (0 ≤ i ∧ i ≤ κ 24 1 0) → (n = i) → (z_fwL (fun i => hI κ (κ 20 1 i) e ≠ 0) (κ 24 1 0 - i).toNat i = sW κ e) → z_W Y 4 [(0, .ref (B 9 0)), (1, .ref (B 20 e)), (3, z_i i), (2, z_i n)] [] (cH D B κ h) 0 0 := by
    intro fu
    induction fu with
    | zero => intro i n hf; exact absurd hf (Nat.not_lt_zero _)
    | succ fu ih4 =>
      intro i n hf h0 hni hn
      refine z_iload hY eX5_put_4 2 rfl ?_
      refine z_aload hY eX5_put_5 0 rfl ?_
      refine c_gf hY hJ eX5_put_6 (t := 9) (i := 0) (v := .ref (B 7 1)) (by omega) rfl rfl ?_
      refine z_callVr (As := []) (rest := [z_i i]) (r := z_i (κ 24 1 0)) hY eX5_put_9 (c_size hG hJ hB hV (by omega)) (cH_at (t := 7) (i := 1) hJ (by omega)) (by decide) (Nat.le_of_ble_eq_true rfl) ⟨Nat.zero_le _, Nat.zero_le _⟩ ?_
      refine z_icmpge hY eX5_put_12 (by omega) (fun c12 => ?_) (fun c12 => ?_)
      · have hsw : sW κ e = n := by rw [hni, ← hn]; exact z_fw_f (by omega)
        refine z_aload hY eX5_put_43 0 rfl ?_
        refine c_gf hY hJ eX5_put_44 (t := 9) (i := 0) (v := .ref (B 7 1)) (by omega) rfl rfl ?_
        refine z_iload hY eX5_put_47 3 rfl ?_
        refine z_aload hY eX5_put_48 1 rfl ?_
        refine z_callV (As := [z_i n, .ref (B 20 e)]) (rest := []) hY eX5_put_49 (c_ins (κ := κ) (r := 1) (e := e) (i := n) hG hJ hV (by subst hD; rfl) hM (by omega) (by omega) (by omega)) (cH_at (t := 7) (i := 1) hJ (by omega)) (by decide) (Nat.le_of_ble_eq_true rfl) (by rw [hmc, hms]; omega) (fun _ _ q => q.elim) (fun vv1 hh1 q1 => ?_)
        obtain ⟨rfl, e1, N1, h2, rfl, hJ1, hN1, hF1⟩ := q1
        have hV1 : cV (kAd κ 1 (fIn κ 1 n e) (kW (κ 25 1 0)) N1) := cV_Ad hV (by omega) (by omega) (by omega) (fIn_b hV (by omega) (by omega) (by omega))
        refine z_aload hY eX5_put_52 0 rfl ?_
        refine z_callV (As := []) (rest := []) hY eX5_put_53 (s_numberPlaces (κ := (kAd κ 1 (fIn κ 1 n e) (kW (κ 25 1 0)) N1)) (B := bU B 1 e1) hG hJ1 hV1) (cH_at (B := bU B 1 e1) (t := 9) (i := 0) hJ1 ((cL_Ad (by omega) (by omega) _ _).mpr (Or.inl (by omega)))) (by decide) (Nat.le_of_ble_eq_true rfl) (by rw [hmc, hms]; omega) (fun _ _ q => q.elim) (fun vv2 hh2 q2 => ?_)
        obtain ⟨rfl, rfl⟩ := q2
        exact z_return hY eX5_put_56 rfl (by rw [hφ]; exact ⟨rfl, e1, N1, h2, by rw [hsw], by rw [hsw]; exact cJ_Np hJ1 _, by omega, by rw [hsw]; exact cFr_t hF1 (cL_Np _)⟩) (by rw [hmc, hms]; omega)
      · refine z_aload hY eX5_put_15 0 rfl ?_
        refine c_gf hY hJ eX5_put_16 (t := 9) (i := 0) (v := .ref (B 7 1)) (by omega) rfl rfl ?_
        refine z_iload hY eX5_put_19 2 rfl ?_
        refine z_callVr (As := [z_i i]) (rest := []) (r := .ref (B 20 (κ 20 1 i))) hY eX5_put_20 (c_get hG hJ hB hV (by omega) (by omega)) (cH_at (t := 7) (i := 1) hJ (by omega)) (by decide) (Nat.le_of_ble_eq_true rfl) ⟨Nat.zero_le _, Nat.zero_le _⟩ ?_
        have hc3 := hrw 1 i (by omega) (by omega) (by omega) (by omega)
        refine z_cast hY eX5_put_23 (ci := 0) (nm := "StandingsHall$Entrant") (T := TX0) (N := 11) rfl (cH_at (t := 20) (i := (κ 20 1 i)) hJ (by omega)) ?_
        refine z_aload hY eX5_put_26 1 rfl ?_
        refine z_callVr (As := [.ref (B 20 e)]) (rest := []) (r := z_i (hI κ (κ 20 1 i) e)) hY eX5_put_27 (e_isAheadOf hG hJ hB hV (by omega) (by omega)) (cH_at (t := 20) (i := (κ 20 1 i)) hJ (by omega)) (by decide) (Nat.le_of_ble_eq_true rfl) ⟨Nat.zero_le _, Nat.zero_le _⟩ ?_
        have hc4 := hI_b κ (κ 20 1 i) e
        refine z_ifeq hY eX5_put_30 (by omega) (fun c30 => ?_) (fun c30 => ?_)
        · have hsw : sW κ e = n := by rw [hni, ← hn]; exact z_fw_f (by omega)
          refine z_aload hY eX5_put_43 0 rfl ?_
          refine c_gf hY hJ eX5_put_44 (t := 9) (i := 0) (v := .ref (B 7 1)) (by omega) rfl rfl ?_
          refine z_iload hY eX5_put_47 3 rfl ?_
          refine z_aload hY eX5_put_48 1 rfl ?_
          refine z_callV (As := [z_i n, .ref (B 20 e)]) (rest := []) hY eX5_put_49 (c_ins (κ := κ) (r := 1) (e := e) (i := n) hG hJ hV (by subst hD; rfl) hM (by omega) (by omega) (by omega)) (cH_at (t := 7) (i := 1) hJ (by omega)) (by decide) (Nat.le_of_ble_eq_true rfl) (by rw [hmc, hms]; omega) (fun _ _ q => q.elim) (fun vv5 hh5 q5 => ?_)
          obtain ⟨rfl, e1, N1, h2, rfl, hJ1, hN1, hF1⟩ := q5
          have hV1 : cV (kAd κ 1 (fIn κ 1 n e) (kW (κ 25 1 0)) N1) := cV_Ad hV (by omega) (by omega) (by omega) (fIn_b hV (by omega) (by omega) (by omega))
          refine z_aload hY eX5_put_52 0 rfl ?_
          refine z_callV (As := []) (rest := []) hY eX5_put_53 (s_numberPlaces (κ := (kAd κ 1 (fIn κ 1 n e) (kW (κ 25 1 0)) N1)) (B := bU B 1 e1) hG hJ1 hV1) (cH_at (B := bU B 1 e1) (t := 9) (i := 0) hJ1 ((cL_Ad (by omega) (by omega) _ _).mpr (Or.inl (by omega)))) (by decide) (Nat.le_of_ble_eq_true rfl) (by rw [hmc, hms]; omega) (fun _ _ q => q.elim) (fun vv6 hh6 q6 => ?_)
          obtain ⟨rfl, rfl⟩ := q6
          exact z_return hY eX5_put_56 rfl (by rw [hφ]; exact ⟨rfl, e1, N1, h2, by rw [hsw], by rw [hsw]; exact cJ_Np hJ1 _, by omega, by rw [hsw]; exact cFr_t hF1 (cL_Np _)⟩) (by rw [hmc, hms]; omega)
        · refine z_iload hY eX5_put_33 2 rfl ?_
          refine z_const hY eX5_put_34 ?_
          refine z_iadd hY eX5_put_35 ?_
          refine z_istore hY eX5_put_36 (ls' := [(2, z_i (i + 1)), (0, .ref (B 9 0)), (1, .ref (B 20 e)), (3, z_i i)]) rfl ?_
          refine z_iinc hY eX5_put_37 3 rfl (ls' := [(3, z_i (i + 1)), (2, z_i (i + 1)), (0, .ref (B 9 0)), (1, .ref (B 20 e))]) rfl ?_
          refine z_goto hY eX5_put_40 ?_
          refine z_sub [2, 3, 0, 1] (ls' := [(0, .ref (B 9 0)), (1, .ref (B 20 e)), (3, z_i (i + 1)), (2, z_i (i + 1))]) rfl ?_
          exact ih4 (i + 1) (i + 1) (by omega) (by omega) (by omega) ((z_fw_t (by omega) (by omega)).symm.trans hn)
  exact lp4 _ 0 0 (Nat.lt_succ_self _) (by omega) rfl rfl
theorem s_take {G : z_G} {D : Nat} {B : Nat → Int → Nat} {κ : c_K} {h : z_H} (hG : z_OK G) (hJ : cJ B κ) (hB : cB κ) (hV : cV κ) {e : Int} (he : -1 ≤ e ∧ e < κ 24 0 0) (hp : -1 ≤ κ 37 e 0 ∧ κ 37 e 0 ≤ 30) : z_T G mX5_take [.ref (B 9 0), .ref (B 20 e)] (cH D B κ h) 4 0 0 (fun v h' => v = none ∧ h' = cH D B (kTa κ e) h) (z_no) := by
  obtain ⟨hn, hsz, hrw, hcu, htl, hth⟩ := id hV
  have hs0 := hsz 0 (by omega) (by omega)
  have hs1 := hsz 1 (by omega) (by omega)
  have hs2 := hsz 2 (by omega) (by omega)
  have hs3 := hsz 3 (by omega) (by omega)
  refine z_T_of hG pX5_take (Nat.le_of_ble_eq_true rfl) (ls0 := [(0, .ref (B 9 0)), (1, .ref (B 20 e))]) rfl fun Y hY hg hmc hms hφ hψ => ?_
  subst hg
  refine z_aload hY eX5_take_0 1 rfl ?_
  have hb1 := hB 37 e 0
  refine c_gf hY hJ eX5_take_1 (t := 20) (i := e) (v := z_i (κ 37 e 0)) (by omega) rfl rfl ?_
  refine z_const hY eX5_take_4 ?_
  refine z_isub hY eX5_take_5 ?_
  refine z_istore hY eX5_take_6 (ls' := [(2, z_i ((κ 37 e 0) - 1)), (0, .ref (B 9 0)), (1, .ref (B 20 e))]) rfl ?_
  refine z_iload hY eX5_take_7 0 rfl ?_
  refine z_iflt hY eX5_take_8 (by omega) (fun c8 => ?_) (fun c8 => ?_)
  · refine z_aload hY eX5_take_31 1 rfl ?_
    refine z_callV (As := []) (rest := []) hY eX5_take_32 (s_numberPlaces (κ := κ) (B := B) hG hJ hV) (cH_at (t := 9) (i := 0) hJ (by omega)) (by decide) (Nat.le_of_ble_eq_true rfl) ⟨Nat.zero_le _, Nat.zero_le _⟩ (fun _ _ q => q.elim) (fun vv2 hh2 q2 => ?_)
    obtain ⟨rfl, rfl⟩ := q2
    exact z_return hY eX5_take_35 rfl (by rw [hφ]; exact ⟨rfl, congrArg (fun q => cH D B q h) (by unfold kTa; first | rw [if_pos (by omega)] | rw [if_neg (by omega)])⟩) ⟨Nat.zero_le _, Nat.zero_le _⟩
  · refine z_iload hY eX5_take_11 0 rfl ?_
    refine z_aload hY eX5_take_12 1 rfl ?_
    refine c_gf hY hJ eX5_take_13 (t := 9) (i := 0) (v := .ref (B 7 1)) (by omega) rfl rfl ?_
    refine z_callVr (As := []) (rest := [z_i ((κ 37 e 0) - 1)]) (r := z_i (κ 24 1 0)) hY eX5_take_16 (c_size hG hJ hB hV (by omega)) (cH_at (t := 7) (i := 1) hJ (by omega)) (by decide) (Nat.le_of_ble_eq_true rfl) ⟨Nat.zero_le _, Nat.zero_le _⟩ ?_
    refine z_icmpge hY eX5_take_19 (by omega) (fun c19 => ?_) (fun c19 => ?_)
    · refine z_aload hY eX5_take_31 1 rfl ?_
      refine z_callV (As := []) (rest := []) hY eX5_take_32 (s_numberPlaces (κ := κ) (B := B) hG hJ hV) (cH_at (t := 9) (i := 0) hJ (by omega)) (by decide) (Nat.le_of_ble_eq_true rfl) ⟨Nat.zero_le _, Nat.zero_le _⟩ (fun _ _ q => q.elim) (fun vv3 hh3 q3 => ?_)
      obtain ⟨rfl, rfl⟩ := q3
      exact z_return hY eX5_take_35 rfl (by rw [hφ]; exact ⟨rfl, congrArg (fun q => cH D B q h) (by unfold kTa; first | rw [if_pos (by omega)] | rw [if_neg (by omega)])⟩) ⟨Nat.zero_le _, Nat.zero_le _⟩
    · refine z_aload hY eX5_take_22 1 rfl ?_
      refine c_gf hY hJ eX5_take_23 (t := 9) (i := 0) (v := .ref (B 7 1)) (by omega) rfl rfl ?_
      refine z_iload hY eX5_take_26 0 rfl ?_
      refine z_callV (As := [z_i ((κ 37 e 0) - 1)]) (rest := []) hY eX5_take_27 (c_remove (κ := κ) (r := 1) (i := ((κ 37 e 0) - 1)) hG hJ hV (by omega) (by omega)) (cH_at (t := 7) (i := 1) hJ (by omega)) (by decide) (Nat.le_of_ble_eq_true rfl) ⟨Nat.zero_le _, Nat.zero_le _⟩ (fun _ _ q => q.elim) (fun vv4 hh4 q4 => ?_)
      obtain ⟨rfl, rfl⟩ := q4
      refine z_pop hY eX5_take_30 rfl ?_
      have hV1 : cV (kRw κ 1 (fDl κ 1 ((κ 37 e 0) - 1)) (κ 24 1 0 - 1) (kW (κ 25 1 0))) := cV_Rw hV (by omega) (by omega) (fDl_b hV (by omega) (by omega))
      refine z_aload hY eX5_take_31 1 rfl ?_
      refine z_callV (As := []) (rest := []) hY eX5_take_32 (s_numberPlaces (κ := (kRw κ 1 (fDl κ 1 ((κ 37 e 0) - 1)) (κ 24 1 0 - 1) (kW (κ 25 1 0)))) (B := B) hG (cJ_of hJ (cL_Rw (by omega))) hV1) (cH_at (t := 9) (i := 0) (cJ_of hJ (cL_Rw (by omega))) ((cL_Rw (by omega) _ _).mpr (by omega))) (by decide) (Nat.le_of_ble_eq_true rfl) ⟨Nat.zero_le _, Nat.zero_le _⟩ (fun _ _ q => q.elim) (fun vv5 hh5 q5 => ?_)
      obtain ⟨rfl, rfl⟩ := q5
      exact z_return hY eX5_take_35 rfl (by rw [hφ]; exact ⟨rfl, congrArg (fun q => cH D B q h) (by unfold kTa; first | rw [if_pos (by omega)] | rw [if_neg (by omega)])⟩) ⟨Nat.zero_le _, Nat.zero_le _⟩
theorem p_put {G : z_G} {D : Nat} {B : Nat → Int → Nat} {κ : c_K} {h : z_H} (hG : z_OK G) (hD : D = z_dc G) (hJ : cJ B κ) (hB : cB κ) (hV : cV κ) (hM : z_MI G) {e : Int} (he : 0 ≤ e ∧ e < κ 24 0 0) : z_T G mX4_put [.ref (B 10 0), .ref (B 20 e)] (cH D B κ h) 7 1 45 (fun v h' => v = none ∧ cPut D B κ h 2 (fIn κ 2 (pW κ e) e) h') (z_no) := by
  obtain ⟨hn, hsz, hrw, hcu, htl, hth⟩ := id hV
  have hs0 := hsz 0 (by omega) (by omega)
  have hs1 := hsz 1 (by omega) (by omega)
  have hs2 := hsz 2 (by omega) (by omega)
  have hs3 := hsz 3 (by omega) (by omega)
  refine z_T_of hG pX4_put (Nat.le_of_ble_eq_true rfl) (ls0 := [(0, .ref (B 10 0)), (1, .ref (B 20 e))]) rfl fun Y hY hg hmc hms hφ hψ => ?_
  subst hg
  refine z_aload hY eX4_put_0 0 rfl ?_
  refine c_gf hY hJ eX4_put_1 (t := 10) (i := 0) (v := .ref (B 7 2)) (by omega) rfl rfl ?_
  refine z_aload hY eX4_put_4 0 rfl ?_
  refine z_aload hY eX4_put_5 1 rfl ?_
  refine z_callVr (As := []) (rest := [.ref (B 10 0), .ref (B 7 2)]) (r := z_i (κ 30 e 0)) hY eX4_put_6 (e_points hG hJ hB hV (by omega)) (cH_at (t := 20) (i := e) hJ (by omega)) (by decide) (Nat.le_of_ble_eq_true rfl) ⟨Nat.zero_le _, Nat.zero_le _⟩ ?_
  have hc1 := hB 30 e 0
  refine z_callVr (As := [z_i (κ 30 e 0)]) (rest := [.ref (B 7 2)]) (r := z_i (z_fw (fun i => κ 30 (κ 20 2 i) 0 ≤ (κ 30 e 0)) (κ 24 2 0))) hY eX4_put_9 (p_countUpTo hG hJ hB hV (by omega)) (cH_at (t := 10) (i := 0) hJ (by omega)) (by decide) (Nat.le_of_ble_eq_true rfl) ⟨Nat.zero_le _, Nat.zero_le _⟩ ?_
  have hc2 := z_fw_b (fun i => κ 30 (κ 20 2 i) 0 ≤ (κ 30 e 0)) hs2.1
  refine z_aload hY eX4_put_12 1 rfl ?_
  refine z_callV (As := [z_i (z_fw (fun i => κ 30 (κ 20 2 i) 0 ≤ (κ 30 e 0)) (κ 24 2 0)), .ref (B 20 e)]) (rest := []) hY eX4_put_13 (c_ins (κ := κ) (r := 2) (e := e) (i := (z_fw (fun i => κ 30 (κ 20 2 i) 0 ≤ (κ 30 e 0)) (κ 24 2 0))) hG hJ hV (by subst hD; rfl) hM (by omega) (by omega) (by omega)) (cH_at (t := 7) (i := 2) hJ (by omega)) (by decide) (Nat.le_of_ble_eq_true rfl) (by rw [hmc, hms]; omega) (fun _ _ q => q.elim) (fun vv3 hh3 q3 => ?_)
  obtain ⟨rfl, e1, N1, h2, rfl, hJ1, hN1, hF1⟩ := q3
  exact z_return hY eX4_put_16 rfl (by rw [hφ]; exact ⟨rfl, e1, N1, h2, rfl, hJ1, hN1, hF1⟩) (by rw [hmc, hms]; omega)
theorem p_take {G : z_G} {D : Nat} {B : Nat → Int → Nat} {κ : c_K} {h : z_H} (hG : z_OK G) (hJ : cJ B κ) (hB : cB κ) (hV : cV κ) {e : Int} (he : -1 ≤ e ∧ e < κ 24 0 0) : z_T G mX4_take [.ref (B 10 0), .ref (B 20 e)] (cH D B κ h) 3 0 0 (fun v h' => v = none ∧ h' = cH D B (kTp κ e) h) (z_no) := by
  obtain ⟨hn, hsz, hrw, hcu, htl, hth⟩ := id hV
  have hs0 := hsz 0 (by omega) (by omega)
  have hs1 := hsz 1 (by omega) (by omega)
  have hs2 := hsz 2 (by omega) (by omega)
  have hs3 := hsz 3 (by omega) (by omega)
  refine z_T_of hG pX4_take (Nat.le_of_ble_eq_true rfl) (ls0 := [(0, .ref (B 10 0)), (1, .ref (B 20 e))]) rfl fun Y hY hg hmc hms hφ hψ => ?_
  subst hg
  refine z_const hY eX4_take_0 ?_
  refine z_istore hY eX4_take_1 (ls' := [(2, z_i 0), (0, .ref (B 10 0)), (1, .ref (B 20 e))]) rfl ?_
  refine z_sub [1, 2, 0] (ls' := [(0, .ref (B 10 0)), (1, .ref (B 20 e)), (2, z_i 0)]) rfl ?_
  have lp2 : ∀ (fu : Nat) (i : Int), (κ 24 2 0 - i).toNat < fu → (0 ≤ i ∧ i ≤ κ 24 2 0) → (z_fi (fun i => κ 20 2 i = e) (κ 24 2 0 - i).toNat i = z_ff (fun i => κ 20 2 i = e) (κ 24 2 0)) → z_W Y 2 [(0, .ref (B 10 0)), (1, .ref (B 20 e)), (2, z_i i)] [] (cH D B κ h) 0 0 := by
    intro fu
    induction fu with
    | zero => intro i hf; exact absurd hf (Nat.not_lt_zero _)
    | succ fu ih2 =>
      intro i hf h0 hn
      refine z_iload hY eX4_take_2 2 rfl ?_
      refine z_aload hY eX4_take_3 0 rfl ?_
      refine c_gf hY hJ eX4_take_4 (t := 10) (i := 0) (v := .ref (B 7 2)) (by omega) rfl rfl ?_
      refine z_callVr (As := []) (rest := [z_i i]) (r := z_i (κ 24 2 0)) hY eX4_take_7 (c_size hG hJ hB hV (by omega)) (cH_at (t := 7) (i := 2) hJ (by omega)) (by decide) (Nat.le_of_ble_eq_true rfl) ⟨Nat.zero_le _, Nat.zero_le _⟩ ?_
      refine z_icmpge hY eX4_take_10 (by omega) (fun c10 => ?_) (fun c10 => ?_)
      · exact z_return hY eX4_take_41 rfl (by rw [hφ]; exact ⟨rfl, congrArg (fun q => cH D B q h) (by have h1 := (z_fi_e (P := fun i => κ 20 2 i = e) (n := κ 24 2 0) (i := i) (by omega)).symm.trans hn; unfold kTp; rw [← h1, if_pos rfl])⟩) ⟨Nat.zero_le _, Nat.zero_le _⟩
      · refine z_aload hY eX4_take_13 0 rfl ?_
        refine c_gf hY hJ eX4_take_14 (t := 10) (i := 0) (v := .ref (B 7 2)) (by omega) rfl rfl ?_
        refine z_iload hY eX4_take_17 2 rfl ?_
        refine z_callVr (As := [z_i i]) (rest := []) (r := .ref (B 20 (κ 20 2 i))) hY eX4_take_18 (c_get hG hJ hB hV (by omega) (by omega)) (cH_at (t := 7) (i := 2) hJ (by omega)) (by decide) (Nat.le_of_ble_eq_true rfl) ⟨Nat.zero_le _, Nat.zero_le _⟩ ?_
        have hc1 := hrw 2 i (by omega) (by omega) (by omega) (by omega)
        refine z_aload hY eX4_take_21 1 rfl ?_
        refine z_acmpne hY eX4_take_22 (fun c22 => ?_) (fun c22 => ?_)
        · have cc22 : κ 20 2 i ≠ e := fun q => c22 (by rw [q])
          refine z_iinc hY eX4_take_35 2 rfl (ls' := [(2, z_i (i + 1)), (0, .ref (B 10 0)), (1, .ref (B 20 e))]) rfl ?_
          refine z_goto hY eX4_take_38 ?_
          refine z_sub [1, 2, 0] (ls' := [(0, .ref (B 10 0)), (1, .ref (B 20 e)), (2, z_i (i + 1))]) rfl ?_
          exact ih2 (i + 1) (by omega) (by omega) ((z_fi_f (by omega) (by omega)).symm.trans hn)
        · have cc22 : κ 20 2 i = e := (hJ _ _ _ _ (by omega) (by omega) c22).2
          refine z_aload hY eX4_take_25 0 rfl ?_
          refine c_gf hY hJ eX4_take_26 (t := 10) (i := 0) (v := .ref (B 7 2)) (by omega) rfl rfl ?_
          refine z_iload hY eX4_take_29 2 rfl ?_
          refine z_callV (As := [z_i i]) (rest := []) hY eX4_take_30 (c_remove (κ := κ) (r := 2) (i := i) hG hJ hV (by omega) (by omega)) (cH_at (t := 7) (i := 2) hJ (by omega)) (by decide) (Nat.le_of_ble_eq_true rfl) ⟨Nat.zero_le _, Nat.zero_le _⟩ (fun _ _ q => q.elim) (fun vv2 hh2 q2 => ?_)
          obtain ⟨rfl, rfl⟩ := q2
          refine z_pop hY eX4_take_33 rfl ?_
          exact z_return hY eX4_take_34 rfl (by rw [hφ]; exact ⟨rfl, congrArg (fun q => cH D B q h) (by have h1 := (z_fi_t (P := fun i => κ 20 2 i = e) (n := κ 24 2 0) (i := i) (by omega) (by omega)).symm.trans hn; unfold kTp; rw [← h1, if_neg (by omega)])⟩) ⟨Nat.zero_le _, Nat.zero_le _⟩
  exact lp2 _ 0 (Nat.lt_succ_self _) (by omega) rfl
theorem l_take {G : z_G} {D : Nat} {B : Nat → Int → Nat} {κ : c_K} {h : z_H} (hG : z_OK G) (hJ : cJ B κ) (hB : cB κ) (hV : cV κ) {e : Int} (he : -1 ≤ e ∧ e < κ 24 0 0) : z_T G mX1_take [.ref (B 11 0), .ref (B 20 e)] (cH D B κ h) 4 0 0 (fun v h' => v = none ∧ h' = cH D B (kTl κ e) h) (z_no) := by
  obtain ⟨hn, hsz, hrw, hcu, htl, hth⟩ := id hV
  have hs0 := hsz 0 (by omega) (by omega)
  have hs1 := hsz 1 (by omega) (by omega)
  have hs2 := hsz 2 (by omega) (by omega)
  have hs3 := hsz 3 (by omega) (by omega)
  refine z_T_of hG pX1_take (Nat.le_of_ble_eq_true rfl) (ls0 := [(0, .ref (B 11 0)), (1, .ref (B 20 e))]) rfl fun Y hY hg hmc hms hφ hψ => ?_
  subst hg
  refine z_aload hY eX1_take_0 0 rfl ?_
  refine z_aload hY eX1_take_1 1 rfl ?_
  refine z_callVr (As := [.ref (B 20 e)]) (rest := []) (r := z_i (cLp κ e)) hY eX1_take_2 (l_placeIn hG hJ hB hV (by omega)) (cH_at (t := 11) (i := 0) hJ (by omega)) (by decide) (Nat.le_of_ble_eq_true rfl) ⟨Nat.zero_le _, Nat.zero_le _⟩ ?_
  have hc1 := cLp_b (κ := κ) e
  refine z_const hY eX1_take_5 ?_
  refine z_isub hY eX1_take_6 ?_
  refine z_istore hY eX1_take_7 (ls' := [(2, z_i ((cLp κ e) - 1)), (0, .ref (B 11 0)), (1, .ref (B 20 e))]) rfl ?_
  refine z_iload hY eX1_take_8 0 rfl ?_
  refine z_iflt hY eX1_take_9 (by omega) (fun c9 => ?_) (fun c9 => ?_)
  · exact z_return hY eX1_take_32 rfl (by rw [hφ]; exact ⟨rfl, congrArg (fun q => cH D B q h) (by unfold kTl; first | exact (if_pos (by omega)).symm | exact (if_neg (by omega)).symm)⟩) ⟨Nat.zero_le _, Nat.zero_le _⟩
  · refine z_iload hY eX1_take_12 0 rfl ?_
    refine z_aload hY eX1_take_13 1 rfl ?_
    refine c_gf hY hJ eX1_take_14 (t := 11) (i := 0) (v := .ref (B 7 3)) (by omega) rfl rfl ?_
    refine z_callVr (As := []) (rest := [z_i ((cLp κ e) - 1)]) (r := z_i (κ 24 3 0)) hY eX1_take_17 (c_size hG hJ hB hV (by omega)) (cH_at (t := 7) (i := 3) hJ (by omega)) (by decide) (Nat.le_of_ble_eq_true rfl) ⟨Nat.zero_le _, Nat.zero_le _⟩ ?_
    refine z_icmpge hY eX1_take_20 (by omega) (fun c20 => ?_) (fun c20 => ?_)
    · exact z_return hY eX1_take_32 rfl (by rw [hφ]; exact ⟨rfl, congrArg (fun q => cH D B q h) (by unfold kTl; first | exact (if_pos (by omega)).symm | exact (if_neg (by omega)).symm)⟩) ⟨Nat.zero_le _, Nat.zero_le _⟩
    · refine z_aload hY eX1_take_23 1 rfl ?_
      refine c_gf hY hJ eX1_take_24 (t := 11) (i := 0) (v := .ref (B 7 3)) (by omega) rfl rfl ?_
      refine z_iload hY eX1_take_27 0 rfl ?_
      refine z_callV (As := [z_i ((cLp κ e) - 1)]) (rest := []) hY eX1_take_28 (c_remove (κ := κ) (r := 3) (i := ((cLp κ e) - 1)) hG hJ hV (by omega) (by omega)) (cH_at (t := 7) (i := 3) hJ (by omega)) (by decide) (Nat.le_of_ble_eq_true rfl) ⟨Nat.zero_le _, Nat.zero_le _⟩ (fun _ _ q => q.elim) (fun vv2 hh2 q2 => ?_)
      obtain ⟨rfl, rfl⟩ := q2
      refine z_pop hY eX1_take_31 rfl ?_
      exact z_return hY eX1_take_32 rfl (by rw [hφ]; exact ⟨rfl, congrArg (fun q => cH D B q h) (by unfold kTl; first | exact (if_pos (by omega)).symm | exact (if_neg (by omega)).symm)⟩) ⟨Nat.zero_le _, Nat.zero_le _⟩
theorem l_put {G : z_G} {D : Nat} {B : Nat → Int → Nat} {κ : c_K} {h : z_H} (hG : z_OK G) (hD : D = z_dc G) (hJ : cJ B κ) (hB : cB κ) (hV : cV κ) (hM : z_MI G) {e : Int} (he : 0 ≤ e ∧ e < κ 24 0 0) {t : Int} : z_T G mX1_put [.ref (B 11 0), .ref (B 20 e), z_i t] (cH D B κ h) 7 1 45 (fun v h' => v = none ∧ cPut D B (k_u κ 39 e 0 t) h 3 (fun j => if j = κ 24 3 0 then e else κ 20 3 j) h') (z_no) := by
  obtain ⟨hn, hsz, hrw, hcu, htl, hth⟩ := id hV
  have hs0 := hsz 0 (by omega) (by omega)
  have hs1 := hsz 1 (by omega) (by omega)
  have hs2 := hsz 2 (by omega) (by omega)
  have hs3 := hsz 3 (by omega) (by omega)
  refine z_T_of hG pX1_put (Nat.le_of_ble_eq_true rfl) (ls0 := [(0, .ref (B 11 0)), (1, .ref (B 20 e)), (2, z_i t)]) rfl fun Y hY hg hmc hms hφ hψ => ?_
  subst hg
  refine z_aload hY eX1_put_0 1 rfl ?_
  refine z_iload hY eX1_put_1 2 rfl ?_
  refine c_pf hY hJ eX1_put_2 (key := 39) (t := 20) (i := e) (by decide) rfl (by omega) rfl (Nat.le_of_ble_eq_true rfl) (by simp [cC, k_u, k_r]) ?_
  refine z_aload hY eX1_put_5 0 rfl ?_
  refine c_gf hY (cJ_u (by decide) hJ) eX1_put_6 (t := 11) (i := 0) (v := .ref (B 7 3)) ((cL_u (by decide) _ _).mpr (by omega)) rfl rfl ?_
  refine z_aload hY eX1_put_9 1 rfl ?_
  refine z_callV (As := [.ref (B 20 e)]) (rest := []) hY eX1_put_10 (c_add (κ := k_u κ 39 e 0 t) (r := 3) (e := e) hG (cJ_u (by decide) hJ) (cV_u hV (by decide)) (by subst hD; rfl) hM (by omega) (show 0 ≤ e ∧ e < κ 24 0 0 by omega)) (cH_at (t := 7) (i := 3) (cJ_u (by decide) hJ) ((cL_u (by decide) _ _).mpr (by omega))) (by decide) (Nat.le_of_ble_eq_true rfl) (by rw [hmc, hms]; omega) (fun _ _ q => q.elim) (fun vv1 hh1 q1 => ?_)
  obtain ⟨rfl, hput⟩ := q1
  refine z_pop hY eX1_put_13 rfl ?_
  exact z_return hY eX1_put_14 rfl (by rw [hφ]; exact ⟨rfl, hput⟩) (by rw [hmc, hms]; omega)
theorem l_raise {G : z_G} {D : Nat} {B : Nat → Int → Nat} {κ : c_K} {h : z_H} (hG : z_OK G) (hD : D = z_dc G) (hJ : cJ B κ) (hB : cB κ) (hV : cV κ) (hM : z_MI G) {a b : Int} (hab : 1 ≤ b ∧ b < a ∧ a ≤ κ 24 3 0) : z_T G mX1_raise [.ref (B 11 0), z_i a, z_i b] (cH D B κ h) 7 1 45 (fun v h' => v = none ∧ cPut D B (kRs κ a) h 3 (fIn (kRs κ a) 3 (b - 1) (κ 20 3 (a - 1))) h') (z_no) := by
  obtain ⟨hn, hsz, hrw, hcu, htl, hth⟩ := id hV
  have hs0 := hsz 0 (by omega) (by omega)
  have hs1 := hsz 1 (by omega) (by omega)
  have hs2 := hsz 2 (by omega) (by omega)
  have hs3 := hsz 3 (by omega) (by omega)
  refine z_T_of hG pX1_raise (Nat.le_of_ble_eq_true rfl) (ls0 := [(0, .ref (B 11 0)), (1, z_i a), (2, z_i b)]) rfl fun Y hY hg hmc hms hφ hψ => ?_
  subst hg
  refine z_iload hY eX1_raise_0 2 rfl ?_
  refine z_const hY eX1_raise_1 ?_
  refine z_icmplt hY eX1_raise_2 (by omega) (fun c => by exfalso; omega) (fun c2 => ?_)
  refine z_iload hY eX1_raise_5 2 rfl ?_
  refine z_iload hY eX1_raise_6 1 rfl ?_
  refine z_icmpge hY eX1_raise_7 (by omega) (fun c => by exfalso; omega) (fun c7 => ?_)
  refine z_iload hY eX1_raise_10 1 rfl ?_
  refine z_aload hY eX1_raise_11 0 rfl ?_
  refine c_gf hY hJ eX1_raise_12 (t := 11) (i := 0) (v := .ref (B 7 3)) (by omega) rfl rfl ?_
  refine z_callVr (As := []) (rest := [z_i a]) (r := z_i (κ 24 3 0)) hY eX1_raise_15 (c_size hG hJ hB hV (by omega)) (cH_at (t := 7) (i := 3) hJ (by omega)) (by decide) (Nat.le_of_ble_eq_true rfl) ⟨Nat.zero_le _, Nat.zero_le _⟩ ?_
  refine z_icmpgt hY eX1_raise_18 (by omega) (fun c => by exfalso; omega) (fun c18 => ?_)
  refine z_aload hY eX1_raise_21 0 rfl ?_
  refine c_gf hY hJ eX1_raise_22 (t := 11) (i := 0) (v := .ref (B 7 3)) (by omega) rfl rfl ?_
  refine z_iload hY eX1_raise_25 1 rfl ?_
  refine z_const hY eX1_raise_26 ?_
  refine z_isub hY eX1_raise_27 ?_
  refine z_callVr (As := [z_i (a - 1)]) (rest := []) (r := .ref (B 20 (κ 20 3 (a - 1)))) hY eX1_raise_28 (c_get hG hJ hB hV (by omega) (by omega)) (cH_at (t := 7) (i := 3) hJ (by omega)) (by decide) (Nat.le_of_ble_eq_true rfl) ⟨Nat.zero_le _, Nat.zero_le _⟩ ?_
  have hc1 := hrw 3 (a - 1) (by omega) (by omega) (by omega) (by omega)
  refine z_cast hY eX1_raise_31 (ci := 0) (nm := "StandingsHall$Entrant") (T := TX0) (N := 11) rfl (cH_at (t := 20) (i := (κ 20 3 (a - 1))) hJ (by omega)) ?_
  refine z_astore hY eX1_raise_34 (ls' := [(3, .ref (B 20 (κ 20 3 (a - 1)))), (0, .ref (B 11 0)), (1, z_i a), (2, z_i b)]) rfl ?_
  refine z_aload hY eX1_raise_35 1 rfl ?_
  refine c_gf hY hJ eX1_raise_36 (t := 11) (i := 0) (v := .ref (B 7 3)) (by omega) rfl rfl ?_
  refine z_iload hY eX1_raise_39 2 rfl ?_
  refine z_const hY eX1_raise_40 ?_
  refine z_isub hY eX1_raise_41 ?_
  refine z_callV (As := [z_i (a - 1)]) (rest := []) hY eX1_raise_42 (c_remove (κ := κ) (r := 3) (i := (a - 1)) hG hJ hV (by omega) (by omega)) (cH_at (t := 7) (i := 3) hJ (by omega)) (by decide) (Nat.le_of_ble_eq_true rfl) ⟨Nat.zero_le _, Nat.zero_le _⟩ (fun _ _ q => q.elim) (fun vv2 hh2 q2 => ?_)
  obtain ⟨rfl, rfl⟩ := q2
  refine z_pop hY eX1_raise_45 rfl ?_
  have hV1 : cV (kRw κ 3 (fDl κ 3 (a - 1)) (κ 24 3 0 - 1) (kW (κ 25 3 0))) := cV_Rw hV (by omega) (by omega) (fDl_b hV (by omega) (by omega))
  refine z_aload hY eX1_raise_46 1 rfl ?_
  refine c_gf hY (cJ_of hJ (cL_Rw (by omega))) eX1_raise_47 (t := 11) (i := 0) (v := .ref (B 7 3)) (by omega) rfl rfl ?_
  refine z_iload hY eX1_raise_50 3 rfl ?_
  refine z_const hY eX1_raise_51 ?_
  refine z_isub hY eX1_raise_52 ?_
  refine z_aload hY eX1_raise_53 0 rfl ?_
  refine z_callV (As := [z_i (b - 1), .ref (B 20 (κ 20 3 (a - 1)))]) (rest := []) hY eX1_raise_54 (c_ins (κ := (kRw κ 3 (fDl κ 3 (a - 1)) (κ 24 3 0 - 1) (kW (κ 25 3 0)))) (r := 3) (e := κ 20 3 (a - 1)) (i := (b - 1)) hG (cJ_of hJ (cL_Rw (by omega))) hV1 (by subst hD; rfl) hM (by omega) (by rw [kRw_ni (by omega)]; omega) (by rw [kRw_24]; omega)) (cH_at (t := 7) (i := 3) (cJ_of hJ (cL_Rw (by omega))) ((cL_Rw (by omega) _ _).mpr (by omega))) (by decide) (Nat.le_of_ble_eq_true rfl) (by rw [hmc, hms]; omega) (fun _ _ q => q.elim) (fun vv3 hh3 q3 => ?_)
  obtain ⟨rfl, hput⟩ := q3
  exact z_return hY eX1_raise_57 rfl (by rw [hφ]; exact ⟨rfl, hput⟩) (by rw [hmc, hms]; omega)
theorem l_letFall1 {G : z_G} {D : Nat} {B : Nat → Int → Nat} {κ : c_K} {h : z_H} (hG : z_OK G) (hJ : cJ B κ) (hB : cB κ) (hV : cV κ) {r : Int} (hr : 0 ≤ r ∧ r ≤ 1000) (hpt : 1 ≤ κ 19 0 0 ∧ κ 19 0 0 ≤ 9) (h2 : 2 ≤ κ 24 3 0) : z_T G mX1_letFall [.ref (B 11 0), z_i r] (cH D B κ h) 3 0 0 (fun v h' => v = none ∧ h' = cH D B (kFa κ (r - κ 19 0 0 + 1)) h) (z_no) := by
  obtain ⟨hn, hsz, hrw, hcu, htl, hth⟩ := id hV
  have hs0 := hsz 0 (by omega) (by omega)
  have hs1 := hsz 1 (by omega) (by omega)
  have hs2 := hsz 2 (by omega) (by omega)
  have hs3 := hsz 3 (by omega) (by omega)
  refine z_T_of hG pX1_letFall (Nat.le_of_ble_eq_true rfl) (ls0 := [(0, .ref (B 11 0)), (1, z_i r)]) rfl fun Y hY hg hmc hms hφ hψ => ?_
  subst hg
  refine z_iload hY eX1_letFall_0 1 rfl ?_
  refine z_aload hY eX1_letFall_1 0 rfl ?_
  have hb1 := hB 19 0 0
  refine c_gf hY hJ eX1_letFall_2 (t := 11) (i := 0) (v := z_i (κ 19 0 0)) (by omega) rfl rfl ?_
  refine z_isub hY eX1_letFall_5 ?_
  refine z_const hY eX1_letFall_6 ?_
  refine z_iadd hY eX1_letFall_7 ?_
  refine z_istore hY eX1_letFall_8 (ls' := [(2, z_i (r - (κ 19 0 0) + 1)), (0, .ref (B 11 0)), (1, z_i r)]) rfl ?_
  refine z_aload hY eX1_letFall_9 1 rfl ?_
  refine c_gf hY hJ eX1_letFall_10 (t := 11) (i := 0) (v := .ref (B 7 3)) (by omega) rfl rfl ?_
  refine z_callVr (As := []) (rest := []) (r := z_i (κ 24 3 0)) hY eX1_letFall_13 (c_size hG hJ hB hV (by omega)) (cH_at (t := 7) (i := 3) hJ (by omega)) (by decide) (Nat.le_of_ble_eq_true rfl) ⟨Nat.zero_le _, Nat.zero_le _⟩ ?_
  refine z_const hY eX1_letFall_16 ?_
  refine z_isub hY eX1_letFall_17 ?_
  refine z_istore hY eX1_letFall_18 (ls' := [(3, z_i ((κ 24 3 0) - 2)), (2, z_i (r - (κ 19 0 0) + 1)), (0, .ref (B 11 0)), (1, z_i r)]) rfl ?_
  refine z_sub [2, 3, 1, 0] (ls' := [(0, .ref (B 11 0)), (1, z_i r), (2, z_i (r - (κ 19 0 0) + 1)), (3, z_i ((κ 24 3 0) - 2))]) rfl ?_
  have lp : ∀ (fu : Nat) (i : Int), (i + 1).toNat < fu → (-1 ≤ i ∧ i ≤ κ 24 3 0 - 2) → z_W Y 19 [(0, .ref (B 11 0)), (1, z_i r), (2, z_i (r - (κ 19 0 0) + 1)), (3, z_i i)] [] (cH D B (kFs κ (r - κ 19 0 0 + 1) (κ 24 3 0 - 2 - i).toNat) h) 0 0 := by
    intro fu
    induction fu with
    | zero => intro i hf; exact absurd hf (Nat.not_lt_zero _)
    | succ fu ih =>
      intro i hf h0
      have gJ : cJ B (kFs κ (r - κ 19 0 0 + 1) (κ 24 3 0 - 2 - i).toNat) := cJ_of hJ (cL_Fs _)
      have gV : cV (kFs κ (r - κ 19 0 0 + 1) (κ 24 3 0 - 2 - i).toNat) := cV_Fs hV _ (by omega)
      refine z_iload hY eX1_letFall_19 3 rfl ?_
      refine z_iflt hY eX1_letFall_20 (by omega) (fun c20 => ?_) (fun c20 => ?_)
      · exact z_return hY eX1_letFall_108 rfl (by rw [hφ]; first | (exfalso; omega) | exact ⟨rfl, congrArg (fun q => cH D B q h) (by unfold kFa; rw [if_neg (by omega), show i = -1 by omega, show κ 24 3 0 - 2 - -1 = κ 24 3 0 - 1 by omega])⟩) ⟨Nat.zero_le _, Nat.zero_le _⟩
      · refine z_iload hY eX1_letFall_23 3 rfl ?_
        refine z_const hY eX1_letFall_24 ?_
        refine z_iadd hY eX1_letFall_25 ?_
        refine z_aload hY eX1_letFall_26 0 rfl ?_
        refine c_gf hY gJ eX1_letFall_27 (t := 11) (i := 0) (v := .ref (B 7 3)) ((cL_Fs _ _ _).mpr (by omega)) rfl rfl ?_
        refine z_callVr (As := []) (rest := [z_i (i + 1)]) (r := z_i (κ 24 3 0)) hY eX1_letFall_30 ((congrFun (congrFun (kFs_ne (κ := κ) (a := r - κ 19 0 0 + 1) (k := 24) (by decide) (κ 24 3 0 - 2 - i).toNat) 3) 0) ▸ al_size hG (cH_at (t := 7) (i := 3) gJ ((cL_Fs _ _ _).mpr (by omega)))) (cH_at (t := 7) (i := 3) gJ ((cL_Fs _ _ _).mpr (by omega))) (by decide) (Nat.le_of_ble_eq_true rfl) ⟨Nat.zero_le _, Nat.zero_le _⟩ ?_
        refine z_icmpge hY eX1_letFall_33 (by omega) (fun c33 => ?_) (fun c33 => ?_)
        · exact z_return hY eX1_letFall_108 rfl (by rw [hφ]; first | (exfalso; omega) | exact ⟨rfl, congrArg (fun q => cH D B q h) (by unfold kFa; rw [if_neg (by omega), show i = -1 by omega, show κ 24 3 0 - 2 - -1 = κ 24 3 0 - 1 by omega])⟩) ⟨Nat.zero_le _, Nat.zero_le _⟩
        · refine z_aload hY eX1_letFall_36 0 rfl ?_
          refine c_gf hY gJ eX1_letFall_37 (t := 11) (i := 0) (v := .ref (B 7 3)) ((cL_Fs _ _ _).mpr (by omega)) rfl rfl ?_
          refine z_iload hY eX1_letFall_40 3 rfl ?_
          refine z_callVr (As := [z_i i]) (rest := []) (r := .ref (B 20 (κ 20 3 i))) hY eX1_letFall_41 ((kFs_lo (κ := κ) (a := r - κ 19 0 0 + 1) (κ 24 3 0 - 2 - i).toNat i (by omega)) ▸ c_getV (κ := kFs κ (r - κ 19 0 0 + 1) (κ 24 3 0 - 2 - i).toNat) hG gJ gV (r := 3) (by omega) (j := i) (by rw [kFs_ne (by decide)]; omega)) (cH_at (t := 7) (i := 3) gJ ((cL_Fs _ _ _).mpr (by omega))) (by decide) (Nat.le_of_ble_eq_true rfl) ⟨Nat.zero_le _, Nat.zero_le _⟩ ?_
          have hrw1 := hrw 3 i (by omega) (by omega) (by omega) (by omega)
          refine z_cast hY eX1_letFall_44 (ci := 0) (nm := "StandingsHall$Entrant") (T := TX0) (N := 11) rfl (cH_at (t := 20) (i := (κ 20 3 i)) gJ ((cL_Fs _ _ _).mpr (by omega))) ?_
          refine z_astore hY eX1_letFall_47 (ls' := [(4, .ref (B 20 (κ 20 3 i))), (0, .ref (B 11 0)), (1, z_i r), (2, z_i (r - (κ 19 0 0) + 1)), (3, z_i i)]) rfl ?_
          refine z_aload hY eX1_letFall_49 0 rfl ?_
          have hb2 := hB 39 (κ 20 3 i) 0
          refine c_gf hY gJ eX1_letFall_51 (t := 20) (i := (κ 20 3 i)) (v := z_i (κ 39 (κ 20 3 i) 0)) ((cL_Fs _ _ _).mpr (by omega)) rfl (by rw [← kFs_ne (κ := κ) (a := r - κ 19 0 0 + 1) (k := 39) (by decide) (κ 24 3 0 - 2 - i).toNat]; rfl) ?_
          refine z_iload hY eX1_letFall_54 3 rfl ?_
          refine z_icmpgt hY eX1_letFall_55 (by omega) (fun c55 => ?_) (fun c55 => ?_)
          · refine z_iinc hY eX1_letFall_102 4 rfl (ls' := [(3, z_i (i + (-1))), (4, .ref (B 20 (κ 20 3 i))), (0, .ref (B 11 0)), (1, z_i r), (2, z_i (r - (κ 19 0 0) + 1))]) rfl ?_
            refine z_lq (ls' := [(3, z_i (i - 1)), (4, .ref (B 20 (κ 20 3 i))), (0, .ref (B 11 0)), (1, z_i r), (2, z_i (r - (κ 19 0 0) + 1))]) (by rw [show (i + (-1) : Int) = i - 1 by omega]) ?_
            refine z_goto hY eX1_letFall_105 ?_
            refine z_sub [2, 3, 4, 0] (ls' := [(0, .ref (B 11 0)), (1, z_i r), (2, z_i (r - (κ 19 0 0) + 1)), (3, z_i (i - 1))]) rfl ?_
            refine z_heq (congrArg (fun q => cH D B q h) (show (kFs κ (r - κ 19 0 0 + 1) (κ 24 3 0 - 2 - i).toNat) = kFs κ (r - κ 19 0 0 + 1) (κ 24 3 0 - 2 - (i - 1)).toNat from kFs_s (by omega) (by omega))) ?_
            exact ih (i - 1) (by omega) (by omega)
          · refine z_aload hY eX1_letFall_58 0 rfl ?_
            have hb3 := hB 40 (κ 20 3 i) 0
            refine c_gf hY gJ eX1_letFall_60 (t := 20) (i := (κ 20 3 i)) (v := z_i (κ 40 (κ 20 3 i) 0)) ((cL_Fs _ _ _).mpr (by omega)) rfl (by rw [← kFs_ne (κ := κ) (a := r - κ 19 0 0 + 1) (k := 40) (by decide) (κ 24 3 0 - 2 - i).toNat]; rfl) ?_
            refine z_iload hY eX1_letFall_63 3 rfl ?_
            refine z_icmpge hY eX1_letFall_64 (by omega) (fun c64 => ?_) (fun c64 => ?_)
            · refine z_iinc hY eX1_letFall_102 4 rfl (ls' := [(3, z_i (i + (-1))), (4, .ref (B 20 (κ 20 3 i))), (0, .ref (B 11 0)), (1, z_i r), (2, z_i (r - (κ 19 0 0) + 1))]) rfl ?_
              refine z_lq (ls' := [(3, z_i (i - 1)), (4, .ref (B 20 (κ 20 3 i))), (0, .ref (B 11 0)), (1, z_i r), (2, z_i (r - (κ 19 0 0) + 1))]) (by rw [show (i + (-1) : Int) = i - 1 by omega]) ?_
              refine z_goto hY eX1_letFall_105 ?_
              refine z_sub [2, 3, 4, 0] (ls' := [(0, .ref (B 11 0)), (1, z_i r), (2, z_i (r - (κ 19 0 0) + 1)), (3, z_i (i - 1))]) rfl ?_
              refine z_heq (congrArg (fun q => cH D B q h) (show (kFs κ (r - κ 19 0 0 + 1) (κ 24 3 0 - 2 - i).toNat) = kFs κ (r - κ 19 0 0 + 1) (κ 24 3 0 - 2 - (i - 1)).toNat from kFs_s (by omega) (by omega))) ?_
              exact ih (i - 1) (by omega) (by omega)
            · refine z_aload hY eX1_letFall_67 1 rfl ?_
              refine c_gf hY gJ eX1_letFall_68 (t := 11) (i := 0) (v := .ref (B 7 3)) ((cL_Fs _ _ _).mpr (by omega)) rfl rfl ?_
              refine z_iload hY eX1_letFall_71 4 rfl ?_
              refine z_aload hY eX1_letFall_72 1 rfl ?_
              refine c_gf hY gJ eX1_letFall_73 (t := 11) (i := 0) (v := .ref (B 7 3)) ((cL_Fs _ _ _).mpr (by omega)) rfl rfl ?_
              refine z_iload hY eX1_letFall_76 4 rfl ?_
              refine z_const hY eX1_letFall_77 ?_
              refine z_iadd hY eX1_letFall_78 ?_
              refine z_callVr (As := [z_i (i + 1)]) (rest := [z_i i, .ref (B 7 3)]) (r := .ref (B 20 ((kFs κ (r - κ 19 0 0 + 1) (κ 24 3 0 - 2 - i).toNat) 20 3 (i + 1)))) hY eX1_letFall_79 (c_getV (κ := kFs κ (r - κ 19 0 0 + 1) (κ 24 3 0 - 2 - i).toNat) hG gJ gV (r := 3) (by omega) (j := i + 1) (by rw [kFs_ne (by decide)]; omega)) (cH_at (t := 7) (i := 3) gJ ((cL_Fs _ _ _).mpr (by omega))) (by decide) (Nat.le_of_ble_eq_true rfl) ⟨Nat.zero_le _, Nat.zero_le _⟩ ?_
              have hrw2 := kFs_b hV (a := r - κ 19 0 0 + 1) (κ 24 3 0 - 2 - i).toNat (i + 1) (by omega) (by omega) (by omega)
              refine z_cast hY eX1_letFall_82 (ci := 0) (nm := "StandingsHall$Entrant") (T := TX0) (N := 11) rfl (cH_at (t := 20) (i := ((kFs κ (r - κ 19 0 0 + 1) (κ 24 3 0 - 2 - i).toNat) 20 3 (i + 1))) gJ ((cL_Fs _ _ _).mpr (by omega))) ?_
              refine z_callV (As := [z_i i, .ref (B 20 ((kFs κ (r - κ 19 0 0 + 1) (κ 24 3 0 - 2 - i).toNat) 20 3 (i + 1)))]) (rest := []) hY eX1_letFall_85 (c_set (κ := (kFs κ (r - κ 19 0 0 + 1) (κ 24 3 0 - 2 - i).toNat)) (r := 3) (i := i) (e := ((kFs κ (r - κ 19 0 0 + 1) (κ 24 3 0 - 2 - i).toNat) 20 3 (i + 1))) hG gJ gV (by omega) (by rw [kFs_ne (k := 24) (by decide)]; omega) (by rw [kFs_ne (k := 24) (by decide)]; omega)) (cH_at (t := 7) (i := 3) gJ ((cL_Fs _ _ _).mpr (by omega))) (by decide) (Nat.le_of_ble_eq_true rfl) ⟨Nat.zero_le _, Nat.zero_le _⟩ (fun _ _ q => q.elim) (fun vv4 hh4 q4 => ?_)
              obtain ⟨rfl, rfl⟩ := q4
              refine z_pop hY eX1_letFall_88 rfl ?_
              refine z_aload hY eX1_letFall_89 1 rfl ?_
              refine c_gf hY (cJ_u (by decide) gJ) eX1_letFall_90 (t := 11) (i := 0) (v := .ref (B 7 3)) ((cL_u (by decide) _ _).mpr ((cL_Fs _ _ _).mpr (by omega))) rfl rfl ?_
              refine z_iload hY eX1_letFall_93 4 rfl ?_
              refine z_const hY eX1_letFall_94 ?_
              refine z_iadd hY eX1_letFall_95 ?_
              refine z_aload hY eX1_letFall_96 0 rfl ?_
              refine z_callV (As := [z_i (i + 1), .ref (B 20 (κ 20 3 i))]) (rest := []) hY eX1_letFall_98 (c_set (κ := k_u (kFs κ (r - κ 19 0 0 + 1) (κ 24 3 0 - 2 - i).toNat) 20 3 i ((kFs κ (r - κ 19 0 0 + 1) (κ 24 3 0 - 2 - i).toNat) 20 3 (i + 1))) (r := 3) (i := i + 1) (e := κ 20 3 i) hG (cJ_u (by decide) gJ) (cV_20 gV (by rw [kFs_ne (k := 24) (by decide)]; omega)) (by omega) (by rw [k_u_24, kFs_ne (k := 24) (by decide)]; omega) (by rw [k_u_24, kFs_ne (k := 24) (by decide)]; omega)) (cH_at (t := 7) (i := 3) (cJ_u (by decide) gJ) ((cL_u (by decide) _ _).mpr ((cL_Fs _ _ _).mpr (by omega)))) (by decide) (Nat.le_of_ble_eq_true rfl) ⟨Nat.zero_le _, Nat.zero_le _⟩ (fun _ _ q => q.elim) (fun vv5 hh5 q5 => ?_)
              obtain ⟨rfl, rfl⟩ := q5
              refine z_pop hY eX1_letFall_101 rfl ?_
              refine z_iinc hY eX1_letFall_102 4 rfl (ls' := [(3, z_i (i + (-1))), (4, .ref (B 20 (κ 20 3 i))), (0, .ref (B 11 0)), (1, z_i r), (2, z_i (r - (κ 19 0 0) + 1))]) rfl ?_
              refine z_lq (ls' := [(3, z_i (i - 1)), (4, .ref (B 20 (κ 20 3 i))), (0, .ref (B 11 0)), (1, z_i r), (2, z_i (r - (κ 19 0 0) + 1))]) (by rw [show (i + (-1) : Int) = i - 1 by omega]) ?_
              refine z_goto hY eX1_letFall_105 ?_
              refine z_sub [2, 3, 4, 0] (ls' := [(0, .ref (B 11 0)), (1, z_i r), (2, z_i (r - (κ 19 0 0) + 1)), (3, z_i (i - 1))]) rfl ?_
              refine z_heq (congrArg (fun q => cH D B q h) (show k_u (k_u (kFs κ (r - κ 19 0 0 + 1) (κ 24 3 0 - 2 - i).toNat) 20 3 i ((kFs κ (r - κ 19 0 0 + 1) (κ 24 3 0 - 2 - i).toNat) 20 3 (i + 1))) 20 3 (i + 1) (κ 20 3 i) = kFs κ (r - κ 19 0 0 + 1) (κ 24 3 0 - 2 - (i - 1)).toNat from kFs_w (by omega) (by omega))) ?_
              exact ih (i - 1) (by omega) (by omega)
  refine z_heq (show cH D B κ h = cH D B (kFs κ (r - κ 19 0 0 + 1) (κ 24 3 0 - 2 - (κ 24 3 0 - 2)).toNat) h from by rw [show (κ 24 3 0 - 2 - (κ 24 3 0 - 2)).toNat = 0 by omega]; rfl) ?_
  exact lp _ (κ 24 3 0 - 2) (Nat.lt_succ_self _) (by omega)
theorem l_letFall0 {G : z_G} {D : Nat} {B : Nat → Int → Nat} {κ : c_K} {h : z_H} (hG : z_OK G) (hJ : cJ B κ) (hB : cB κ) (hV : cV κ) {r : Int} (hr : 0 ≤ r ∧ r ≤ 1000) (hpt : 1 ≤ κ 19 0 0 ∧ κ 19 0 0 ≤ 9) (h2 : κ 24 3 0 < 2) : z_T G mX1_letFall [.ref (B 11 0), z_i r] (cH D B κ h) 3 0 0 (fun v h' => v = none ∧ h' = cH D B (kFa κ (r - κ 19 0 0 + 1)) h) (z_no) := by
  obtain ⟨hn, hsz, hrw, hcu, htl, hth⟩ := id hV
  have hs0 := hsz 0 (by omega) (by omega)
  have hs1 := hsz 1 (by omega) (by omega)
  have hs2 := hsz 2 (by omega) (by omega)
  have hs3 := hsz 3 (by omega) (by omega)
  refine z_T_of hG pX1_letFall (Nat.le_of_ble_eq_true rfl) (ls0 := [(0, .ref (B 11 0)), (1, z_i r)]) rfl fun Y hY hg hmc hms hφ hψ => ?_
  subst hg
  refine z_iload hY eX1_letFall_0 1 rfl ?_
  refine z_aload hY eX1_letFall_1 0 rfl ?_
  have hb1 := hB 19 0 0
  refine c_gf hY hJ eX1_letFall_2 (t := 11) (i := 0) (v := z_i (κ 19 0 0)) (by omega) rfl rfl ?_
  refine z_isub hY eX1_letFall_5 ?_
  refine z_const hY eX1_letFall_6 ?_
  refine z_iadd hY eX1_letFall_7 ?_
  refine z_istore hY eX1_letFall_8 (ls' := [(2, z_i (r - (κ 19 0 0) + 1)), (0, .ref (B 11 0)), (1, z_i r)]) rfl ?_
  refine z_aload hY eX1_letFall_9 1 rfl ?_
  refine c_gf hY hJ eX1_letFall_10 (t := 11) (i := 0) (v := .ref (B 7 3)) (by omega) rfl rfl ?_
  refine z_callVr (As := []) (rest := []) (r := z_i (κ 24 3 0)) hY eX1_letFall_13 (c_size hG hJ hB hV (by omega)) (cH_at (t := 7) (i := 3) hJ (by omega)) (by decide) (Nat.le_of_ble_eq_true rfl) ⟨Nat.zero_le _, Nat.zero_le _⟩ ?_
  refine z_const hY eX1_letFall_16 ?_
  refine z_isub hY eX1_letFall_17 ?_
  refine z_istore hY eX1_letFall_18 (ls' := [(3, z_i ((κ 24 3 0) - 2)), (2, z_i (r - (κ 19 0 0) + 1)), (0, .ref (B 11 0)), (1, z_i r)]) rfl ?_
  refine z_iload hY eX1_letFall_19 0 rfl ?_
  refine z_iflt hY eX1_letFall_20 (by omega) (fun c20 => ?_) (fun c => by exfalso; omega)
  exact z_return hY eX1_letFall_108 rfl (by rw [hφ]; exact ⟨rfl, congrArg (fun q => cH D B q h) (if_pos h2).symm⟩) ⟨Nat.zero_le _, Nat.zero_le _⟩
theorem l_letFall {G : z_G} {D : Nat} {B : Nat → Int → Nat} {κ : c_K} {h : z_H} (hG : z_OK G) (hJ : cJ B κ) (hB : cB κ) (hV : cV κ) {r : Int} (hr : 0 ≤ r ∧ r ≤ 1000) (hpt : 1 ≤ κ 19 0 0 ∧ κ 19 0 0 ≤ 9) : z_T G mX1_letFall [.ref (B 11 0), z_i r] (cH D B κ h) 3 0 0 (fun v h' => v = none ∧ h' = cH D B (kFa κ (r - κ 19 0 0 + 1)) h) z_no := by
  by_cases h2 : κ 24 3 0 < 2
  · exact l_letFall0 hG hJ hB hV hr hpt h2
  · exact l_letFall1 hG hJ hB hV hr hpt (by omega)
end C9
