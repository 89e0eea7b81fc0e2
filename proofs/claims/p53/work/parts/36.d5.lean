/-! The hall: what its calls change (laid by wip/whole/gen/gm36.py). -/
section D5
theorem cS_Np {κ : c_K} (hS : cS κ) : ∀ m : Nat, m ≤ 30 → cS (kNp κ m) := by
  intro m
  induction m with
  | zero => intro _; exact hS
  | succ m ih =>
    intro hm
    exact cS_u (ih (by omega)) (by decide) ⟨by show (-1 : Int) ≤ _; omega, by show _ ≤ (30 : Int); omega⟩
theorem cV_Na {κ : c_K} (hV : cV κ) : cV (kNa κ) := cV_Np hV _
theorem cS_Na {κ : c_K} (hV : cV κ) (hS : cS κ) : cS (kNa κ) := by
  have h1 := hV.2.1 1 (by omega) (by omega)
  have h2 := hV.1
  exact cS_Np hS _ (by omega)
theorem cL_Na {κ : c_K} (t : Nat) (i : Int) : cL (kNa κ) t i ↔ cL κ t i := cL_Np _ t i
theorem cS_lst {κ κ' : c_K} (hS : cS κ) {r : Int} (hr : 1 ≤ r) (h : ∀ k, k ≠ 20 → k ≠ 24 → k ≠ 25 → k ≠ 26 → κ' k = κ k) (h2 : ∀ k i, i ≠ r → κ' k i = κ k i) (hb : ∀ k j, k = 20 ∨ k = 24 ∨ k = 25 ∨ k = 26 → -2147483648 ≤ κ' k r j ∧ κ' k r j ≤ 2147483647) : cS κ' := by
  refine ⟨fun k i j => ?_, ?_, ?_⟩
  · by_cases hk : k = 20 ∨ k = 24 ∨ k = 25 ∨ k = 26
    · by_cases hi : i = r
      · subst hi
        have := hb k j hk
        rcases hk with rfl | rfl | rfl | rfl <;> exact this
      · rw [h2 k i hi]; exact hS.1 k i j
    · rw [h k (by omega) (by omega) (by omega) (by omega)]; exact hS.1 k i j
  · rw [h2 24 0 (by omega), h2 20 0 (by omega)]; exact hS.2.1
  · rw [h2 24 0 (by omega), h 34 (by decide) (by decide) (by decide) (by decide)]; exact hS.2.2
theorem cS_Rw {κ : c_K} (hS : cS κ) {r mo n : Int} {f : Int → Int} (hr : 1 ≤ r) (hn : -2147483648 ≤ n ∧ n ≤ 2147483647) (hm : -2147483648 ≤ mo ∧ mo ≤ 2147483647) (hf : ∀ j, -2147483648 ≤ f j ∧ f j ≤ 2147483647) : cS (kRw κ r f n mo) := by
  have hR : ∀ (k : Nat) (j : Int), k = 20 ∨ k = 24 ∨ k = 25 ∨ k = 26 → -2147483648 ≤ kRw κ r f n mo k r j ∧ kRw κ r f n mo k r j ≤ 2147483647 := by
    intro k j hk
    have hB := hS.b
    exact cB_u (cB_u (cB_r hB hf) hn) hm k r j
  exact cS_lst hS hr (fun k a b c d => kRw_ne ⟨a, b, c⟩) (fun k i hi => kRw_ni hi) hR
theorem cS_Ad {κ : c_K} (hV : cV κ) (hS : cS κ) {r mo N : Int} {f : Int → Int} (hr : 1 ≤ r ∧ r ≤ 3) (hN : -2147483648 ≤ N ∧ N ≤ 2147483647) (hm : -2147483648 ≤ mo ∧ mo ≤ 2147483647) (hf : ∀ j, -2147483648 ≤ f j ∧ f j ≤ 2147483647) : cS (kAd κ r f mo N) := by
  have h1 := hV.2.1 r (by omega) (by omega)
  have h2 := hV.1
  have hR : ∀ (k : Nat) (j : Int), k = 20 ∨ k = 24 ∨ k = 25 ∨ k = 26 → -2147483648 ≤ kAd κ r f mo N k r j ∧ kAd κ r f mo N k r j ≤ 2147483647 := by
    intro k j hk
    have hB := hS.b
    exact cB_u (cB_u (cB_u (cB_r hB hf) (by omega)) hm) hN k r j
  exact cS_lst hS hr.1 (fun k a b c d => kAd_ne ⟨a, b, c, d⟩) (fun k i hi => kAd_ni hi) hR
theorem fIn_i {κ : c_K} (hS : cS κ) (hV : cV κ) {r i e : Int} (he : 0 ≤ e ∧ e < κ 24 0 0) (j : Int) : -2147483648 ≤ fIn κ r i e j ∧ fIn κ r i e j ≤ 2147483647 := by
  have h1 := hS.b 20 r j
  have h2 := hS.b 20 r (j - 1)
  have h3 := hV.1
  unfold fIn
  (repeat' split) <;> omega
theorem fDl_i {κ : c_K} (hS : cS κ) {r i : Int} (j : Int) : -2147483648 ≤ fDl κ r i j ∧ fDl κ r i j ≤ 2147483647 := by
  have h1 := hS.b 20 r j
  have h2 := hS.b 20 r (j + 1)
  unfold fDl
  split <;> omega
theorem S_In {κ : c_K} (hV : cV κ) (hS : cS κ) {r i e m N : Int} (hr : 1 ≤ r ∧ r ≤ 3) (hi : 0 ≤ i ∧ i ≤ κ 24 r 0) (he : 0 ≤ e ∧ e < κ 24 0 0) (hs : κ 24 r 0 + 1 ≤ κ 24 0 0) (hN : κ 24 r 0 + 1 ≤ N ∧ 0 < N ∧ N ≤ 45) : cV (kAd κ r (fIn κ r i e) (kW m) N) ∧ cS (kAd κ r (fIn κ r i e) (kW m) N) :=
  ⟨cV_Ad hV hr hs (by omega) (fIn_b hV (by omega) hi he), cS_Ad hV hS hr (by omega) (kW_b _) (fIn_i hS hV he)⟩
theorem S_Dl {κ : c_K} (hV : cV κ) (hS : cS κ) {r i m : Int} (hr : 1 ≤ r ∧ r ≤ 3) (hi : 0 ≤ i ∧ i < κ 24 r 0) : cV (kRw κ r (fDl κ r i) (κ 24 r 0 - 1) (kW m)) ∧ cS (kRw κ r (fDl κ r i) (κ 24 r 0 - 1) (kW m)) := by
  have h1 := hV.2.1 r (by omega) (by omega)
  have h2 := hV.1
  exact ⟨cV_Rw hV hr (by omega) (fDl_b hV (by omega) hi), cS_Rw hS hr.1 (by omega) (kW_b _) (fDl_i hS)⟩
theorem S_Ta {κ : c_K} (hV : cV κ) (hS : cS κ) (e : Int) : cV (kTa κ e) ∧ cS (kTa κ e) := by
  unfold kTa
  split
  · next h => have h1 := S_Dl hV hS (r := 1) (i := κ 37 e 0 - 1) (m := κ 25 1 0) (by omega) (by omega); exact ⟨cV_Na h1.1, cS_Na h1.1 h1.2⟩
  · exact ⟨cV_Na hV, cS_Na hV hS⟩
theorem L_Ta {κ : c_K} (e : Int) (t : Nat) (i : Int) : cL (kTa κ e) t i ↔ cL κ t i := by
  unfold kTa
  refine (cL_Na t i).trans ?_
  split
  · exact cL_Rw (by omega) t i
  · exact Iff.rfl
theorem S_Tp {κ : c_K} (hV : cV κ) (hS : cS κ) (e : Int) : cV (kTp κ e) ∧ cS (kTp κ e) := by
  unfold kTp
  rcases z_ff_s (fun i => κ 20 2 i = e) (κ 24 2 0) with ⟨h1, -⟩ | ⟨h1, h2, -, -⟩
  · rw [if_pos h1]; exact ⟨hV, hS⟩
  · rw [if_neg (by omega)]; exact S_Dl hV hS (by omega) ⟨h1, h2⟩
theorem L_Tp {κ : c_K} (e : Int) (t : Nat) (i : Int) : cL (kTp κ e) t i ↔ cL κ t i := by
  unfold kTp
  split
  · exact Iff.rfl
  · exact cL_Rw (by omega) t i
theorem S_Tl {κ : c_K} (hV : cV κ) (hS : cS κ) (e : Int) : cV (kTl κ e) ∧ cS (kTl κ e) := by
  unfold kTl
  rcases cLp_b (κ := κ) e with h1 | h1
  · rw [if_pos h1]; exact ⟨hV, hS⟩
  · rw [if_neg (by omega)]; exact S_Dl hV hS (by omega) (by omega)
theorem L_Tl {κ : c_K} (e : Int) (t : Nat) (i : Int) : cL (kTl κ e) t i ↔ cL κ t i := by
  unfold kTl
  split
  · exact Iff.rfl
  · exact cL_Rw (by omega) t i
theorem S_Jd {κ : c_K} (hV : cV κ) (hS : cS κ) (o e : Int) : cV (kJd κ o e) ∧ cS (kJd κ o e) := ⟨cV_r hV (by decide), cS_Jd hS o e⟩
theorem L_Jd {κ : c_K} (o e : Int) (t : Nat) (i : Int) : cL (kJd κ o e) t i ↔ cL κ t i := cL_r (by decide) t i
theorem S_u {κ : c_K} (hV : cV κ) (hS : cS κ) {k : Nat} {i j v : Int} (hk : k ≠ 5 ∧ k ≠ 17 ∧ k ≠ 20 ∧ k ≠ 24 ∧ k ≠ 26 ∧ k ≠ 34 ∧ k ≠ 36) (hv : bLo k ≤ v ∧ v ≤ bHi k) : cV (k_u κ k i j v) ∧ cS (k_u κ k i j v) := ⟨cV_u hV (by omega), cS_u hS (by omega) hv⟩
/-- what lies outside stays, what is alive stays alive at its place -/
def cF (B : Nat → Int → Nat) (κ : c_K) (h : z_H) (B' : Nat → Int → Nat) (κ' : c_K) (h' : z_H) : Prop := (∀ x c, h x = some c → (∀ t i, cL κ t i → B t i ≠ x) → h' x = some c ∧ ∀ t i, cL κ' t i → B' t i ≠ x) ∧ (∀ t i, t ≠ 8 → cL κ t i → cL κ' t i ∧ B' t i = B t i)
theorem cF_refl {B : Nat → Int → Nat} {κ : c_K} {h : z_H} : cF B κ h B κ h := ⟨fun _ _ h1 h2 => ⟨h1, h2⟩, fun _ _ _ h1 => ⟨h1, rfl⟩⟩
theorem cF_tr {B B1 B2 : Nat → Int → Nat} {κ κ1 κ2 : c_K} {h h1 h2 : z_H} (a : cF B κ h B1 κ1 h1) (b : cF B1 κ1 h1 B2 κ2 h2) : cF B κ h B2 κ2 h2 :=
  ⟨fun x c e1 e2 => b.1 x c (a.1 x c e1 e2).1 (a.1 x c e1 e2).2, fun t i ht hl => ⟨(b.2 t i ht (a.2 t i ht hl).1).1, (b.2 t i ht (a.2 t i ht hl).1).2.trans (a.2 t i ht hl).2⟩⟩
theorem cF_L {B : Nat → Int → Nat} {κ κ' : c_K} {h : z_H} (hL : ∀ t i, cL κ' t i ↔ cL κ t i) : cF B κ h B κ' h :=
  ⟨fun _ _ h1 h2 => ⟨h1, fun t i hl => h2 t i ((hL t i).mp hl)⟩, fun t i _ h1 => ⟨(hL t i).mpr h1, rfl⟩⟩
theorem cF_of {D : Nat} {B B' : Nat → Int → Nat} {κ κ' : c_K} {h h' : z_H} (hF : cFr D B κ h B' κ' h') (hn : κ 24 0 0 ≤ κ' 24 0 0) : cF B κ h B' κ' h' := by
  refine ⟨fun x c e1 e2 => ⟨(hF.1 x e2).trans e1, fun t i hl e => ?_⟩, fun t i ht hl => ⟨?_, hF.2.1 t i ht hl⟩⟩
  · rcases hF.2.2 t i hl with ⟨q1, q2⟩ | q
    · exact e2 t i q1 (q2.symm.trans e)
    · rw [e, cH_no e2, e1] at q
      cases q
  · rcases hl with h1 | h1 | h1 | h1 | h1
    · exact Or.inl h1
    · exact Or.inr (Or.inl h1)
    · exact Or.inr (Or.inr (Or.inl h1))
    · exact absurd h1.1 ht
    · exact Or.inr (Or.inr (Or.inr (Or.inr ⟨h1.1, h1.2.1, h1.2.2.1, by omega⟩)))
/-- a state of the class that follows -/
def cI (B : Nat → Int → Nat) (κ : c_K) (h : z_H) (B' : Nat → Int → Nat) (κ' : c_K) (h' : z_H) : Prop := cJ B' κ' ∧ (cV κ' ∧ cS κ') ∧ cF B κ h B' κ' h'
theorem cI_r {B : Nat → Int → Nat} {κ : c_K} {h : z_H} (hJ : cJ B κ) (hV : cV κ) (hS : cS κ) : cI B κ h B κ h := ⟨hJ, ⟨hV, hS⟩, cF_refl⟩
theorem cI_t {B B1 : Nat → Int → Nat} {κ κ1 κ2 : c_K} {h h1 : z_H} (hI : cI B κ h B1 κ1 h1) (hL : ∀ t i, cL κ2 t i ↔ cL κ1 t i) (hS : cV κ2 ∧ cS κ2) : cI B κ h B1 κ2 h1 := ⟨cJ_of hI.1 hL, hS, cF_tr hI.2.2 (cF_L hL)⟩
theorem cI_p {D : Nat} {B B1 B2 : Nat → Int → Nat} {κ κ1 κ2 : c_K} {h h1 h2 : z_H} (hI : cI B κ h B1 κ1 h1) (hJ : cJ B2 κ2) (hF : cFr D B1 κ1 h1 B2 κ2 h2) (hn : κ1 24 0 0 ≤ κ2 24 0 0) (hS : cV κ2 ∧ cS κ2) : cI B κ h B2 κ2 h2 := ⟨hJ, hS, cF_tr hI.2.2 (cF_of hF hn)⟩
/-- the standing when one is put into it -/
def kSp (κ : c_K) (e N : Int) : c_K := kNa (kAd κ 1 (fIn κ 1 (sW κ e) e) (kW (κ 25 1 0)) N)
/-- the row of points when one is put into it -/
def kPp (κ : c_K) (e N : Int) : c_K := kAd κ 2 (fIn κ 2 (pW κ e) e) (kW (κ 25 2 0)) N
theorem sW_b {κ : c_K} (hV : cV κ) (e : Int) : 0 ≤ sW κ e ∧ sW κ e ≤ κ 24 1 0 := z_fw_b _ (hV.2.1 1 (by omega) (by omega)).1
theorem pW_b {κ : c_K} (hV : cV κ) (e : Int) : 0 ≤ pW κ e ∧ pW κ e ≤ κ 24 2 0 := z_fw_b _ (hV.2.1 2 (by omega) (by omega)).1
theorem S_Sp {κ : c_K} (hV : cV κ) (hS : cS κ) {e N : Int} (he : 0 ≤ e ∧ e < κ 24 0 0) (hs : κ 24 1 0 + 1 ≤ κ 24 0 0) (hN : κ 24 1 0 + 1 ≤ N ∧ 0 < N ∧ N ≤ 45) : cV (kSp κ e N) ∧ cS (kSp κ e N) := by
  have h1 := S_In hV hS (r := 1) (m := κ 25 1 0) (by omega) (sW_b hV e) he hs hN
  exact ⟨cV_Na h1.1, cS_Na h1.1 h1.2⟩
theorem S_Pp {κ : c_K} (hV : cV κ) (hS : cS κ) {e N : Int} (he : 0 ≤ e ∧ e < κ 24 0 0) (hs : κ 24 2 0 + 1 ≤ κ 24 0 0) (hN : κ 24 2 0 + 1 ≤ N ∧ 0 < N ∧ N ≤ 45) : cV (kPp κ e N) ∧ cS (kPp κ e N) := S_In hV hS (r := 2) (m := κ 25 2 0) (by omega) (pW_b hV e) he hs hN
theorem kSp_n {κ : c_K} {e N : Int} : kSp κ e N 24 0 0 = κ 24 0 0 := by
  unfold kSp kNa
  rw [kNp_ne (by decide), kAd_ni (by omega)]
theorem kPp_n {κ : c_K} {e N : Int} : kPp κ e N 24 0 0 = κ 24 0 0 := by
  unfold kPp
  rw [kAd_ni (by omega)]
theorem m_sput {G : z_G} {D : Nat} {B B1 : Nat → Int → Nat} {κ κ1 : c_K} {h h1 : z_H} (hG : z_OK G) (hD : D = z_dc G) (hM : z_MI G) (hI : cI B κ h B1 κ1 h1) {e : Int} (he : 0 ≤ e ∧ e < κ1 24 0 0) (hs : κ1 24 1 0 + 1 ≤ κ1 24 0 0) : z_T G mX5_put [.ref (B1 9 0), .ref (B1 20 e)] (cH D B1 κ1 h1) 7 1 45 (fun v h' => v = none ∧ ∃ (N : Int) (e1 : Nat) (h2 : z_H), h' = cH D (bU B1 1 e1) (kSp κ1 e N) h2 ∧ (κ1 24 1 0 + 1 ≤ N ∧ 0 < N ∧ N ≤ 45) ∧ cI B κ h (bU B1 1 e1) (kSp κ1 e N) h2) z_no := by
  refine z_T.mono (s_put hG hD hI.1 hI.2.1.2.b hI.2.1.1 hM he hs) (fun v h' q => ?_) (fun _ _ q => q)
  obtain ⟨h0, e1, N1, h2, h3, h4, h5, h6⟩ := q
  exact ⟨h0, N1, e1, h2, h3, h5, cI_p hI h4 h6 (Int.le_of_eq kSp_n.symm) (S_Sp hI.2.1.1 hI.2.1.2 he hs h5)⟩
theorem m_pput {G : z_G} {D : Nat} {B B1 : Nat → Int → Nat} {κ κ1 : c_K} {h h1 : z_H} (hG : z_OK G) (hD : D = z_dc G) (hM : z_MI G) (hI : cI B κ h B1 κ1 h1) {e : Int} (he : 0 ≤ e ∧ e < κ1 24 0 0) (hs : κ1 24 2 0 + 1 ≤ κ1 24 0 0) : z_T G mX4_put [.ref (B1 10 0), .ref (B1 20 e)] (cH D B1 κ1 h1) 7 1 45 (fun v h' => v = none ∧ ∃ (N : Int) (e1 : Nat) (h2 : z_H), h' = cH D (bU B1 2 e1) (kPp κ1 e N) h2 ∧ (κ1 24 2 0 + 1 ≤ N ∧ 0 < N ∧ N ≤ 45) ∧ cI B κ h (bU B1 2 e1) (kPp κ1 e N) h2) z_no := by
  refine z_T.mono (p_put hG hD hI.1 hI.2.1.2.b hI.2.1.1 hM he) (fun v h' q => ?_) (fun _ _ q => q)
  obtain ⟨h0, e1, N1, h2, h3, h4, h5, h6⟩ := q
  exact ⟨h0, N1, e1, h2, h3, h5, cI_p hI h4 h6 (Int.le_of_eq kPp_n.symm) (S_Pp hI.2.1.1 hI.2.1.2 he hs h5)⟩
theorem S_Pb {κ : c_K} (hV : cV κ) (hS : cS κ) {b : Int} (hb : 0 ≤ b ∧ b ≤ 255) (h5 : κ 5 0 0 + (if b = 0 then 0 else 1) ≤ 100) : cV (kPb κ b) ∧ cS (kPb κ b) := by
  have h6 := hV.2.2.2.2.1
  unfold kPb
  split
  · exact ⟨hV, hS⟩
  · next hb0 =>
    rw [if_neg hb0] at h5
    exact ⟨cV_5 (cV_u hV (by decide)) (by omega), cS_u (cS_u hS (by decide) hb) (by decide) ⟨by show (0 : Int) ≤ _; omega, by show _ ≤ (100 : Int); omega⟩⟩
theorem L_Pb {κ : c_K} (b : Int) (t : Nat) (i : Int) : cL (kPb κ b) t i ↔ cL κ t i := by
  unfold kPb
  split
  · exact Iff.rfl
  · exact (cL_u (by decide) t i).trans (cL_u (by decide) t i)
theorem S_Tk {κ : c_K} (hV : cV κ) (hS : cS κ) {v : Int} (h5 : κ 5 0 0 + yBy v ≤ 100) : cV (kTk κ v) ∧ cS (kTk κ v) := by
  have e1 := kPb_5 κ (v / 16777216 % 256)
  have e2 := kPb_5 (kPb κ (v / 16777216 % 256)) (v / 65536 % 256)
  have e3 := kPb_5 (kPb (kPb κ (v / 16777216 % 256)) (v / 65536 % 256)) (v / 256 % 256)
  unfold yBy at h5
  have s1 := S_Pb hV hS (b := v / 16777216 % 256) (by omega) (by omega)
  have s2 := S_Pb s1.1 s1.2 (b := v / 65536 % 256) (by omega) (by omega)
  have s3 := S_Pb s2.1 s2.2 (b := v / 256 % 256) (by omega) (by omega)
  exact S_Pb s3.1 s3.2 (b := v / 1 % 256) (by omega) (by omega)
theorem L_Tk {κ : c_K} (v : Int) (t : Nat) (i : Int) : cL (kTk κ v) t i ↔ cL κ t i := ((L_Pb _ t i).trans (L_Pb _ t i)).trans ((L_Pb _ t i).trans (L_Pb _ t i))
theorem kTa_ne {κ : c_K} {e : Int} {k : Nat} (h : k ≠ 20 ∧ k ≠ 24 ∧ k ≠ 25 ∧ k ≠ 37) : kTa κ e k = κ k := by
  unfold kTa kNa
  rw [kNp_ne h.2.2.2]
  split
  · exact kRw_ne ⟨h.1, h.2.1, h.2.2.1⟩
  · rfl
theorem kTa_ni {κ : c_K} {e : Int} {k : Nat} {i : Int} (h : k ≠ 37) (hi : i ≠ 1) : kTa κ e k i = κ k i := by
  unfold kTa kNa
  rw [kNp_ne h]
  split
  · exact kRw_ni hi
  · rfl
theorem kTa_24 {κ : c_K} {e : Int} (h : 1 ≤ κ 37 e 0 ∧ κ 37 e 0 ≤ κ 24 1 0) : kTa κ e 24 1 0 = κ 24 1 0 - 1 := by
  unfold kTa kNa
  rw [kNp_ne (by decide), if_pos h, kRw_24]
theorem kTp_ne {κ : c_K} {e : Int} {k : Nat} (h : k ≠ 20 ∧ k ≠ 24 ∧ k ≠ 25) : kTp κ e k = κ k := by
  unfold kTp
  split
  · rfl
  · exact kRw_ne h
theorem kTp_ni {κ : c_K} {e : Int} {k : Nat} {i : Int} (hi : i ≠ 2) : kTp κ e k i = κ k i := by
  unfold kTp
  split
  · rfl
  · exact kRw_ni hi
theorem kTp_24 {κ : c_K} {e : Int} (h : z_ff (fun i => κ 20 2 i = e) (κ 24 2 0) ≠ -1) : kTp κ e 24 2 0 = κ 24 2 0 - 1 := by
  unfold kTp
  rw [if_neg h, kRw_24]
theorem kTl_ne {κ : c_K} {e : Int} {k : Nat} (h : k ≠ 20 ∧ k ≠ 24 ∧ k ≠ 25) : kTl κ e k = κ k := by
  unfold kTl
  split
  · rfl
  · exact kRw_ne h
theorem kTl_ni {κ : c_K} {e : Int} {k : Nat} {i : Int} (hi : i ≠ 3) : kTl κ e k i = κ k i := by
  unfold kTl
  split
  · rfl
  · exact kRw_ni hi
theorem kPp_ne {κ : c_K} {e N : Int} {k : Nat} (h : k ≠ 20 ∧ k ≠ 24 ∧ k ≠ 25 ∧ k ≠ 26) : kPp κ e N k = κ k := kAd_ne h
theorem kPp_ni {κ : c_K} {e N : Int} {k : Nat} {i : Int} (h : i ≠ 2) : kPp κ e N k i = κ k i := kAd_ni h
theorem kJd_ne {κ : c_K} {o e : Int} {k : Nat} (h : k ≠ 31) : kJd κ o e k = κ k := k_r_ne h
def kC5 (κ : c_K) (e k v N : Int) : c_K := if k = 0 ∧ v ≠ κ 30 e 0 then kPp (k_u (k_u (kTp (kTa κ e) e) 38 e 0 (kTp (kTa κ e) e 38 e 0 + v - kTp (kTa κ e) e 30 e 0)) 30 e k v) e N else k_u (kTa κ e) 30 e k v
/-- the class when a score is changed -/
def kCs (κ : c_K) (e k v N1 N2 : Int) : c_K := kSp (kJd (kC5 κ e k v N1) (kC5 κ e k v N1 17 0 0) e) e N2
/-- what a present entrant bears out: its place, its place in the row of points, what it had as the round began -/
def cX (κ : c_K) (e : Int) : Prop := (1 ≤ κ 37 e 0 ∧ κ 37 e 0 ≤ κ 24 1 0) ∧ z_ff (fun i => κ 20 2 i = e) (κ 24 2 0) ≠ -1 ∧ (-100000 ≤ κ 38 e 0 - κ 30 e 0 ∧ κ 38 e 0 - κ 30 e 0 ≤ 100000)
/-- the class when one leaves -/
def kLv (κ : c_K) (e : Int) : c_K := k_u (k_u (kTl (kTp (kTa κ e) e) e) 36 e 0 0) 37 e 0 (-1)
theorem S_36 {κ : c_K} (hV : cV κ) (hS : cS κ) {i v : Int} (hv : v = 0 ∨ v = 1) : cV (k_u κ 36 i 0 v) ∧ cS (k_u κ 36 i 0 v) := ⟨cV_36 hV hv, cS_u hS (by decide) ⟨by show (0 : Int) ≤ _; omega, by show _ ≤ (1 : Int); omega⟩⟩
theorem S_5 {κ : c_K} (hV : cV κ) (hS : cS κ) {v : Int} (hv : 0 ≤ v ∧ v ≤ 100) : cV (k_u κ 5 0 0 v) ∧ cS (k_u κ 5 0 0 v) := ⟨cV_5 hV hv, cS_u hS (by decide) hv⟩
/-- the ladder when the one at the place a is raised to the place b -/
def kRz (κ : c_K) (a b N : Int) : c_K := kAd (kRs κ a) 3 (fIn (kRs κ a) 3 (b - 1) (κ 20 3 (a - 1))) (kW (kRs κ a 25 3 0)) N
/-- the ladder when one enters it -/
def kEn (κ : c_K) (e t N : Int) : c_K := kAd (k_u κ 39 e 0 t) 3 (fun j => if j = κ 24 3 0 then e else κ 20 3 j) (kW (k_u κ 39 e 0 t 25 3 0)) N
theorem L_Rs {κ : c_K} (a : Int) (t : Nat) (i : Int) : cL (kRs κ a) t i ↔ cL κ t i := cL_Rw (by omega) t i
theorem S_Rz {κ : c_K} (hV : cV κ) (hS : cS κ) {a b N : Int} (hab : 1 ≤ b ∧ b < a ∧ a ≤ κ 24 3 0) (hN : kRs κ a 24 3 0 + 1 ≤ N ∧ 0 < N ∧ N ≤ 45) : cV (kRz κ a b N) ∧ cS (kRz κ a b N) := by
  have h0 : kRs κ a 24 3 0 = κ 24 3 0 - 1 := kRw_24
  have h00 : kRs κ a 24 0 0 = κ 24 0 0 := by unfold kRs; rw [kRw_ni (by omega)]
  have h1 : cV (kRs κ a) ∧ cS (kRs κ a) := S_Dl hV hS (r := 3) (i := a - 1) (by omega) (by omega)
  have h2 := hV.2.1 3 (by omega) (by omega)
  have h3 := hV.2.2.1 3 (a - 1) (by omega) (by omega) (by omega) (by omega)
  exact S_In h1.1 h1.2 (r := 3) (m := kRs κ a 25 3 0) (by omega) (by omega) (by omega) (by omega) hN
theorem m_raise {G : z_G} {D : Nat} {B B1 : Nat → Int → Nat} {κ κ1 : c_K} {h h1 : z_H} (hG : z_OK G) (hD : D = z_dc G) (hM : z_MI G) (hI : cI B κ h B1 κ1 h1) {a b : Int} (hab : 1 ≤ b ∧ b < a ∧ a ≤ κ1 24 3 0) : z_T G mX1_raise [.ref (B1 11 0), z_i a, z_i b] (cH D B1 κ1 h1) 7 1 45 (fun v h' => v = none ∧ ∃ (N : Int) (e1 : Nat) (h2 : z_H), h' = cH D (bU B1 3 e1) (kRz κ1 a b N) h2 ∧ cI B κ h (bU B1 3 e1) (kRz κ1 a b N) h2) z_no := by
  refine z_T.mono (l_raise hG hD hI.1 hI.2.1.2.b hI.2.1.1 hM hab) (fun v h' q => ?_) (fun _ _ q => q)
  obtain ⟨h0, e1, N1, h2, h3, h4, h5, h6⟩ := q
  refine ⟨h0, N1, e1, h2, h3, cI_p hI h4 (cFr_l hI.1 (L_Rs a) h6) (Int.le_of_eq ?_) (S_Rz hI.2.1.1 hI.2.1.2 hab h5)⟩
  unfold kRz
  rw [kAd_ni (by omega)]
  unfold kRs
  rw [kRw_ni (by omega)]
theorem S_En {κ : c_K} (hV : cV κ) (hS : cS κ) {e t N : Int} (he : 0 ≤ e ∧ e < κ 24 0 0) (ht : -1 ≤ t ∧ t ≤ 200) (hr : κ 24 3 0 + 1 ≤ κ 24 0 0) (hN : κ 24 3 0 + 1 ≤ N ∧ 0 < N ∧ N ≤ 45) : cV (kEn κ e t N) ∧ cS (kEn κ e t N) := by
  have h1 := S_u hV hS (k := 39) (i := e) (j := 0) (v := t) (by decide) ⟨by show (-1 : Int) ≤ _; omega, by show _ ≤ (200 : Int); omega⟩
  have h2 := hV.1
  refine ⟨cV_Ad h1.1 (by omega) hr ⟨hN.1, hN.2.2⟩ fun j q1 q2 => ?_, cS_Ad h1.1 h1.2 (by omega) (by omega) (kW_b _) fun j => ?_⟩
  · show 0 ≤ ite _ _ _ ∧ ite _ _ _ < κ 24 0 0
    split
    · exact he
    · exact hV.2.2.1 3 j (by omega) (by omega) q1 (by have : k_u κ 39 e 0 t 24 3 0 = κ 24 3 0 := rfl; omega)
  · have := hS.b 20 3 j
    split <;> omega
theorem m_enter {G : z_G} {D : Nat} {B B1 : Nat → Int → Nat} {κ κ1 : c_K} {h h1 : z_H} (hG : z_OK G) (hD : D = z_dc G) (hM : z_MI G) (hI : cI B κ h B1 κ1 h1) {e t : Int} (he : 0 ≤ e ∧ e < κ1 24 0 0) (ht : -1 ≤ t ∧ t ≤ 200) (hr : κ1 24 3 0 + 1 ≤ κ1 24 0 0) : z_T G mX1_put [.ref (B1 11 0), .ref (B1 20 e), z_i t] (cH D B1 κ1 h1) 7 1 45 (fun v h' => v = none ∧ ∃ (N : Int) (e1 : Nat) (h2 : z_H), h' = cH D (bU B1 3 e1) (kEn κ1 e t N) h2 ∧ cI B κ h (bU B1 3 e1) (kEn κ1 e t N) h2) z_no := by
  refine z_T.mono (l_put hG hD hI.1 hI.2.1.2.b hI.2.1.1 hM he) (fun v h' q => ?_) (fun _ _ q => q)
  obtain ⟨h0, e1, N1, h2, h3, h4, h5, h6⟩ := q
  refine ⟨h0, N1, e1, h2, h3, cI_p hI h4 (cFr_l hI.1 (cL_u (by decide)) h6) (Int.le_of_eq ?_) (S_En hI.2.1.1 hI.2.1.2 he ht hr h5)⟩
  unfold kEn
  rw [kAd_ni (by omega)]
  rfl
/-- the class when a challenge is done -/
def kCh (κ : c_K) (e o : Int) : c_K := k_u (k_u κ 40 e 0 (κ 1 0 0)) 40 o 0 (κ 1 0 0)
/-- the first m entrants keep the round r -/
def kKs (κ : c_K) (r : Int) : Nat → c_K
  | 0 => κ
  | m + 1 => kK (kKs κ r m) m r
theorem kKs_S {κ : c_K} {r i : Int} (h : 0 ≤ i) : kK (kKs κ r i.toNat) i r = kKs κ r (i + 1).toNat := by
  rw [show (i + 1).toNat = i.toNat + 1 by omega]
  show _ = kK (kKs κ r i.toNat) (i.toNat : Int) r
  rw [Int.toNat_of_nonneg h]
theorem S_K {κ : c_K} (hV : cV κ) (hS : cS κ) (e r : Int) : cV (kK κ e r) ∧ cS (kK κ e r) := by
  have h1 := hS.s38 e 0
  have h2 := hS.s37 e 0
  have hb32 : ∀ v : Int, -200000 ≤ v ∧ v ≤ 200000 → bLo 32 ≤ v ∧ v ≤ bHi 32 := fun v hv => hv
  have hb33 : ∀ v : Int, -1 ≤ v ∧ v ≤ 30 → bLo 33 ≤ v ∧ v ≤ bHi 33 := fun v hv => hv
  have hb38 : ∀ v : Int, -200000 ≤ v ∧ v ≤ 200000 → bLo 38 ≤ v ∧ v ≤ bHi 38 := fun v hv => hv
  unfold kK
  split
  · exact ⟨cV_u (cV_u (cV_u hV (by decide)) (by decide)) (by decide), cS_u (cS_u (cS_u hS (by decide) (hb32 _ (by omega))) (by decide) (hb33 _ (by omega))) (by decide) (hb38 _ (by omega))⟩
  · exact ⟨cV_u (cV_u (cV_u hV (by decide)) (by decide)) (by decide), cS_u (cS_u (cS_u hS (by decide) (hb32 _ h1)) (by decide) (hb33 _ h2)) (by decide) (hb38 _ (by omega))⟩
theorem kK_ne {κ : c_K} {e r : Int} {k : Nat} (h : k ≠ 32 ∧ k ≠ 33 ∧ k ≠ 38) : kK κ e r k = κ k := by
  unfold kK
  split <;> rw [k_u_ne h.2.2, k_u_ne h.2.1, k_u_ne h.1]
theorem L_K {κ : c_K} (e r : Int) (t : Nat) (i : Int) : cL (kK κ e r) t i ↔ cL κ t i := cL_other (by rw [kK_ne (by decide)]) (fun i => by rw [kK_ne (by decide)]) t i
theorem kKs_ne {κ : c_K} {r : Int} {k : Nat} (h : k ≠ 32 ∧ k ≠ 33 ∧ k ≠ 38) : ∀ m, kKs κ r m k = κ k := by
  intro m
  induction m with
  | zero => rfl
  | succ m ih => exact (kK_ne h).trans ih
theorem S_Ks {κ : c_K} (hV : cV κ) (hS : cS κ) (r : Int) : ∀ m, cV (kKs κ r m) ∧ cS (kKs κ r m) := by
  intro m
  induction m with
  | zero => exact ⟨hV, hS⟩
  | succ m ih => exact S_K ih.1 ih.2 _ _
theorem L_Ks {κ : c_K} (r : Int) (m : Nat) (t : Nat) (i : Int) : cL (kKs κ r m) t i ↔ cL κ t i := cL_other (by rw [kKs_ne (by decide)]) (fun i => by rw [kKs_ne (by decide)]) t i
theorem cS_Fs {κ : c_K} (hS : cS κ) {a : Int} : ∀ j : Nat, cS (kFs κ a j) := by
  intro j
  refine cS_lst hS (r := 3) (by omega) (fun k h1 _ _ _ => kFs_ne h1 j) (fun k i hi => ?_) (fun k i hk => ?_)
  · by_cases hk : k = 20
    · subst hk; exact kFs_ni hi j
    · rw [kFs_ne hk]
  · have hB := hS.b
    have h1 : ∀ j : Nat, cB (kFs κ a j) := by
      intro j
      induction j with
      | zero => exact hB
      | succ j ih =>
        unfold kFs
        split
        · exact cB_u (cB_u ih (ih _ _ _)) (hB _ _ _)
        · exact ih
    exact h1 j k 3 i
theorem S_Fa {κ : c_K} (hV : cV κ) (hS : cS κ) (a : Int) : cV (kFa κ a) ∧ cS (kFa κ a) := by
  unfold kFa
  split
  · exact ⟨hV, hS⟩
  · exact ⟨cV_Fs hV _ (by omega), cS_Fs hS _⟩
theorem kFa_ne {κ : c_K} {a : Int} {k : Nat} (h : k ≠ 20) : kFa κ a k = κ k := by
  unfold kFa
  split
  · rfl
  · exact kFs_ne h _
theorem L_Fa {κ : c_K} (a : Int) (t : Nat) (i : Int) : cL (kFa κ a) t i ↔ cL κ t i := cL_other (by rw [kFa_ne (by decide)]) (fun i => by rw [kFa_ne (by decide)]) t i
/-- the class when a round is over -/
def kEr (κ : c_K) : c_K := k_u (kKs (kFa κ (κ 1 0 0 - κ 19 0 0 + 1)) (κ 1 0 0) (κ 24 0 0).toNat) 1 0 0 (κ 1 0 0 + 1)

theorem c_changeScore {G : z_G} {D : Nat} {B : Nat → Int → Nat} {κ : c_K} {h : z_H} (hG : z_OK G) (hD : D = z_dc G) (hM : z_MI G) (hJ : cJ B κ) (hB : cB κ) (hV : cV κ) (hS : cS κ) {e k v : Int} (he : 0 ≤ e ∧ e < κ 24 0 0) (hk : 0 ≤ k ∧ k ≤ 3) (hv : -100000 ≤ v ∧ v ≤ 100000) (hp : 1 ≤ κ 37 e 0 ∧ κ 37 e 0 ≤ κ 24 1 0) (hfd : z_ff (fun i => κ 20 2 i = e) (κ 24 2 0) ≠ -1) (hg : -200000 ≤ κ 38 e 0 + v - κ 30 e 0 ∧ κ 38 e 0 + v - κ 30 e 0 ≤ 200000) : z_T G mX7_changeScore [.ref (B 0 0), .ref (B 20 e), z_i k, z_i v] (cH D B κ h) 8 2 90 (fun v' h' => v' = none ∧ ∃ (κ' : c_K) (B' : Nat → Int → Nat) (h2 : z_H), h' = cH D B' κ' h2 ∧ cI B κ h B' κ' h2 ∧ ∃ N1 N2, κ' = kCs κ e k v N1 N2) (z_no) := by
  obtain ⟨hn, hsz, hrw, hcu, htl, hth⟩ := id hV
  have hs0 := hsz 0 (by omega) (by omega)
  have hs1 := hsz 1 (by omega) (by omega)
  have hs2 := hsz 2 (by omega) (by omega)
  have hs3 := hsz 3 (by omega) (by omega)
  refine z_T_of hG pX7_changeScore (Nat.le_of_ble_eq_true rfl) (ls0 := [(0, .ref (B 0 0)), (1, .ref (B 20 e)), (2, z_i k), (3, z_i v)]) rfl fun Y hY hg hmc hms hφ hψ => ?_
  subst hg
  have hI0 := cI_r (h := h) hJ hV hS
  refine z_aload hY eX7_changeScore_0 0 rfl ?_
  refine c_gf hY hI0.1 eX7_changeScore_1 (t := 0) (i := 0) (v := .ref (B 9 0)) (by omega) rfl rfl ?_
  refine z_aload hY eX7_changeScore_4 1 rfl ?_
  refine z_callV (As := [.ref (B 20 e)]) (rest := []) hY eX7_changeScore_5 (s_take (B := B) (κ := κ) hG hI0.1 hI0.2.1.2.b hI0.2.1.1 (by omega) (by omega)) (cH_at (B := B) (t := 9) (i := 0) hI0.1 (by omega)) (by decide) (Nat.le_of_ble_eq_true rfl) ⟨Nat.zero_le _, Nat.zero_le _⟩ (fun _ _ q => q.elim) (fun vv1 hh1 q1 => ?_)
  obtain ⟨rfl, rfl⟩ := q1
  obtain ⟨κ2, hk2⟩ : ∃ qq, qq = kTa κ e := ⟨_, rfl⟩
  refine z_heq (congrArg (fun q => cH D B q h) hk2.symm) ?_
  have hI2 : cI B κ h B κ2 h := hk2 ▸ cI_t hI0 (L_Ta e) (S_Ta hI0.2.1.1 hI0.2.1.2 e)
  have hn3 : κ2 24 0 0 = κ 24 0 0 := by rw [hk2]; rw [kTa_ni (by decide) (by decide)]
  have hn4 : κ2 24 2 0 = κ 24 2 0 := by rw [hk2]; rw [kTa_ni (by decide) (by decide)]
  have hn5 : κ2 24 3 0 = κ 24 3 0 := by rw [hk2]; rw [kTa_ni (by decide) (by decide)]
  have hn6 : κ2 24 1 0 = κ 24 1 0 - 1 := by rw [hk2]; exact kTa_24 (by omega)
  have hn7 : κ2 20 2 = κ 20 2 := by rw [hk2]; rw [kTa_ni (by decide) (by decide)]
  have hn8 : κ2 17 0 0 = κ 17 0 0 := by rw [hk2]; rw [kTa_ne (by decide)]
  have hn9 : κ2 30 e 0 = κ 30 e 0 := by rw [hk2]; rw [kTa_ne (by decide)]
  have hn10 : κ2 38 e 0 = κ 38 e 0 := by rw [hk2]; rw [kTa_ne (by decide)]
  refine z_iload hY eX7_changeScore_8 2 rfl ?_
  refine z_ifne hY eX7_changeScore_9 (by omega) (fun c9 => ?_) (fun c9 => ?_)
  · refine z_aload hY eX7_changeScore_60 1 rfl ?_
    refine z_iload hY eX7_changeScore_61 2 rfl ?_
    refine z_iload hY eX7_changeScore_62 3 rfl ?_
    refine z_callV (As := [z_i k, z_i v]) (rest := []) hY eX7_changeScore_63 (e_putScore (B := B) (κ := κ2) hG hI2.1 hI2.2.1.2.b hI2.2.1.1 (by omega) (by omega)) (cH_at (B := B) (t := 20) (i := e) hI2.1 ((hI2.2.2.2 _ _ (by decide) (by omega)).1)) (by decide) (Nat.le_of_ble_eq_true rfl) ⟨Nat.zero_le _, Nat.zero_le _⟩ (fun _ _ q => q.elim) (fun vv11 hh11 q11 => ?_)
    obtain ⟨rfl, rfl⟩ := q11
    obtain ⟨κ12, hk12⟩ : ∃ qq, qq = k_u κ2 30 e k v := ⟨_, rfl⟩
    refine z_heq (congrArg (fun q => cH D B q h) hk12.symm) ?_
    have hI12 : cI B κ h B κ12 h := hk12 ▸ cI_t hI2 (cL_u (by decide)) (S_u hI2.2.1.1 hI2.2.1.2 (by decide) ⟨by show (-100000 : Int) ≤ _; omega, by show _ ≤ (100000 : Int); omega⟩)
    have hn13 : κ12 24 0 0 = κ2 24 0 0 := by rw [hk12]; rw [k_u_ne (by decide)]
    have hn14 : κ12 24 1 0 = κ2 24 1 0 := by rw [hk12]; rw [k_u_ne (by decide)]
    have hn15 : κ12 24 2 0 = κ2 24 2 0 := by rw [hk12]; rw [k_u_ne (by decide)]
    have hn16 : κ12 24 3 0 = κ2 24 3 0 := by rw [hk12]; rw [k_u_ne (by decide)]
    have hn17 : κ12 17 0 0 = κ2 17 0 0 := by rw [hk12]; rw [k_u_ne (by decide)]
    refine z_aload hY eX7_changeScore_66 0 rfl ?_
    have hb18 := hI12.2.1.2.s17 0 0
    refine c_gf hY hI12.1 eX7_changeScore_67 (t := 0) (i := 0) (v := .ref (B 4 (κ12 17 0 0))) ((hI12.2.2.2 _ _ (by decide) (by omega)).1) rfl rfl ?_
    refine z_aload hY eX7_changeScore_70 1 rfl ?_
    refine z_callV (As := [.ref (B 20 e)]) (rest := []) hY eX7_changeScore_71 (t_judge (B := B) (κ := κ12) hG hI12.1 hI12.2.1.1 hI12.2.1.2 (by omega) (show -1 ≤ e ∧ e < _ by omega)) (cH_at (B := B) (t := 4) (i := (κ12 17 0 0)) hI12.1 ((hI12.2.2.2 _ _ (by decide) (by omega)).1)) (by decide) (Nat.le_of_ble_eq_true rfl) ⟨Nat.zero_le _, Nat.zero_le _⟩ (fun _ _ q => q.elim) (fun vv19 hh19 q19 => ?_)
    obtain ⟨rfl, rfl⟩ := q19
    obtain ⟨κ20, hk20⟩ : ∃ qq, qq = kJd κ12 (κ12 17 0 0) e := ⟨_, rfl⟩
    refine z_heq (congrArg (fun q => cH D B q h) hk20.symm) ?_
    have hI20 : cI B κ h B κ20 h := hk20 ▸ cI_t hI12 (L_Jd _ _) (S_Jd hI12.2.1.1 hI12.2.1.2 _ _)
    have hn21 : κ20 24 0 0 = κ12 24 0 0 := by rw [hk20]; rw [kJd_ne (by decide)]
    have hn22 : κ20 24 1 0 = κ12 24 1 0 := by rw [hk20]; rw [kJd_ne (by decide)]
    have hn23 : κ20 24 2 0 = κ12 24 2 0 := by rw [hk20]; rw [kJd_ne (by decide)]
    have hn24 : κ20 24 3 0 = κ12 24 3 0 := by rw [hk20]; rw [kJd_ne (by decide)]
    refine z_aload hY eX7_changeScore_74 0 rfl ?_
    refine c_gf hY hI20.1 eX7_changeScore_75 (t := 0) (i := 0) (v := .ref (B 9 0)) ((hI20.2.2.2 _ _ (by decide) (by omega)).1) rfl rfl ?_
    refine z_aload hY eX7_changeScore_78 1 rfl ?_
    refine z_callV (As := [.ref (B 20 e)]) (rest := []) hY eX7_changeScore_79 (m_sput (B1 := B) (κ1 := κ20) (h1 := h) hG hD hM hI20 (by omega) (by omega)) (cH_at (B := B) (t := 9) (i := 0) hI20.1 ((hI20.2.2.2 _ _ (by decide) (by omega)).1)) (by decide) (Nat.le_of_ble_eq_true rfl) (by rw [hmc, hms]; omega) (fun _ _ q => q.elim) (fun vv25 hh25 q25 => ?_)
    obtain ⟨rfl, N25, a25, g25, rfl, hN25, hI25⟩ := q25
    obtain ⟨κ26, hk26⟩ : ∃ qq, qq = kSp κ20 e N25 := ⟨_, rfl⟩
    refine z_heq (congrArg (fun q => cH D (bU B 1 a25) q g25) hk26.symm) ?_
    have hI26 : cI B κ h (bU B 1 a25) κ26 g25 := hk26 ▸ hI25
    exact z_return hY eX7_changeScore_82 rfl (by rw [hφ]; subst_vars; exact ⟨rfl, _, _, _, rfl, hI26, 0, _, by unfold kCs kC5; first | rw [if_pos ⟨by omega, by omega⟩] | rw [if_neg (by omega)]⟩) (by rw [hmc, hms]; omega)
  · refine z_iload hY eX7_changeScore_12 3 rfl ?_
    refine z_aload hY eX7_changeScore_13 1 rfl ?_
    refine z_callVr (As := []) (rest := [z_i v]) (r := z_i (κ2 30 e 0)) hY eX7_changeScore_14 (e_points (B := B) (κ := κ2) hG hI2.1 hI2.2.1.2.b hI2.2.1.1 (show -1 ≤ e ∧ e < _ by omega)) (cH_at (B := B) (t := 20) (i := e) hI2.1 ((hI2.2.2.2 _ _ (by decide) (by omega)).1)) (by decide) (Nat.le_of_ble_eq_true rfl) ⟨Nat.zero_le _, Nat.zero_le _⟩ ?_
    have hc27 := hI2.2.1.2.s30 e 0
    refine z_icmpeq hY eX7_changeScore_17 (by omega) (fun c17 => ?_) (fun c17 => ?_)
    · refine z_aload hY eX7_changeScore_60 1 rfl ?_
      refine z_iload hY eX7_changeScore_61 2 rfl ?_
      refine z_iload hY eX7_changeScore_62 3 rfl ?_
      refine z_callV (As := [z_i k, z_i v]) (rest := []) hY eX7_changeScore_63 (e_putScore (B := B) (κ := κ2) hG hI2.1 hI2.2.1.2.b hI2.2.1.1 (by omega) (by omega)) (cH_at (B := B) (t := 20) (i := e) hI2.1 ((hI2.2.2.2 _ _ (by decide) (by omega)).1)) (by decide) (Nat.le_of_ble_eq_true rfl) ⟨Nat.zero_le _, Nat.zero_le _⟩ (fun _ _ q => q.elim) (fun vv28 hh28 q28 => ?_)
      obtain ⟨rfl, rfl⟩ := q28
      obtain ⟨κ29, hk29⟩ : ∃ qq, qq = k_u κ2 30 e k v := ⟨_, rfl⟩
      refine z_heq (congrArg (fun q => cH D B q h) hk29.symm) ?_
      have hI29 : cI B κ h B κ29 h := hk29 ▸ cI_t hI2 (cL_u (by decide)) (S_u hI2.2.1.1 hI2.2.1.2 (by decide) ⟨by show (-100000 : Int) ≤ _; omega, by show _ ≤ (100000 : Int); omega⟩)
      have hn30 : κ29 24 0 0 = κ2 24 0 0 := by rw [hk29]; rw [k_u_ne (by decide)]
      have hn31 : κ29 24 1 0 = κ2 24 1 0 := by rw [hk29]; rw [k_u_ne (by decide)]
      have hn32 : κ29 24 2 0 = κ2 24 2 0 := by rw [hk29]; rw [k_u_ne (by decide)]
      have hn33 : κ29 24 3 0 = κ2 24 3 0 := by rw [hk29]; rw [k_u_ne (by decide)]
      have hn34 : κ29 17 0 0 = κ2 17 0 0 := by rw [hk29]; rw [k_u_ne (by decide)]
      refine z_aload hY eX7_changeScore_66 0 rfl ?_
      have hb35 := hI29.2.1.2.s17 0 0
      refine c_gf hY hI29.1 eX7_changeScore_67 (t := 0) (i := 0) (v := .ref (B 4 (κ29 17 0 0))) ((hI29.2.2.2 _ _ (by decide) (by omega)).1) rfl rfl ?_
      refine z_aload hY eX7_changeScore_70 1 rfl ?_
      refine z_callV (As := [.ref (B 20 e)]) (rest := []) hY eX7_changeScore_71 (t_judge (B := B) (κ := κ29) hG hI29.1 hI29.2.1.1 hI29.2.1.2 (by omega) (show -1 ≤ e ∧ e < _ by omega)) (cH_at (B := B) (t := 4) (i := (κ29 17 0 0)) hI29.1 ((hI29.2.2.2 _ _ (by decide) (by omega)).1)) (by decide) (Nat.le_of_ble_eq_true rfl) ⟨Nat.zero_le _, Nat.zero_le _⟩ (fun _ _ q => q.elim) (fun vv36 hh36 q36 => ?_)
      obtain ⟨rfl, rfl⟩ := q36
      obtain ⟨κ37, hk37⟩ : ∃ qq, qq = kJd κ29 (κ29 17 0 0) e := ⟨_, rfl⟩
      refine z_heq (congrArg (fun q => cH D B q h) hk37.symm) ?_
      have hI37 : cI B κ h B κ37 h := hk37 ▸ cI_t hI29 (L_Jd _ _) (S_Jd hI29.2.1.1 hI29.2.1.2 _ _)
      have hn38 : κ37 24 0 0 = κ29 24 0 0 := by rw [hk37]; rw [kJd_ne (by decide)]
      have hn39 : κ37 24 1 0 = κ29 24 1 0 := by rw [hk37]; rw [kJd_ne (by decide)]
      have hn40 : κ37 24 2 0 = κ29 24 2 0 := by rw [hk37]; rw [kJd_ne (by decide)]
      have hn41 : κ37 24 3 0 = κ29 24 3 0 := by rw [hk37]; rw [kJd_ne (by decide)]
      refine z_aload hY eX7_changeScore_74 0 rfl ?_
      refine c_gf hY hI37.1 eX7_changeScore_75 (t := 0) (i := 0) (v := .ref (B 9 0)) ((hI37.2.2.2 _ _ (by decide) (by omega)).1) rfl rfl ?_
      refine z_aload hY eX7_changeScore_78 1 rfl ?_
      refine z_callV (As := [.ref (B 20 e)]) (rest := []) hY eX7_changeScore_79 (m_sput (B1 := B) (κ1 := κ37) (h1 := h) hG hD hM hI37 (by omega) (by omega)) (cH_at (B := B) (t := 9) (i := 0) hI37.1 ((hI37.2.2.2 _ _ (by decide) (by omega)).1)) (by decide) (Nat.le_of_ble_eq_true rfl) (by rw [hmc, hms]; omega) (fun _ _ q => q.elim) (fun vv42 hh42 q42 => ?_)
      obtain ⟨rfl, N42, a42, g42, rfl, hN42, hI42⟩ := q42
      obtain ⟨κ43, hk43⟩ : ∃ qq, qq = kSp κ37 e N42 := ⟨_, rfl⟩
      refine z_heq (congrArg (fun q => cH D (bU B 1 a42) q g42) hk43.symm) ?_
      have hI43 : cI B κ h (bU B 1 a42) κ43 g42 := hk43 ▸ hI42
      exact z_return hY eX7_changeScore_82 rfl (by rw [hφ]; subst_vars; exact ⟨rfl, _, _, _, rfl, hI43, 0, _, by unfold kCs kC5; first | rw [if_pos ⟨by omega, by omega⟩] | rw [if_neg (by omega)]⟩) (by rw [hmc, hms]; omega)
    · refine z_aload hY eX7_changeScore_20 0 rfl ?_
      refine c_gf hY hI2.1 eX7_changeScore_21 (t := 0) (i := 0) (v := .ref (B 10 0)) ((hI2.2.2.2 _ _ (by decide) (by omega)).1) rfl rfl ?_
      refine z_aload hY eX7_changeScore_24 1 rfl ?_
      refine z_callV (As := [.ref (B 20 e)]) (rest := []) hY eX7_changeScore_25 (p_take (B := B) (κ := κ2) hG hI2.1 hI2.2.1.2.b hI2.2.1.1 (by omega)) (cH_at (B := B) (t := 10) (i := 0) hI2.1 ((hI2.2.2.2 _ _ (by decide) (by omega)).1)) (by decide) (Nat.le_of_ble_eq_true rfl) ⟨Nat.zero_le _, Nat.zero_le _⟩ (fun _ _ q => q.elim) (fun vv44 hh44 q44 => ?_)
      obtain ⟨rfl, rfl⟩ := q44
      obtain ⟨κ45, hk45⟩ : ∃ qq, qq = kTp κ2 e := ⟨_, rfl⟩
      refine z_heq (congrArg (fun q => cH D B q h) hk45.symm) ?_
      have hI45 : cI B κ h B κ45 h := hk45 ▸ cI_t hI2 (L_Tp e) (S_Tp hI2.2.1.1 hI2.2.1.2 e)
      have hn46 : κ45 24 0 0 = κ2 24 0 0 := by rw [hk45]; rw [kTp_ni (by decide)]
      have hn47 : κ45 24 1 0 = κ2 24 1 0 := by rw [hk45]; rw [kTp_ni (by decide)]
      have hn48 : κ45 24 3 0 = κ2 24 3 0 := by rw [hk45]; rw [kTp_ni (by decide)]
      have hn49 : κ45 24 2 0 = κ2 24 2 0 - 1 := by rw [hk45]; exact kTp_24 (by rw [show κ2 20 2 = κ 20 2 from by assumption, show κ2 24 2 0 = κ 24 2 0 from by assumption]; exact hfd)
      have hn50 : κ45 17 0 0 = κ2 17 0 0 := by rw [hk45]; rw [kTp_ne (by decide)]
      have hn51 : κ45 30 e 0 = κ2 30 e 0 := by rw [hk45]; rw [kTp_ne (by decide)]
      have hn52 : κ45 38 e 0 = κ2 38 e 0 := by rw [hk45]; rw [kTp_ne (by decide)]
      refine z_aload hY eX7_changeScore_28 1 rfl ?_
      refine z_dup hY eX7_changeScore_29 rfl ?_
      have hb53 := hI45.2.1.2.s38 e 0
      refine c_gf hY hI45.1 eX7_changeScore_30 (t := 20) (i := e) (v := z_i (κ45 38 e 0)) ((hI45.2.2.2 _ _ (by decide) (by omega)).1) rfl rfl ?_
      refine z_iload hY eX7_changeScore_33 3 rfl ?_
      refine z_aload hY eX7_changeScore_34 1 rfl ?_
      refine z_callVr (As := []) (rest := [z_i v, z_i (κ45 38 e 0), .ref (B 20 e)]) (r := z_i (κ45 30 e 0)) hY eX7_changeScore_35 (e_points (B := B) (κ := κ45) hG hI45.1 hI45.2.1.2.b hI45.2.1.1 (show -1 ≤ e ∧ e < _ by omega)) (cH_at (B := B) (t := 20) (i := e) hI45.1 ((hI45.2.2.2 _ _ (by decide) (by omega)).1)) (by decide) (Nat.le_of_ble_eq_true rfl) ⟨Nat.zero_le _, Nat.zero_le _⟩ ?_
      have hc54 := hI45.2.1.2.s30 e 0
      refine z_isub hY eX7_changeScore_38 ?_
      refine z_iadd hY eX7_changeScore_39 ?_
      refine z_top (b := (κ45 38 e 0) + v - (κ45 30 e 0)) (by omega) ?_
      refine c_pf hY hI45.1 eX7_changeScore_40 (key := 38) (t := 20) (i := e) (by decide) rfl ((hI45.2.2.2 _ _ (by decide) (by omega)).1) rfl (Nat.le_of_ble_eq_true rfl) (by simp [cC, k_u, k_r]) ?_
      obtain ⟨κ55, hk55⟩ : ∃ qq, qq = k_u κ45 38 e 0 ((κ45 38 e 0) + v - (κ45 30 e 0)) := ⟨_, rfl⟩
      refine z_heq (congrArg (fun q => cH D B q h) hk55.symm) ?_
      have hI55 : cI B κ h B κ55 h := hk55 ▸ cI_t hI45 (cL_u (by decide)) (S_u hI45.2.1.1 hI45.2.1.2 (by decide) ⟨by show (-200000 : Int) ≤ _; omega, by show _ ≤ (200000 : Int); omega⟩)
      have hn56 : κ55 24 0 0 = κ45 24 0 0 := by rw [hk55]; rw [k_u_ne (by decide)]
      have hn57 : κ55 24 1 0 = κ45 24 1 0 := by rw [hk55]; rw [k_u_ne (by decide)]
      have hn58 : κ55 24 2 0 = κ45 24 2 0 := by rw [hk55]; rw [k_u_ne (by decide)]
      have hn59 : κ55 24 3 0 = κ45 24 3 0 := by rw [hk55]; rw [k_u_ne (by decide)]
      refine z_aload hY eX7_changeScore_43 1 rfl ?_
      refine z_iload hY eX7_changeScore_44 2 rfl ?_
      refine z_iload hY eX7_changeScore_45 3 rfl ?_
      refine z_callV (As := [z_i k, z_i v]) (rest := []) hY eX7_changeScore_46 (e_putScore (B := B) (κ := κ55) hG hI55.1 hI55.2.1.2.b hI55.2.1.1 (by omega) (by omega)) (cH_at (B := B) (t := 20) (i := e) hI55.1 ((hI55.2.2.2 _ _ (by decide) (by omega)).1)) (by decide) (Nat.le_of_ble_eq_true rfl) ⟨Nat.zero_le _, Nat.zero_le _⟩ (fun _ _ q => q.elim) (fun vv60 hh60 q60 => ?_)
      obtain ⟨rfl, rfl⟩ := q60
      obtain ⟨κ61, hk61⟩ : ∃ qq, qq = k_u κ55 30 e k v := ⟨_, rfl⟩
      refine z_heq (congrArg (fun q => cH D B q h) hk61.symm) ?_
      have hI61 : cI B κ h B κ61 h := hk61 ▸ cI_t hI55 (cL_u (by decide)) (S_u hI55.2.1.1 hI55.2.1.2 (by decide) ⟨by show (-100000 : Int) ≤ _; omega, by show _ ≤ (100000 : Int); omega⟩)
      have hn62 : κ61 24 0 0 = κ55 24 0 0 := by rw [hk61]; rw [k_u_ne (by decide)]
      have hn63 : κ61 24 1 0 = κ55 24 1 0 := by rw [hk61]; rw [k_u_ne (by decide)]
      have hn64 : κ61 24 2 0 = κ55 24 2 0 := by rw [hk61]; rw [k_u_ne (by decide)]
      have hn65 : κ61 24 3 0 = κ55 24 3 0 := by rw [hk61]; rw [k_u_ne (by decide)]
      have hn66 : κ61 17 0 0 = κ55 17 0 0 := by rw [hk61]; rw [k_u_ne (by decide)]
      refine z_aload hY eX7_changeScore_49 0 rfl ?_
      refine c_gf hY hI61.1 eX7_changeScore_50 (t := 0) (i := 0) (v := .ref (B 10 0)) ((hI61.2.2.2 _ _ (by decide) (by omega)).1) rfl rfl ?_
      refine z_aload hY eX7_changeScore_53 1 rfl ?_
      refine z_callV (As := [.ref (B 20 e)]) (rest := []) hY eX7_changeScore_54 (m_pput (B1 := B) (κ1 := κ61) (h1 := h) hG hD hM hI61 (by omega) (by omega)) (cH_at (B := B) (t := 10) (i := 0) hI61.1 ((hI61.2.2.2 _ _ (by decide) (by omega)).1)) (by decide) (Nat.le_of_ble_eq_true rfl) (by rw [hmc, hms]; omega) (fun _ _ q => q.elim) (fun vv67 hh67 q67 => ?_)
      obtain ⟨rfl, N67, a67, g67, rfl, hN67, hI67⟩ := q67
      obtain ⟨κ68, hk68⟩ : ∃ qq, qq = kPp κ61 e N67 := ⟨_, rfl⟩
      refine z_heq (congrArg (fun q => cH D (bU B 2 a67) q g67) hk68.symm) ?_
      have hI68 : cI B κ h (bU B 2 a67) κ68 g67 := hk68 ▸ hI67
      have hn69 : κ68 24 0 0 = κ61 24 0 0 := by rw [hk68]; rw [kPp_ni (by decide)]
      have hn70 : κ68 24 1 0 = κ61 24 1 0 := by rw [hk68]; rw [kPp_ni (by decide)]
      have hn71 : κ68 24 3 0 = κ61 24 3 0 := by rw [hk68]; rw [kPp_ni (by decide)]
      have hn72 : κ68 17 0 0 = κ61 17 0 0 := by rw [hk68]; rw [kPp_ne (by decide)]
      have hn73 : κ68 30 e 0 = κ61 30 e 0 := by rw [hk68]; rw [kPp_ne (by decide)]
      refine z_goto hY eX7_changeScore_57 ?_
      refine z_aload hY eX7_changeScore_66 0 rfl ?_
      have hb74 := hI68.2.1.2.s17 0 0
      refine c_gf hY hI68.1 eX7_changeScore_67 (t := 0) (i := 0) (v := .ref (B 4 (κ68 17 0 0))) ((hI68.2.2.2 _ _ (by decide) (by omega)).1) rfl rfl ?_
      refine z_aload hY eX7_changeScore_70 1 rfl ?_
      refine z_callV (As := [.ref (B 20 e)]) (rest := []) hY eX7_changeScore_71 (t_judge (B := (bU B 2 a67)) (κ := κ68) hG hI68.1 hI68.2.1.1 hI68.2.1.2 (by omega) (show -1 ≤ e ∧ e < _ by omega)) (cH_at (B := (bU B 2 a67)) (t := 4) (i := (κ68 17 0 0)) hI68.1 ((hI68.2.2.2 _ _ (by decide) (by omega)).1)) (by decide) (Nat.le_of_ble_eq_true rfl) (by rw [hmc, hms]; omega) (fun _ _ q => q.elim) (fun vv75 hh75 q75 => ?_)
      obtain ⟨rfl, rfl⟩ := q75
      obtain ⟨κ76, hk76⟩ : ∃ qq, qq = kJd κ68 (κ68 17 0 0) e := ⟨_, rfl⟩
      refine z_heq (congrArg (fun q => cH D (bU B 2 a67) q g67) hk76.symm) ?_
      have hI76 : cI B κ h (bU B 2 a67) κ76 g67 := hk76 ▸ cI_t hI68 (L_Jd _ _) (S_Jd hI68.2.1.1 hI68.2.1.2 _ _)
      have hn77 : κ76 24 0 0 = κ68 24 0 0 := by rw [hk76]; rw [kJd_ne (by decide)]
      have hn78 : κ76 24 1 0 = κ68 24 1 0 := by rw [hk76]; rw [kJd_ne (by decide)]
      have hn79 : κ76 24 2 0 = κ68 24 2 0 := by rw [hk76]; rw [kJd_ne (by decide)]
      have hn80 : κ76 24 3 0 = κ68 24 3 0 := by rw [hk76]; rw [kJd_ne (by decide)]
      refine z_aload hY eX7_changeScore_74 0 rfl ?_
      refine c_gf hY hI76.1 eX7_changeScore_75 (t := 0) (i := 0) (v := .ref (B 9 0)) ((hI76.2.2.2 _ _ (by decide) (by omega)).1) rfl rfl ?_
      refine z_aload hY eX7_changeScore_78 1 rfl ?_
      refine z_callV (As := [.ref (B 20 e)]) (rest := []) hY eX7_changeScore_79 (m_sput (B1 := (bU B 2 a67)) (κ1 := κ76) (h1 := g67) hG hD hM hI76 (by omega) (by omega)) (cH_at (B := (bU B 2 a67)) (t := 9) (i := 0) hI76.1 ((hI76.2.2.2 _ _ (by decide) (by omega)).1)) (by decide) (Nat.le_of_ble_eq_true rfl) (by rw [hmc, hms]; omega) (fun _ _ q => q.elim) (fun vv81 hh81 q81 => ?_)
      obtain ⟨rfl, N81, a81, g81, rfl, hN81, hI81⟩ := q81
      obtain ⟨κ82, hk82⟩ : ∃ qq, qq = kSp κ76 e N81 := ⟨_, rfl⟩
      refine z_heq (congrArg (fun q => cH D (bU (bU B 2 a67) 1 a81) q g81) hk82.symm) ?_
      have hI82 : cI B κ h (bU (bU B 2 a67) 1 a81) κ82 g81 := hk82 ▸ hI81
      exact z_return hY eX7_changeScore_82 rfl (by rw [hφ]; subst_vars; exact ⟨rfl, _, _, _, rfl, hI82, _, _, by unfold kCs kC5; first | rw [if_pos ⟨by omega, by omega⟩] | rw [if_neg (by omega)]⟩) (by rw [hmc, hms]; omega)
theorem q_score {G : z_G} {D : Nat} {B : Nat → Int → Nat} {κ : c_K} {h : z_H} (hG : z_OK G) (hD : D = z_dc G) (hM : z_MI G) (hJ : cJ B κ) (hB : cB κ) (hV : cV κ) (hS : cS κ) {e k m : Int} (hre : -2147483648 ≤ e ∧ e ≤ 2147483647) (hrk : -2147483648 ≤ k ∧ k ≤ 2147483647) (hrm : -2147483648 ≤ m ∧ m ≤ 2147483647) (hX : (0 ≤ e ∧ e < κ 24 0 0 ∧ κ 36 e 0 ≠ 0) → cX κ e) : z_T G mX7_score [.ref (B 0 0), z_i e, z_i k, z_i m] (cH D B κ h) 9 5 108 (fun v' h' => ((0 ≤ e ∧ e < κ 24 0 0 ∧ κ 36 e 0 ≠ 0) ∧ (0 ≤ k ∧ k ≤ 3) ∧ -100000 ≤ κ 30 e k + m ∧ κ 30 e k + m ≤ 100000) ∧ v' = some (z_i (κ 30 e k + m)) ∧ ∃ (κ' : c_K) (B' : Nat → Int → Nat) (h2 : z_H), h' = cH D B' κ' h2 ∧ cI B κ h B' κ' h2 ∧ ∃ N1 N2, κ' = kCs κ e k (κ 30 e k + m) N1 N2) (fun E h' => h' = cH D B κ h ∧ ((E = "java/lang/IndexOutOfBoundsException" ∧ ¬ (0 ≤ e ∧ e < κ 24 0 0 ∧ κ 36 e 0 ≠ 0)) ∨ (E = "java/lang/IllegalArgumentException" ∧ (0 ≤ e ∧ e < κ 24 0 0 ∧ κ 36 e 0 ≠ 0) ∧ ¬ ((0 ≤ k ∧ k ≤ 3) ∧ -100000 ≤ κ 30 e k + m ∧ κ 30 e k + m ≤ 100000)))) := by
  obtain ⟨hn, hsz, hrw, hcu, htl, hth⟩ := id hV
  have hs0 := hsz 0 (by omega) (by omega)
  have hs1 := hsz 1 (by omega) (by omega)
  have hs2 := hsz 2 (by omega) (by omega)
  have hs3 := hsz 3 (by omega) (by omega)
  refine z_T_of hG pX7_score (Nat.le_of_ble_eq_true rfl) (ls0 := [(0, .ref (B 0 0)), (1, z_i e), (2, z_i k), (3, z_i m)]) rfl fun Y hY hg hmc hms hφ hψ => ?_
  subst hg
  have hI0 := cI_r (h := h) hJ hV hS
  refine z_aload hY eX7_score_0 0 rfl ?_
  refine z_iload hY eX7_score_1 1 rfl ?_
  refine z_callV (As := [z_i e]) (rest := []) hY eX7_score_2 (c_presentOne hG hJ hB hV hS (by omega)) (cH_at (B := B) (t := 0) (i := 0) hI0.1 (by omega)) (by decide) (Nat.le_of_ble_eq_true rfl) (by rw [hmc, hms]; omega) (fun E' h1 q => by obtain ⟨rfl, q⟩ := q; rw [hψ]; refine ⟨rfl, ?_⟩; obtain ⟨rfl, q⟩ := q <;> (first | exact ⟨rfl, by omega⟩ | exact Or.inl ⟨rfl, by omega⟩ | exact Or.inr ⟨rfl, by omega⟩ | exact Or.inr (Or.inl ⟨rfl, by omega⟩) | exact Or.inr (Or.inr ⟨rfl, by omega⟩))) (fun vv1 hh1 q1 => ?_)
  obtain ⟨hq1, rfl, rfl⟩ := q1
  refine z_astore hY eX7_score_5 (ls' := [(4, .ref (B 20 e)), (0, .ref (B 0 0)), (1, z_i e), (2, z_i k), (3, z_i m)]) rfl ?_
  refine z_aload hY eX7_score_7 1 rfl ?_
  refine z_aload hY eX7_score_8 0 rfl ?_
  refine z_iload hY eX7_score_10 3 rfl ?_
  refine z_iload hY eX7_score_11 4 rfl ?_
  refine z_callV (As := [.ref (B 20 e), z_i k, z_i m]) (rest := []) hY eX7_score_12 (c_raisedScore hG hJ hB hV hS (by omega) (by omega) (by omega)) (cH_at (B := B) (t := 0) (i := 0) hI0.1 (by omega)) (by decide) (Nat.le_of_ble_eq_true rfl) (by rw [hmc, hms]; omega) (fun E' h1 q => by obtain ⟨rfl, q⟩ := q; rw [hψ]; refine ⟨rfl, ?_⟩; obtain ⟨rfl, q⟩ := q <;> (first | exact ⟨rfl, by omega⟩ | exact Or.inl ⟨rfl, by omega⟩ | exact Or.inr ⟨rfl, by omega⟩ | exact Or.inr (Or.inl ⟨rfl, by omega⟩) | exact Or.inr (Or.inr ⟨rfl, by omega⟩))) (fun vv2 hh2 q2 => ?_)
  obtain ⟨hq2, rfl, rfl⟩ := q2
  refine z_istore hY eX7_score_15 (ls' := [(5, z_i ((κ 30 e k) + m)), (4, .ref (B 20 e)), (0, .ref (B 0 0)), (1, z_i e), (2, z_i k), (3, z_i m)]) rfl ?_
  refine z_aload hY eX7_score_17 2 rfl ?_
  refine z_aload hY eX7_score_18 1 rfl ?_
  refine z_iload hY eX7_score_20 4 rfl ?_
  refine z_iload hY eX7_score_21 0 rfl ?_
  have hx := hX (by omega)
  refine z_callV (As := [.ref (B 20 e), z_i k, z_i ((κ 30 e k) + m)]) (rest := []) hY eX7_score_23 (c_changeScore hG hD hM hJ hB hV hS (show 0 ≤ e ∧ e < κ 24 0 0 by omega) (by omega) (by omega) hx.1 hx.2.1 (by have := hx.2.2; omega)) (cH_at (B := B) (t := 0) (i := 0) hI0.1 (by omega)) (by decide) (Nat.le_of_ble_eq_true rfl) (by rw [hmc, hms]; omega) (fun _ _ q => q.elim) (fun vv3 hh3 q3 => ?_)
  obtain ⟨rfl, κ3, B3, g3, rfl, hI3, hrel⟩ := q3
  refine z_iload hY eX7_score_26 0 rfl ?_
  exact z_ireturn hY eX7_score_28 rfl (by rw [hφ]; subst_vars; first | (exfalso; omega) | exact ⟨by omega, congrArg (fun q => some (z_i q)) (by first | rfl | omega), _, _, _, rfl, hI3, hrel⟩) (by rw [hmc, hms]; omega)
theorem q_setScore {G : z_G} {D : Nat} {B : Nat → Int → Nat} {κ : c_K} {h : z_H} (hG : z_OK G) (hD : D = z_dc G) (hM : z_MI G) (hJ : cJ B κ) (hB : cB κ) (hV : cV κ) (hS : cS κ) {e k w : Int} (hre : -2147483648 ≤ e ∧ e ≤ 2147483647) (hrk : -2147483648 ≤ k ∧ k ≤ 2147483647) (hrw : -2147483648 ≤ w ∧ w ≤ 2147483647) (hX : (0 ≤ e ∧ e < κ 24 0 0 ∧ κ 36 e 0 ≠ 0) → cX κ e) : z_T G mX7_setScore [.ref (B 0 0), z_i e, z_i k, z_i w] (cH D B κ h) 9 5 108 (fun v' h' => ((0 ≤ e ∧ e < κ 24 0 0 ∧ κ 36 e 0 ≠ 0) ∧ (0 ≤ k ∧ k ≤ 3) ∧ -100000 ≤ w ∧ w ≤ 100000) ∧ v' = some (z_i (κ 30 e k)) ∧ ∃ (κ' : c_K) (B' : Nat → Int → Nat) (h2 : z_H), h' = cH D B' κ' h2 ∧ cI B κ h B' κ' h2 ∧ ∃ N1 N2, κ' = kCs κ e k w N1 N2) (fun E h' => h' = cH D B κ h ∧ ((E = "java/lang/IndexOutOfBoundsException" ∧ ¬ (0 ≤ e ∧ e < κ 24 0 0 ∧ κ 36 e 0 ≠ 0)) ∨ (E = "java/lang/IllegalArgumentException" ∧ (0 ≤ e ∧ e < κ 24 0 0 ∧ κ 36 e 0 ≠ 0) ∧ ¬ ((0 ≤ k ∧ k ≤ 3) ∧ -100000 ≤ w ∧ w ≤ 100000)))) := by
  obtain ⟨hn, hsz, hrw, hcu, htl, hth⟩ := id hV
  have hs0 := hsz 0 (by omega) (by omega)
  have hs1 := hsz 1 (by omega) (by omega)
  have hs2 := hsz 2 (by omega) (by omega)
  have hs3 := hsz 3 (by omega) (by omega)
  refine z_T_of hG pX7_setScore (Nat.le_of_ble_eq_true rfl) (ls0 := [(0, .ref (B 0 0)), (1, z_i e), (2, z_i k), (3, z_i w)]) rfl fun Y hY hg hmc hms hφ hψ => ?_
  subst hg
  have hI0 := cI_r (h := h) hJ hV hS
  refine z_aload hY eX7_setScore_0 0 rfl ?_
  refine z_iload hY eX7_setScore_1 1 rfl ?_
  refine z_callV (As := [z_i e]) (rest := []) hY eX7_setScore_2 (c_presentOne hG hJ hB hV hS (by omega)) (cH_at (B := B) (t := 0) (i := 0) hI0.1 (by omega)) (by decide) (Nat.le_of_ble_eq_true rfl) (by rw [hmc, hms]; omega) (fun E' h1 q => by obtain ⟨rfl, q⟩ := q; rw [hψ]; refine ⟨rfl, ?_⟩; obtain ⟨rfl, q⟩ := q <;> (first | exact ⟨rfl, by omega⟩ | exact Or.inl ⟨rfl, by omega⟩ | exact Or.inr ⟨rfl, by omega⟩ | exact Or.inr (Or.inl ⟨rfl, by omega⟩) | exact Or.inr (Or.inr ⟨rfl, by omega⟩))) (fun vv1 hh1 q1 => ?_)
  obtain ⟨hq1, rfl, rfl⟩ := q1
  refine z_astore hY eX7_setScore_5 (ls' := [(4, .ref (B 20 e)), (0, .ref (B 0 0)), (1, z_i e), (2, z_i k), (3, z_i w)]) rfl ?_
  refine z_aload hY eX7_setScore_7 1 rfl ?_
  refine z_iload hY eX7_setScore_8 3 rfl ?_
  refine z_callV (As := [z_i k]) (rest := []) hY eX7_setScore_9 (c_checkKind hG hJ hB hV hS (by omega)) (cH_at (B := B) (t := 0) (i := 0) hI0.1 (by omega)) (by decide) (Nat.le_of_ble_eq_true rfl) (by rw [hmc, hms]; omega) (fun E' h1 q => by obtain ⟨rfl, q⟩ := q; rw [hψ]; refine ⟨rfl, ?_⟩; obtain ⟨rfl, q⟩ := q <;> (first | exact ⟨rfl, by omega⟩ | exact Or.inl ⟨rfl, by omega⟩ | exact Or.inr ⟨rfl, by omega⟩ | exact Or.inr (Or.inl ⟨rfl, by omega⟩) | exact Or.inr (Or.inr ⟨rfl, by omega⟩))) (fun vv2 hh2 q2 => ?_)
  obtain ⟨hq2, rfl, rfl⟩ := q2
  refine z_aload hY eX7_setScore_12 1 rfl ?_
  refine z_iload hY eX7_setScore_13 4 rfl ?_
  refine z_i2l hY eX7_setScore_14 (by omega) ?_
  refine z_callV (As := [z_l w]) (rest := []) hY eX7_setScore_15 (c_checkScore hG hJ hB hV hS (by omega)) (cH_at (B := B) (t := 0) (i := 0) hI0.1 (by omega)) (by decide) (Nat.le_of_ble_eq_true rfl) (by rw [hmc, hms]; omega) (fun E' h1 q => by obtain ⟨rfl, q⟩ := q; rw [hψ]; refine ⟨rfl, ?_⟩; obtain ⟨rfl, q⟩ := q <;> (first | exact ⟨rfl, by omega⟩ | exact Or.inl ⟨rfl, by omega⟩ | exact Or.inr ⟨rfl, by omega⟩ | exact Or.inr (Or.inl ⟨rfl, by omega⟩) | exact Or.inr (Or.inr ⟨rfl, by omega⟩))) (fun vv3 hh3 q3 => ?_)
  obtain ⟨hq3, rfl, rfl⟩ := q3
  refine z_aload hY eX7_setScore_18 0 rfl ?_
  refine z_iload hY eX7_setScore_20 3 rfl ?_
  refine z_callVr (As := [z_i k]) (rest := []) (r := z_i (κ 30 e k)) hY eX7_setScore_21 (e_scoreIn4 hG hI0.1 hB hV (by omega) (by omega)) (cH_at (B := B) (t := 20) (i := e) hI0.1 (by omega)) (by decide) (Nat.le_of_ble_eq_true rfl) (by rw [hmc, hms]; omega) ?_
  have hc4 := hS.s30 e k
  refine z_istore hY eX7_setScore_24 (ls' := [(5, z_i (κ 30 e k)), (4, .ref (B 20 e)), (0, .ref (B 0 0)), (1, z_i e), (2, z_i k), (3, z_i w)]) rfl ?_
  refine z_aload hY eX7_setScore_26 2 rfl ?_
  refine z_aload hY eX7_setScore_27 1 rfl ?_
  refine z_iload hY eX7_setScore_29 4 rfl ?_
  refine z_iload hY eX7_setScore_30 5 rfl ?_
  have hx := hX (by omega)
  refine z_callV (As := [.ref (B 20 e), z_i k, z_i w]) (rest := []) hY eX7_setScore_31 (c_changeScore hG hD hM hJ hB hV hS (show 0 ≤ e ∧ e < κ 24 0 0 by omega) (by omega) (by omega) hx.1 hx.2.1 (by have := hx.2.2; omega)) (cH_at (B := B) (t := 0) (i := 0) hI0.1 (by omega)) (by decide) (Nat.le_of_ble_eq_true rfl) (by rw [hmc, hms]; omega) (fun _ _ q => q.elim) (fun vv5 hh5 q5 => ?_)
  obtain ⟨rfl, κ5, B5, g5, rfl, hI5, hrel⟩ := q5
  refine z_iload hY eX7_setScore_34 0 rfl ?_
  exact z_ireturn hY eX7_setScore_36 rfl (by rw [hφ]; subst_vars; first | (exfalso; omega) | exact ⟨by omega, congrArg (fun q => some (z_i q)) (by first | rfl | omega), _, _, _, rfl, hI5, hrel⟩) (by rw [hmc, hms]; omega)
theorem q_leave {G : z_G} {D : Nat} {B : Nat → Int → Nat} {κ : c_K} {h : z_H} (hG : z_OK G) (hD : D = z_dc G) (hM : z_MI G) (hJ : cJ B κ) (hB : cB κ) (hV : cV κ) (hS : cS κ) {e : Int} (hre : -2147483648 ≤ e ∧ e ≤ 2147483647) (hX : (0 ≤ e ∧ e < κ 24 0 0 ∧ κ 36 e 0 ≠ 0) → cX κ e) : z_T G mX7_leave [.ref (B 0 0), z_i e] (cH D B κ h) 5 1 6 (fun v' h' => ((0 ≤ e ∧ e < κ 24 0 0 ∧ κ 36 e 0 ≠ 0)) ∧ v' = some (z_i (κ 37 e 0)) ∧ ∃ (κ' : c_K) (B' : Nat → Int → Nat) (h2 : z_H), h' = cH D B' κ' h2 ∧ cI B κ h B' κ' h2 ∧ κ' = kLv κ e) (fun E h' => h' = cH D B κ h ∧ ((E = "java/lang/IndexOutOfBoundsException" ∧ ¬ (0 ≤ e ∧ e < κ 24 0 0 ∧ κ 36 e 0 ≠ 0)))) := by
  obtain ⟨hn, hsz, hrw, hcu, htl, hth⟩ := id hV
  have hs0 := hsz 0 (by omega) (by omega)
  have hs1 := hsz 1 (by omega) (by omega)
  have hs2 := hsz 2 (by omega) (by omega)
  have hs3 := hsz 3 (by omega) (by omega)
  refine z_T_of hG pX7_leave (Nat.le_of_ble_eq_true rfl) (ls0 := [(0, .ref (B 0 0)), (1, z_i e)]) rfl fun Y hY hg hmc hms hφ hψ => ?_
  subst hg
  have hI0 := cI_r (h := h) hJ hV hS
  refine z_aload hY eX7_leave_0 0 rfl ?_
  refine z_iload hY eX7_leave_1 1 rfl ?_
  refine z_callV (As := [z_i e]) (rest := []) hY eX7_leave_2 (c_presentOne hG hJ hB hV hS (by omega)) (cH_at (B := B) (t := 0) (i := 0) hI0.1 (by omega)) (by decide) (Nat.le_of_ble_eq_true rfl) (by rw [hmc, hms]; omega) (fun E' h1 q => by obtain ⟨rfl, q⟩ := q; rw [hψ]; refine ⟨rfl, ?_⟩; obtain ⟨rfl, q⟩ := q <;> (first | exact ⟨rfl, by omega⟩ | exact Or.inl ⟨rfl, by omega⟩ | exact Or.inr ⟨rfl, by omega⟩ | exact Or.inr (Or.inl ⟨rfl, by omega⟩) | exact Or.inr (Or.inr ⟨rfl, by omega⟩))) (fun vv1 hh1 q1 => ?_)
  obtain ⟨hq1, rfl, rfl⟩ := q1
  refine z_astore hY eX7_leave_5 (ls' := [(2, .ref (B 20 e)), (0, .ref (B 0 0)), (1, z_i e)]) rfl ?_
  refine z_aload hY eX7_leave_6 0 rfl ?_
  have hb2 := hS.s37 e 0
  refine c_gf hY hI0.1 eX7_leave_7 (t := 20) (i := e) (v := z_i (κ 37 e 0)) (by omega) rfl rfl ?_
  refine z_istore hY eX7_leave_10 (ls' := [(3, z_i (κ 37 e 0)), (2, .ref (B 20 e)), (0, .ref (B 0 0)), (1, z_i e)]) rfl ?_
  refine z_aload hY eX7_leave_11 2 rfl ?_
  refine c_gf hY hI0.1 eX7_leave_12 (t := 0) (i := 0) (v := .ref (B 9 0)) (by omega) rfl rfl ?_
  refine z_aload hY eX7_leave_15 1 rfl ?_
  have hx := hX (by omega)
  have hp := hx.1
  have hfd := hx.2.1
  refine z_callV (As := [.ref (B 20 e)]) (rest := []) hY eX7_leave_16 (s_take (B := B) (κ := κ) hG hI0.1 hI0.2.1.2.b hI0.2.1.1 (by omega) (by omega)) (cH_at (B := B) (t := 9) (i := 0) hI0.1 (by omega)) (by decide) (Nat.le_of_ble_eq_true rfl) (by rw [hmc, hms]; omega) (fun _ _ q => q.elim) (fun vv3 hh3 q3 => ?_)
  obtain ⟨rfl, rfl⟩ := q3
  obtain ⟨κ4, hk4⟩ : ∃ qq, qq = kTa κ e := ⟨_, rfl⟩
  refine z_heq (congrArg (fun q => cH D B q h) hk4.symm) ?_
  have hI4 : cI B κ h B κ4 h := hk4 ▸ cI_t hI0 (L_Ta e) (S_Ta hI0.2.1.1 hI0.2.1.2 e)
  have hn5 : κ4 24 0 0 = κ 24 0 0 := by rw [hk4]; rw [kTa_ni (by decide) (by decide)]
  have hn6 : κ4 24 2 0 = κ 24 2 0 := by rw [hk4]; rw [kTa_ni (by decide) (by decide)]
  have hn7 : κ4 24 3 0 = κ 24 3 0 := by rw [hk4]; rw [kTa_ni (by decide) (by decide)]
  have hn8 : κ4 24 1 0 = κ 24 1 0 - 1 := by rw [hk4]; exact kTa_24 (by omega)
  have hn9 : κ4 20 2 = κ 20 2 := by rw [hk4]; rw [kTa_ni (by decide) (by decide)]
  have hn10 : κ4 17 0 0 = κ 17 0 0 := by rw [hk4]; rw [kTa_ne (by decide)]
  have hn11 : κ4 30 e 0 = κ 30 e 0 := by rw [hk4]; rw [kTa_ne (by decide)]
  have hn12 : κ4 38 e 0 = κ 38 e 0 := by rw [hk4]; rw [kTa_ne (by decide)]
  refine z_aload hY eX7_leave_19 2 rfl ?_
  refine c_gf hY hI4.1 eX7_leave_20 (t := 0) (i := 0) (v := .ref (B 10 0)) ((hI4.2.2.2 _ _ (by decide) (by omega)).1) rfl rfl ?_
  refine z_aload hY eX7_leave_23 1 rfl ?_
  refine z_callV (As := [.ref (B 20 e)]) (rest := []) hY eX7_leave_24 (p_take (B := B) (κ := κ4) hG hI4.1 hI4.2.1.2.b hI4.2.1.1 (by omega)) (cH_at (B := B) (t := 10) (i := 0) hI4.1 ((hI4.2.2.2 _ _ (by decide) (by omega)).1)) (by decide) (Nat.le_of_ble_eq_true rfl) (by rw [hmc, hms]; omega) (fun _ _ q => q.elim) (fun vv13 hh13 q13 => ?_)
  obtain ⟨rfl, rfl⟩ := q13
  obtain ⟨κ14, hk14⟩ : ∃ qq, qq = kTp κ4 e := ⟨_, rfl⟩
  refine z_heq (congrArg (fun q => cH D B q h) hk14.symm) ?_
  have hI14 : cI B κ h B κ14 h := hk14 ▸ cI_t hI4 (L_Tp e) (S_Tp hI4.2.1.1 hI4.2.1.2 e)
  have hn15 : κ14 24 0 0 = κ4 24 0 0 := by rw [hk14]; rw [kTp_ni (by decide)]
  have hn16 : κ14 24 1 0 = κ4 24 1 0 := by rw [hk14]; rw [kTp_ni (by decide)]
  have hn17 : κ14 24 3 0 = κ4 24 3 0 := by rw [hk14]; rw [kTp_ni (by decide)]
  have hn18 : κ14 24 2 0 = κ4 24 2 0 - 1 := by rw [hk14]; exact kTp_24 (by rw [show κ4 20 2 = κ 20 2 from by assumption, show κ4 24 2 0 = κ 24 2 0 from by assumption]; exact hfd)
  have hn19 : κ14 17 0 0 = κ4 17 0 0 := by rw [hk14]; rw [kTp_ne (by decide)]
  have hn20 : κ14 30 e 0 = κ4 30 e 0 := by rw [hk14]; rw [kTp_ne (by decide)]
  have hn21 : κ14 38 e 0 = κ4 38 e 0 := by rw [hk14]; rw [kTp_ne (by decide)]
  refine z_aload hY eX7_leave_27 2 rfl ?_
  refine c_gf hY hI14.1 eX7_leave_28 (t := 0) (i := 0) (v := .ref (B 11 0)) ((hI14.2.2.2 _ _ (by decide) (by omega)).1) rfl rfl ?_
  refine z_aload hY eX7_leave_31 1 rfl ?_
  refine z_callV (As := [.ref (B 20 e)]) (rest := []) hY eX7_leave_32 (l_take (B := B) (κ := κ14) hG hI14.1 hI14.2.1.2.b hI14.2.1.1 (by omega)) (cH_at (B := B) (t := 11) (i := 0) hI14.1 ((hI14.2.2.2 _ _ (by decide) (by omega)).1)) (by decide) (Nat.le_of_ble_eq_true rfl) (by rw [hmc, hms]; omega) (fun _ _ q => q.elim) (fun vv22 hh22 q22 => ?_)
  obtain ⟨rfl, rfl⟩ := q22
  obtain ⟨κ23, hk23⟩ : ∃ qq, qq = kTl κ14 e := ⟨_, rfl⟩
  refine z_heq (congrArg (fun q => cH D B q h) hk23.symm) ?_
  have hI23 : cI B κ h B κ23 h := hk23 ▸ cI_t hI14 (L_Tl e) (S_Tl hI14.2.1.1 hI14.2.1.2 e)
  have hn24 : κ23 24 0 0 = κ14 24 0 0 := by rw [hk23]; rw [kTl_ni (by decide)]
  have hn25 : κ23 24 1 0 = κ14 24 1 0 := by rw [hk23]; rw [kTl_ni (by decide)]
  have hn26 : κ23 24 2 0 = κ14 24 2 0 := by rw [hk23]; rw [kTl_ni (by decide)]
  refine z_aload hY eX7_leave_35 1 rfl ?_
  refine z_const hY eX7_leave_36 ?_
  refine c_pfZ hY hI23.1 eX7_leave_37 (by omega) (key := 36) (t := 20) (i := e) (by decide) rfl ((hI23.2.2.2 _ _ (by decide) (by omega)).1) rfl (Nat.le_of_ble_eq_true rfl) (by simp [cC, k_u, k_r]) ?_
  obtain ⟨κ27, hk27⟩ : ∃ qq, qq = k_u κ23 36 e 0 0 := ⟨_, rfl⟩
  refine z_heq (congrArg (fun q => cH D B q h) hk27.symm) ?_
  have hI27 : cI B κ h B κ27 h := hk27 ▸ cI_t hI23 (cL_u (by decide)) (S_36 hI23.2.1.1 hI23.2.1.2 (by omega))
  have hn28 : κ27 24 0 0 = κ23 24 0 0 := by rw [hk27]; rw [k_u_ne (by decide)]
  have hn29 : κ27 24 1 0 = κ23 24 1 0 := by rw [hk27]; rw [k_u_ne (by decide)]
  have hn30 : κ27 24 2 0 = κ23 24 2 0 := by rw [hk27]; rw [k_u_ne (by decide)]
  have hn31 : κ27 24 3 0 = κ23 24 3 0 := by rw [hk27]; rw [k_u_ne (by decide)]
  refine z_aload hY eX7_leave_40 1 rfl ?_
  refine z_const hY eX7_leave_41 ?_
  refine c_pf hY hI27.1 eX7_leave_42 (key := 37) (t := 20) (i := e) (by decide) rfl ((hI27.2.2.2 _ _ (by decide) (by omega)).1) rfl (Nat.le_of_ble_eq_true rfl) (by simp [cC, k_u, k_r]) ?_
  obtain ⟨κ32, hk32⟩ : ∃ qq, qq = k_u κ27 37 e 0 (-1) := ⟨_, rfl⟩
  refine z_heq (congrArg (fun q => cH D B q h) hk32.symm) ?_
  have hI32 : cI B κ h B κ32 h := hk32 ▸ cI_t hI27 (cL_u (by decide)) (S_u hI27.2.1.1 hI27.2.1.2 (by decide) ⟨by show (-1 : Int) ≤ _; omega, by show _ ≤ (30 : Int); omega⟩)
  have hn33 : κ32 24 0 0 = κ27 24 0 0 := by rw [hk32]; rw [k_u_ne (by decide)]
  have hn34 : κ32 24 1 0 = κ27 24 1 0 := by rw [hk32]; rw [k_u_ne (by decide)]
  have hn35 : κ32 24 2 0 = κ27 24 2 0 := by rw [hk32]; rw [k_u_ne (by decide)]
  have hn36 : κ32 24 3 0 = κ27 24 3 0 := by rw [hk32]; rw [k_u_ne (by decide)]
  refine z_iload hY eX7_leave_45 0 rfl ?_
  exact z_ireturn hY eX7_leave_46 rfl (by rw [hφ]; subst_vars; first | (exfalso; omega) | exact ⟨by omega, congrArg (fun q => some (z_i q)) (by first | rfl | omega), _, _, _, rfl, hI32, rfl⟩) (by rw [hmc, hms]; omega)
theorem q_setReach {G : z_G} {D : Nat} {B : Nat → Int → Nat} {κ : c_K} {h : z_H} (hG : z_OK G) (hD : D = z_dc G) (hM : z_MI G) (hJ : cJ B κ) (hB : cB κ) (hV : cV κ) (hS : cS κ) {q : Int} (hrq : -2147483648 ≤ q ∧ q ≤ 2147483647) : z_T G mX7_setReach [.ref (B 0 0), z_i q] (cH D B κ h) 1 1 6 (fun v' h' => (1 ≤ q ∧ q ≤ 5) ∧ v' = some (z_i (κ 18 0 0)) ∧ ∃ (κ' : c_K) (B' : Nat → Int → Nat) (h2 : z_H), h' = cH D B' κ' h2 ∧ cI B κ h B' κ' h2 ∧ κ' = k_u κ 18 0 0 q) (fun E h' => h' = cH D B κ h ∧ ((E = "java/lang/IllegalArgumentException" ∧ ¬ (1 ≤ q ∧ q ≤ 5)))) := by
  obtain ⟨hn, hsz, hrw, hcu, htl, hth⟩ := id hV
  have hs0 := hsz 0 (by omega) (by omega)
  have hs1 := hsz 1 (by omega) (by omega)
  have hs2 := hsz 2 (by omega) (by omega)
  have hs3 := hsz 3 (by omega) (by omega)
  refine z_T_of hG pX7_setReach (Nat.le_of_ble_eq_true rfl) (ls0 := [(0, .ref (B 0 0)), (1, z_i q)]) rfl fun Y hY hg hmc hms hφ hψ => ?_
  subst hg
  have hI0 := cI_r (h := h) hJ hV hS
  refine z_iload hY eX7_setReach_0 1 rfl ?_
  refine z_const hY eX7_setReach_1 ?_
  refine z_icmplt hY eX7_setReach_2 (by omega) (fun c2 => ?_) (fun c2 => ?_)
  · exact z_thr hY xX7_setReach_10 (by rw [hmc, hms]; omega) (by rw [hψ]; refine ⟨rfl, ?_⟩; first | exact ⟨rfl, by omega⟩ | exact Or.inl ⟨rfl, by omega⟩ | exact Or.inr ⟨rfl, by omega⟩ | exact Or.inr (Or.inl ⟨rfl, by omega⟩) | exact Or.inr (Or.inr ⟨rfl, by omega⟩))
  · refine z_iload hY eX7_setReach_5 1 rfl ?_
    refine z_const hY eX7_setReach_6 ?_
    refine z_icmple hY eX7_setReach_7 (by omega) (fun c7 => ?_) (fun c7 => ?_)
    · refine z_aload hY eX7_setReach_21 0 rfl ?_
      refine c_gf hY hI0.1 eX7_setReach_22 (t := 0) (i := 0) (v := .ref (B 11 0)) (by omega) rfl rfl ?_
      have hb1 := hS.s18 0 0
      refine c_gf hY hI0.1 eX7_setReach_25 (t := 11) (i := 0) (v := z_i (κ 18 0 0)) (by omega) rfl rfl ?_
      refine z_istore hY eX7_setReach_28 (ls' := [(2, z_i (κ 18 0 0)), (0, .ref (B 0 0)), (1, z_i q)]) rfl ?_
      refine z_aload hY eX7_setReach_29 1 rfl ?_
      refine c_gf hY hI0.1 eX7_setReach_30 (t := 0) (i := 0) (v := .ref (B 11 0)) (by omega) rfl rfl ?_
      refine z_iload hY eX7_setReach_33 2 rfl ?_
      refine c_pf hY hI0.1 eX7_setReach_34 (key := 18) (t := 11) (i := 0) (by decide) rfl (by omega) rfl (Nat.le_of_ble_eq_true rfl) (by simp [cC, k_u, k_r]) ?_
      obtain ⟨κ2, hk2⟩ : ∃ qq, qq = k_u κ 18 0 0 q := ⟨_, rfl⟩
      refine z_heq (congrArg (fun q => cH D B q h) hk2.symm) ?_
      have hI2 : cI B κ h B κ2 h := hk2 ▸ cI_t hI0 (cL_u (by decide)) (S_u hI0.2.1.1 hI0.2.1.2 (by decide) ⟨by show (1 : Int) ≤ _; omega, by show _ ≤ (5 : Int); omega⟩)
      have hn3 : κ2 24 0 0 = κ 24 0 0 := by rw [hk2]; rw [k_u_ne (by decide)]
      have hn4 : κ2 24 1 0 = κ 24 1 0 := by rw [hk2]; rw [k_u_ne (by decide)]
      have hn5 : κ2 24 2 0 = κ 24 2 0 := by rw [hk2]; rw [k_u_ne (by decide)]
      have hn6 : κ2 24 3 0 = κ 24 3 0 := by rw [hk2]; rw [k_u_ne (by decide)]
      refine z_iload hY eX7_setReach_37 0 rfl ?_
      exact z_ireturn hY eX7_setReach_38 rfl (by rw [hφ]; subst_vars; first | (exfalso; omega) | exact ⟨by omega, congrArg (fun q => some (z_i q)) (by first | rfl | omega), _, _, _, rfl, hI2, rfl⟩) ⟨Nat.zero_le _, Nat.zero_le _⟩
    · exact z_thr hY xX7_setReach_10 (by rw [hmc, hms]; omega) (by rw [hψ]; refine ⟨rfl, ?_⟩; first | exact ⟨rfl, by omega⟩ | exact Or.inl ⟨rfl, by omega⟩ | exact Or.inr ⟨rfl, by omega⟩ | exact Or.inr (Or.inl ⟨rfl, by omega⟩) | exact Or.inr (Or.inr ⟨rfl, by omega⟩))
theorem q_setPatience {G : z_G} {D : Nat} {B : Nat → Int → Nat} {κ : c_K} {h : z_H} (hG : z_OK G) (hD : D = z_dc G) (hM : z_MI G) (hJ : cJ B κ) (hB : cB κ) (hV : cV κ) (hS : cS κ) {q : Int} (hrq : -2147483648 ≤ q ∧ q ≤ 2147483647) : z_T G mX7_setPatience [.ref (B 0 0), z_i q] (cH D B κ h) 1 1 6 (fun v' h' => (1 ≤ q ∧ q ≤ 9) ∧ v' = some (z_i (κ 19 0 0)) ∧ ∃ (κ' : c_K) (B' : Nat → Int → Nat) (h2 : z_H), h' = cH D B' κ' h2 ∧ cI B κ h B' κ' h2 ∧ κ' = k_u κ 19 0 0 q) (fun E h' => h' = cH D B κ h ∧ ((E = "java/lang/IllegalArgumentException" ∧ ¬ (1 ≤ q ∧ q ≤ 9)))) := by
  obtain ⟨hn, hsz, hrw, hcu, htl, hth⟩ := id hV
  have hs0 := hsz 0 (by omega) (by omega)
  have hs1 := hsz 1 (by omega) (by omega)
  have hs2 := hsz 2 (by omega) (by omega)
  have hs3 := hsz 3 (by omega) (by omega)
  refine z_T_of hG pX7_setPatience (Nat.le_of_ble_eq_true rfl) (ls0 := [(0, .ref (B 0 0)), (1, z_i q)]) rfl fun Y hY hg hmc hms hφ hψ => ?_
  subst hg
  have hI0 := cI_r (h := h) hJ hV hS
  refine z_iload hY eX7_setPatience_0 1 rfl ?_
  refine z_const hY eX7_setPatience_1 ?_
  refine z_icmplt hY eX7_setPatience_2 (by omega) (fun c2 => ?_) (fun c2 => ?_)
  · exact z_thr hY xX7_setPatience_11 (by rw [hmc, hms]; omega) (by rw [hψ]; refine ⟨rfl, ?_⟩; first | exact ⟨rfl, by omega⟩ | exact Or.inl ⟨rfl, by omega⟩ | exact Or.inr ⟨rfl, by omega⟩ | exact Or.inr (Or.inl ⟨rfl, by omega⟩) | exact Or.inr (Or.inr ⟨rfl, by omega⟩))
  · refine z_iload hY eX7_setPatience_5 1 rfl ?_
    refine z_const hY eX7_setPatience_6 ?_
    refine z_icmple hY eX7_setPatience_8 (by omega) (fun c8 => ?_) (fun c8 => ?_)
    · refine z_aload hY eX7_setPatience_22 0 rfl ?_
      refine c_gf hY hI0.1 eX7_setPatience_23 (t := 0) (i := 0) (v := .ref (B 11 0)) (by omega) rfl rfl ?_
      have hb1 := hS.s19 0 0
      refine c_gf hY hI0.1 eX7_setPatience_26 (t := 11) (i := 0) (v := z_i (κ 19 0 0)) (by omega) rfl rfl ?_
      refine z_istore hY eX7_setPatience_29 (ls' := [(2, z_i (κ 19 0 0)), (0, .ref (B 0 0)), (1, z_i q)]) rfl ?_
      refine z_aload hY eX7_setPatience_30 1 rfl ?_
      refine c_gf hY hI0.1 eX7_setPatience_31 (t := 0) (i := 0) (v := .ref (B 11 0)) (by omega) rfl rfl ?_
      refine z_iload hY eX7_setPatience_34 2 rfl ?_
      refine c_pf hY hI0.1 eX7_setPatience_35 (key := 19) (t := 11) (i := 0) (by decide) rfl (by omega) rfl (Nat.le_of_ble_eq_true rfl) (by simp [cC, k_u, k_r]) ?_
      obtain ⟨κ2, hk2⟩ : ∃ qq, qq = k_u κ 19 0 0 q := ⟨_, rfl⟩
      refine z_heq (congrArg (fun q => cH D B q h) hk2.symm) ?_
      have hI2 : cI B κ h B κ2 h := hk2 ▸ cI_t hI0 (cL_u (by decide)) (S_u hI0.2.1.1 hI0.2.1.2 (by decide) ⟨by show (1 : Int) ≤ _; omega, by show _ ≤ (9 : Int); omega⟩)
      have hn3 : κ2 24 0 0 = κ 24 0 0 := by rw [hk2]; rw [k_u_ne (by decide)]
      have hn4 : κ2 24 1 0 = κ 24 1 0 := by rw [hk2]; rw [k_u_ne (by decide)]
      have hn5 : κ2 24 2 0 = κ 24 2 0 := by rw [hk2]; rw [k_u_ne (by decide)]
      have hn6 : κ2 24 3 0 = κ 24 3 0 := by rw [hk2]; rw [k_u_ne (by decide)]
      refine z_iload hY eX7_setPatience_38 0 rfl ?_
      exact z_ireturn hY eX7_setPatience_39 rfl (by rw [hφ]; subst_vars; first | (exfalso; omega) | exact ⟨by omega, congrArg (fun q => some (z_i q)) (by first | rfl | omega), _, _, _, rfl, hI2, rfl⟩) ⟨Nat.zero_le _, Nat.zero_le _⟩
    · exact z_thr hY xX7_setPatience_11 (by rw [hmc, hms]; omega) (by rw [hψ]; refine ⟨rfl, ?_⟩; first | exact ⟨rfl, by omega⟩ | exact Or.inl ⟨rfl, by omega⟩ | exact Or.inr ⟨rfl, by omega⟩ | exact Or.inr (Or.inl ⟨rfl, by omega⟩) | exact Or.inr (Or.inr ⟨rfl, by omega⟩))
theorem q_enter {G : z_G} {D : Nat} {B : Nat → Int → Nat} {κ : c_K} {h : z_H} (hG : z_OK G) (hD : D = z_dc G) (hM : z_MI G) (hJ : cJ B κ) (hB : cB κ) (hV : cV κ) (hS : cS κ) {e : Int} (hre : -2147483648 ≤ e ∧ e ≤ 2147483647) (hR : cLp κ e = -1 → (0 ≤ e ∧ e < κ 24 0 0 ∧ κ 36 e 0 ≠ 0) → κ 24 3 0 + 1 ≤ κ 24 0 0) : z_T G mX7_enter [.ref (B 0 0), z_i e] (cH D B κ h) 9 3 57 (fun v' h' => ((0 ≤ e ∧ e < κ 24 0 0 ∧ κ 36 e 0 ≠ 0) ∧ cLp κ e = -1) ∧ v' = some (z_i (κ 24 3 0 + 1)) ∧ ∃ (κ' : c_K) (B' : Nat → Int → Nat) (h2 : z_H), h' = cH D B' κ' h2 ∧ cI B κ h B' κ' h2 ∧ ∃ N, κ' = kEn κ e (κ 1 0 0) N) (fun E h' => h' = cH D B κ h ∧ ((E = "java/lang/IndexOutOfBoundsException" ∧ ¬ (0 ≤ e ∧ e < κ 24 0 0 ∧ κ 36 e 0 ≠ 0)) ∨ (E = "java/lang/IllegalStateException" ∧ (0 ≤ e ∧ e < κ 24 0 0 ∧ κ 36 e 0 ≠ 0) ∧ cLp κ e ≠ -1))) := by
  obtain ⟨hn, hsz, hrw, hcu, htl, hth⟩ := id hV
  have hs0 := hsz 0 (by omega) (by omega)
  have hs1 := hsz 1 (by omega) (by omega)
  have hs2 := hsz 2 (by omega) (by omega)
  have hs3 := hsz 3 (by omega) (by omega)
  refine z_T_of hG pX7_enter (Nat.le_of_ble_eq_true rfl) (ls0 := [(0, .ref (B 0 0)), (1, z_i e)]) rfl fun Y hY hg hmc hms hφ hψ => ?_
  subst hg
  have hI0 := cI_r (h := h) hJ hV hS
  refine z_aload hY eX7_enter_0 0 rfl ?_
  refine z_iload hY eX7_enter_1 1 rfl ?_
  refine z_callV (As := [z_i e]) (rest := []) hY eX7_enter_2 (c_presentOne hG hJ hB hV hS (by omega)) (cH_at (B := B) (t := 0) (i := 0) hI0.1 (by omega)) (by decide) (Nat.le_of_ble_eq_true rfl) (by rw [hmc, hms]; omega) (fun E' h1 q => by obtain ⟨rfl, q⟩ := q; rw [hψ]; refine ⟨rfl, ?_⟩; obtain ⟨rfl, q⟩ := q <;> (first | exact ⟨rfl, by omega⟩ | exact Or.inl ⟨rfl, by omega⟩ | exact Or.inr ⟨rfl, by omega⟩ | exact Or.inr (Or.inl ⟨rfl, by omega⟩) | exact Or.inr (Or.inr ⟨rfl, by omega⟩))) (fun vv1 hh1 q1 => ?_)
  obtain ⟨hq1, rfl, rfl⟩ := q1
  refine z_astore hY eX7_enter_5 (ls' := [(2, .ref (B 20 e)), (0, .ref (B 0 0)), (1, z_i e)]) rfl ?_
  refine z_aload hY eX7_enter_6 1 rfl ?_
  refine c_gf hY hI0.1 eX7_enter_7 (t := 0) (i := 0) (v := .ref (B 11 0)) (by omega) rfl rfl ?_
  refine z_aload hY eX7_enter_10 0 rfl ?_
  refine z_callVr (As := [.ref (B 20 e)]) (rest := []) (r := z_i (cLp κ e)) hY eX7_enter_11 (l_placeIn hG hI0.1 hB hV (by omega)) (cH_at (B := B) (t := 11) (i := 0) hI0.1 (by omega)) (by decide) (Nat.le_of_ble_eq_true rfl) (by rw [hmc, hms]; omega) ?_
  have hc2 := cLp_b (κ := κ) e
  refine z_const hY eX7_enter_14 ?_
  refine z_icmpeq hY eX7_enter_15 (by omega) (fun c15 => ?_) (fun c15 => ?_)
  · have hRR := hR (by omega) (by omega)
    refine z_aload hY eX7_enter_29 1 rfl ?_
    refine c_gf hY hI0.1 eX7_enter_30 (t := 0) (i := 0) (v := .ref (B 11 0)) (by omega) rfl rfl ?_
    refine z_aload hY eX7_enter_33 0 rfl ?_
    refine z_aload hY eX7_enter_34 1 rfl ?_
    have hb3 := hS.s1 0 0
    refine c_gf hY hI0.1 eX7_enter_35 (t := 0) (i := 0) (v := z_i (κ 1 0 0)) (by omega) rfl rfl ?_
    refine z_callV (As := [.ref (B 20 e), z_i (κ 1 0 0)]) (rest := []) hY eX7_enter_38 (m_enter (B1 := B) (κ1 := κ) (h1 := h) hG hD hM hI0 (by omega) (by omega) (by omega)) (cH_at (B := B) (t := 11) (i := 0) hI0.1 (by omega)) (by decide) (Nat.le_of_ble_eq_true rfl) (by rw [hmc, hms]; omega) (fun _ _ q => q.elim) (fun vv4 hh4 q4 => ?_)
    obtain ⟨rfl, N4, a4, g4, rfl, hI4⟩ := q4
    obtain ⟨κ5, hk5⟩ : ∃ qq, qq = kEn κ e (κ 1 0 0) N4 := ⟨_, rfl⟩
    refine z_heq (congrArg (fun q => cH D (bU B 3 a4) q g4) hk5.symm) ?_
    have hI5 : cI B κ h (bU B 3 a4) κ5 g4 := hk5 ▸ hI4
    have hn6 : κ5 24 3 0 = κ 24 3 0 + 1 := by rw [hk5]; exact kAd_24
    refine z_aload hY eX7_enter_41 1 rfl ?_
    refine c_gf hY hI5.1 eX7_enter_42 (t := 0) (i := 0) (v := .ref (B 11 0)) ((hI5.2.2.2 _ _ (by decide) (by omega)).1) rfl rfl ?_
    refine c_gfN hY hI5.1 eX7_enter_45 (t := 11) (i := 0) (v := .ref (B 7 3)) ((hI5.2.2.2 _ _ (by decide) (by omega)).1) rfl rfl ?_
    refine z_callVr (As := []) (rest := []) (r := z_i (κ5 24 3 0)) hY eX7_enter_48 (c_size (B := (bU B 3 a4)) (κ := κ5) hG hI5.1 hI5.2.1.2.b hI5.2.1.1 (by omega)) (cH_at (B := (bU B 3 a4)) (t := 7) (i := 3) hI5.1 ((hI5.2.2.2 _ _ (by decide) (by omega)).1)) (by decide) (Nat.le_of_ble_eq_true rfl) (by rw [hmc, hms]; omega) ?_
    exact z_ireturn hY eX7_enter_51 rfl (by rw [hφ]; subst_vars; first | (exfalso; omega) | exact ⟨by omega, congrArg (fun q => some (z_i q)) (by first | rfl | omega), _, _, _, rfl, hI5, _, rfl⟩) (by rw [hmc, hms]; omega)
  · exact z_thr hY xX7_enter_18 (by rw [hmc, hms]; omega) (by rw [hψ]; refine ⟨rfl, ?_⟩; first | exact ⟨rfl, by omega⟩ | exact Or.inl ⟨rfl, by omega⟩ | exact Or.inr ⟨rfl, by omega⟩ | exact Or.inr (Or.inl ⟨rfl, by omega⟩) | exact Or.inr (Or.inr ⟨rfl, by omega⟩))
theorem q_challenge {G : z_G} {D : Nat} {B : Nat → Int → Nat} {κ : c_K} {h : z_H} (hG : z_OK G) (hD : D = z_dc G) (hM : z_MI G) (hJ : cJ B κ) (hB : cB κ) (hV : cV κ) (hS : cS κ) {e o w : Int} (hre : -2147483648 ≤ e ∧ e ≤ 2147483647) (hro : -2147483648 ≤ o ∧ o ≤ 2147483647) (hw : w = 0 ∨ w = 1) : z_T G mX7_challenge [.ref (B 0 0), z_i e, z_i o, z_i w] (cH D B κ h) 9 4 63 (fun v' h' => (((0 ≤ e ∧ e < κ 24 0 0 ∧ κ 36 e 0 ≠ 0) ∧ (0 ≤ o ∧ o < κ 24 0 0 ∧ κ 36 o 0 ≠ 0)) ∧ (cLp κ e ≠ -1 ∧ cLp κ o ≠ -1 ∧ cLp κ o < cLp κ e ∧ cLp κ e - cLp κ o ≤ κ 18 0 0)) ∧ v' = some (z_i (if w = 0 then cLp κ e else cLp κ o)) ∧ ∃ (κ' : c_K) (B' : Nat → Int → Nat) (h2 : z_H), h' = cH D B' κ' h2 ∧ cI B κ h B' κ' h2 ∧ (if w = 0 then κ' = kCh κ e o else ∃ N, κ' = kRz (kCh κ e o) (cLp κ e) (cLp κ o) N)) (fun E h' => h' = cH D B κ h ∧ ((E = "java/lang/IndexOutOfBoundsException" ∧ ¬ ((0 ≤ e ∧ e < κ 24 0 0 ∧ κ 36 e 0 ≠ 0) ∧ (0 ≤ o ∧ o < κ 24 0 0 ∧ κ 36 o 0 ≠ 0))) ∨ (E = "java/lang/IllegalStateException" ∧ ((0 ≤ e ∧ e < κ 24 0 0 ∧ κ 36 e 0 ≠ 0) ∧ (0 ≤ o ∧ o < κ 24 0 0 ∧ κ 36 o 0 ≠ 0)) ∧ ¬ (cLp κ e ≠ -1 ∧ cLp κ o ≠ -1 ∧ cLp κ o < cLp κ e ∧ cLp κ e - cLp κ o ≤ κ 18 0 0)))) := by
  obtain ⟨hn, hsz, hrw, hcu, htl, hth⟩ := id hV
  have hs0 := hsz 0 (by omega) (by omega)
  have hs1 := hsz 1 (by omega) (by omega)
  have hs2 := hsz 2 (by omega) (by omega)
  have hs3 := hsz 3 (by omega) (by omega)
  refine z_T_of hG pX7_challenge (Nat.le_of_ble_eq_true rfl) (ls0 := [(0, .ref (B 0 0)), (1, z_i e), (2, z_i o), (3, z_i w)]) rfl fun Y hY hg hmc hms hφ hψ => ?_
  subst hg
  have hI0 := cI_r (h := h) hJ hV hS
  refine z_aload hY eX7_challenge_0 0 rfl ?_
  refine z_iload hY eX7_challenge_1 1 rfl ?_
  refine z_callV (As := [z_i e]) (rest := []) hY eX7_challenge_2 (c_presentOne hG hJ hB hV hS (by omega)) (cH_at (B := B) (t := 0) (i := 0) hI0.1 (by omega)) (by decide) (Nat.le_of_ble_eq_true rfl) (by rw [hmc, hms]; omega) (fun E' h1 q => by obtain ⟨rfl, q⟩ := q; rw [hψ]; refine ⟨rfl, ?_⟩; obtain ⟨rfl, q⟩ := q <;> (first | exact ⟨rfl, by omega⟩ | exact Or.inl ⟨rfl, by omega⟩ | exact Or.inr ⟨rfl, by omega⟩ | exact Or.inr (Or.inl ⟨rfl, by omega⟩) | exact Or.inr (Or.inr ⟨rfl, by omega⟩))) (fun vv1 hh1 q1 => ?_)
  obtain ⟨hq1, rfl, rfl⟩ := q1
  refine z_astore hY eX7_challenge_5 (ls' := [(4, .ref (B 20 e)), (0, .ref (B 0 0)), (1, z_i e), (2, z_i o), (3, z_i w)]) rfl ?_
  refine z_aload hY eX7_challenge_7 1 rfl ?_
  refine z_iload hY eX7_challenge_8 3 rfl ?_
  refine z_callV (As := [z_i o]) (rest := []) hY eX7_challenge_9 (c_presentOne hG hJ hB hV hS (by omega)) (cH_at (B := B) (t := 0) (i := 0) hI0.1 (by omega)) (by decide) (Nat.le_of_ble_eq_true rfl) (by rw [hmc, hms]; omega) (fun E' h1 q => by obtain ⟨rfl, q⟩ := q; rw [hψ]; refine ⟨rfl, ?_⟩; obtain ⟨rfl, q⟩ := q <;> (first | exact ⟨rfl, by omega⟩ | exact Or.inl ⟨rfl, by omega⟩ | exact Or.inr ⟨rfl, by omega⟩ | exact Or.inr (Or.inl ⟨rfl, by omega⟩) | exact Or.inr (Or.inr ⟨rfl, by omega⟩))) (fun vv2 hh2 q2 => ?_)
  obtain ⟨hq2, rfl, rfl⟩ := q2
  refine z_astore hY eX7_challenge_12 (ls' := [(5, .ref (B 20 o)), (4, .ref (B 20 e)), (0, .ref (B 0 0)), (1, z_i e), (2, z_i o), (3, z_i w)]) rfl ?_
  refine z_aload hY eX7_challenge_14 2 rfl ?_
  refine c_gf hY hI0.1 eX7_challenge_15 (t := 0) (i := 0) (v := .ref (B 11 0)) (by omega) rfl rfl ?_
  refine z_aload hY eX7_challenge_18 1 rfl ?_
  refine z_callVr (As := [.ref (B 20 e)]) (rest := []) (r := z_i (cLp κ e)) hY eX7_challenge_20 (l_placeIn hG hI0.1 hB hV (by omega)) (cH_at (B := B) (t := 11) (i := 0) hI0.1 (by omega)) (by decide) (Nat.le_of_ble_eq_true rfl) (by rw [hmc, hms]; omega) ?_
  have hc3 := cLp_b (κ := κ) e
  refine z_istore hY eX7_challenge_23 (ls' := [(6, z_i (cLp κ e)), (5, .ref (B 20 o)), (4, .ref (B 20 e)), (0, .ref (B 0 0)), (1, z_i e), (2, z_i o), (3, z_i w)]) rfl ?_
  refine z_aload hY eX7_challenge_25 3 rfl ?_
  refine c_gf hY hI0.1 eX7_challenge_26 (t := 0) (i := 0) (v := .ref (B 11 0)) (by omega) rfl rfl ?_
  refine z_aload hY eX7_challenge_29 1 rfl ?_
  refine z_callVr (As := [.ref (B 20 o)]) (rest := []) (r := z_i (cLp κ o)) hY eX7_challenge_31 (l_placeIn hG hI0.1 hB hV (by omega)) (cH_at (B := B) (t := 11) (i := 0) hI0.1 (by omega)) (by decide) (Nat.le_of_ble_eq_true rfl) (by rw [hmc, hms]; omega) ?_
  have hc4 := cLp_b (κ := κ) o
  refine z_istore hY eX7_challenge_34 (ls' := [(7, z_i (cLp κ o)), (6, z_i (cLp κ e)), (5, .ref (B 20 o)), (4, .ref (B 20 e)), (0, .ref (B 0 0)), (1, z_i e), (2, z_i o), (3, z_i w)]) rfl ?_
  refine z_iload hY eX7_challenge_36 1 rfl ?_
  refine z_const hY eX7_challenge_38 ?_
  refine z_icmpeq hY eX7_challenge_39 (by omega) (fun c39 => ?_) (fun c39 => ?_)
  · exact z_thr hY xX7_challenge_70 (by rw [hmc, hms]; omega) (by rw [hψ]; refine ⟨rfl, ?_⟩; first | exact ⟨rfl, by omega⟩ | exact Or.inl ⟨rfl, by omega⟩ | exact Or.inr ⟨rfl, by omega⟩ | exact Or.inr (Or.inl ⟨rfl, by omega⟩) | exact Or.inr (Or.inr ⟨rfl, by omega⟩))
  · refine z_iload hY eX7_challenge_42 0 rfl ?_
    refine z_const hY eX7_challenge_44 ?_
    refine z_icmpeq hY eX7_challenge_45 (by omega) (fun c45 => ?_) (fun c45 => ?_)
    · exact z_thr hY xX7_challenge_70 (by rw [hmc, hms]; omega) (by rw [hψ]; refine ⟨rfl, ?_⟩; first | exact ⟨rfl, by omega⟩ | exact Or.inl ⟨rfl, by omega⟩ | exact Or.inr ⟨rfl, by omega⟩ | exact Or.inr (Or.inl ⟨rfl, by omega⟩) | exact Or.inr (Or.inr ⟨rfl, by omega⟩))
    · refine z_iload hY eX7_challenge_48 0 rfl ?_
      refine z_iload hY eX7_challenge_50 1 rfl ?_
      refine z_icmpge hY eX7_challenge_52 (by omega) (fun c52 => ?_) (fun c52 => ?_)
      · exact z_thr hY xX7_challenge_70 (by rw [hmc, hms]; omega) (by rw [hψ]; refine ⟨rfl, ?_⟩; first | exact ⟨rfl, by omega⟩ | exact Or.inl ⟨rfl, by omega⟩ | exact Or.inr ⟨rfl, by omega⟩ | exact Or.inr (Or.inl ⟨rfl, by omega⟩) | exact Or.inr (Or.inr ⟨rfl, by omega⟩))
      · refine z_iload hY eX7_challenge_55 1 rfl ?_
        refine z_iload hY eX7_challenge_57 0 rfl ?_
        refine z_isub hY eX7_challenge_59 ?_
        refine z_aload hY eX7_challenge_60 4 rfl ?_
        refine c_gf hY hI0.1 eX7_challenge_61 (t := 0) (i := 0) (v := .ref (B 11 0)) (by omega) rfl rfl ?_
        have hb5 := hS.s18 0 0
        refine c_gf hY hI0.1 eX7_challenge_64 (t := 11) (i := 0) (v := z_i (κ 18 0 0)) (by omega) rfl rfl ?_
        refine z_icmple hY eX7_challenge_67 (by omega) (fun c67 => ?_) (fun c67 => ?_)
        · refine z_aload hY eX7_challenge_81 3 rfl ?_
          refine z_aload hY eX7_challenge_83 4 rfl ?_
          have hb6 := hS.s1 0 0
          refine c_gf hY hI0.1 eX7_challenge_84 (t := 0) (i := 0) (v := z_i (κ 1 0 0)) (by omega) rfl rfl ?_
          refine c_pf hY hI0.1 eX7_challenge_87 (key := 40) (t := 20) (i := e) (by decide) rfl (by omega) rfl (Nat.le_of_ble_eq_true rfl) (by simp [cC, k_u, k_r]) ?_
          obtain ⟨κ7, hk7⟩ : ∃ qq, qq = k_u κ 40 e 0 (κ 1 0 0) := ⟨_, rfl⟩
          refine z_heq (congrArg (fun q => cH D B q h) hk7.symm) ?_
          have hI7 : cI B κ h B κ7 h := hk7 ▸ cI_t hI0 (cL_u (by decide)) (S_u hI0.2.1.1 hI0.2.1.2 (by decide) ⟨by show (-1 : Int) ≤ _; omega, by show _ ≤ (200 : Int); omega⟩)
          have hn8 : κ7 24 0 0 = κ 24 0 0 := by rw [hk7]; rw [k_u_ne (by decide)]
          have hn9 : κ7 24 1 0 = κ 24 1 0 := by rw [hk7]; rw [k_u_ne (by decide)]
          have hn10 : κ7 24 2 0 = κ 24 2 0 := by rw [hk7]; rw [k_u_ne (by decide)]
          have hn11 : κ7 24 3 0 = κ 24 3 0 := by rw [hk7]; rw [k_u_ne (by decide)]
          refine z_aload hY eX7_challenge_90 2 rfl ?_
          refine z_aload hY eX7_challenge_92 4 rfl ?_
          have hb12 := hI7.2.1.2.s1 0 0
          refine c_gf hY hI7.1 eX7_challenge_93 (t := 0) (i := 0) (v := z_i (κ7 1 0 0)) ((hI7.2.2.2 _ _ (by decide) (by omega)).1) rfl rfl ?_
          refine c_pf hY hI7.1 eX7_challenge_96 (key := 40) (t := 20) (i := o) (by decide) rfl ((hI7.2.2.2 _ _ (by decide) (by omega)).1) rfl (Nat.le_of_ble_eq_true rfl) (by simp [cC, k_u, k_r]) ?_
          obtain ⟨κ13, hk13⟩ : ∃ qq, qq = k_u κ7 40 o 0 (κ7 1 0 0) := ⟨_, rfl⟩
          refine z_heq (congrArg (fun q => cH D B q h) hk13.symm) ?_
          have hI13 : cI B κ h B κ13 h := hk13 ▸ cI_t hI7 (cL_u (by decide)) (S_u hI7.2.1.1 hI7.2.1.2 (by decide) ⟨by show (-1 : Int) ≤ _; omega, by show _ ≤ (200 : Int); omega⟩)
          have hn14 : κ13 24 0 0 = κ7 24 0 0 := by rw [hk13]; rw [k_u_ne (by decide)]
          have hn15 : κ13 24 1 0 = κ7 24 1 0 := by rw [hk13]; rw [k_u_ne (by decide)]
          have hn16 : κ13 24 2 0 = κ7 24 2 0 := by rw [hk13]; rw [k_u_ne (by decide)]
          have hn17 : κ13 24 3 0 = κ7 24 3 0 := by rw [hk13]; rw [k_u_ne (by decide)]
          refine z_iload hY eX7_challenge_99 7 rfl ?_
          refine z_ifne hY eX7_challenge_100 (by omega) (fun c100 => ?_) (fun c100 => ?_)
          · refine z_aload hY eX7_challenge_106 4 rfl ?_
            refine c_gf hY hI13.1 eX7_challenge_107 (t := 0) (i := 0) (v := .ref (B 11 0)) ((hI13.2.2.2 _ _ (by decide) (by omega)).1) rfl rfl ?_
            refine z_iload hY eX7_challenge_110 1 rfl ?_
            refine z_iload hY eX7_challenge_112 0 rfl ?_
            refine z_callV (As := [z_i (cLp κ e), z_i (cLp κ o)]) (rest := []) hY eX7_challenge_114 (m_raise (B1 := B) (κ1 := κ13) (h1 := h) hG hD hM hI13 (a := (cLp κ e)) (b := (cLp κ o)) (by omega)) (cH_at (B := B) (t := 11) (i := 0) hI13.1 ((hI13.2.2.2 _ _ (by decide) (by omega)).1)) (by decide) (Nat.le_of_ble_eq_true rfl) (by rw [hmc, hms]; omega) (fun _ _ q => q.elim) (fun vv18 hh18 q18 => ?_)
            obtain ⟨rfl, N18, a18, g18, rfl, hI18⟩ := q18
            obtain ⟨κ19, hk19⟩ : ∃ qq, qq = kRz κ13 (cLp κ e) (cLp κ o) N18 := ⟨_, rfl⟩
            refine z_heq (congrArg (fun q => cH D (bU B 3 a18) q g18) hk19.symm) ?_
            have hI19 : cI B κ h (bU B 3 a18) κ19 g18 := hk19 ▸ hI18
            refine z_iload hY eX7_challenge_117 0 rfl ?_
            exact z_ireturn hY eX7_challenge_119 rfl (by rw [hφ]; subst_vars; exact ⟨by omega, congrArg (fun q => some (z_i q)) (by split <;> omega), _, _, _, rfl, hI19, by rw [if_neg (by omega)]; exact ⟨_, rfl⟩⟩) (by rw [hmc, hms]; omega)
          · refine z_iload hY eX7_challenge_103 1 rfl ?_
            exact z_ireturn hY eX7_challenge_105 rfl (by rw [hφ]; subst_vars; exact ⟨by omega, congrArg (fun q => some (z_i q)) (by split <;> omega), _, _, _, rfl, hI13, by rw [if_pos (by omega)]; rfl⟩) (by rw [hmc, hms]; omega)
        · exact z_thr hY xX7_challenge_70 (by rw [hmc, hms]; omega) (by rw [hψ]; refine ⟨rfl, ?_⟩; first | exact ⟨rfl, by omega⟩ | exact Or.inl ⟨rfl, by omega⟩ | exact Or.inr ⟨rfl, by omega⟩ | exact Or.inr (Or.inl ⟨rfl, by omega⟩) | exact Or.inr (Or.inr ⟨rfl, by omega⟩))
end D5
