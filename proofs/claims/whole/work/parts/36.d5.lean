/-! The hall: what its calls change (laid by wip/whole/gen/gm36.py). -/
section D5
theorem cS_Np {κ : c_K} (hS : cS κ) : ∀ m : Nat, m ≤ 30 → cS (kNp κ m) := by
  intro m
  induction m with
  | zero => intro _; exact hS
  | succ m ih =>
    intro hm
    exact cS_u (ih (by omega)) (by decide) ⟨by show (-1 : Int) ≤ _; omega, by show _ ≤ (30 : Int); omega⟩
theorem cV_Na {κ : c_K} (hV : cV κ) : cV (kNa κ) := cV_Np hV _
theorem cS_Na {κ : c_K} (hV : cV κ) (hS : cS κ) : cS (kNa κ) := by
  have h1 := hV.2.1 1 (by omega) (by omega)
  have h2 := hV.1
  exact cS_Np hS _ (by omega)
theorem cL_Na {κ : c_K} (t : Nat) (i : Int) : cL (kNa κ) t i ↔ cL κ t i := cL_Np _ t i
theorem cS_lst {κ κ' : c_K} (hS : cS κ) {r : Int} (hr : 1 ≤ r) (h : ∀ k, k ≠ 20 → k ≠ 24 → k ≠ 25 → k ≠ 26 → κ' k = κ k) (h2 : ∀ k i, i ≠ r → κ' k i = κ k i) (hb : ∀ k j, k = 20 ∨ k = 24 ∨ k = 25 ∨ k = 26 → -2147483648 ≤ κ' k r j ∧ κ' k r j ≤ 2147483647) : cS κ' := by
  refine ⟨fun k i j => ?_, ?_, ?_⟩
  · by_cases hk : k = 20 ∨ k = 24 ∨ k = 25 ∨ k = 26
    · by_cases hi : i = r
      · subst hi
        have := hb k j hk
        rcases hk with rfl | rfl | rfl | rfl <;> exact this
      · rw [h2 k i hi]; exact hS.1 k i j
    · rw [h k (by omega) (by omega) (by omega) (by omega)]; exact hS.1 k i j
  · rw [h2 24 0 (by omega), h2 20 0 (by omega)]; exact hS.2.1
  · rw [h2 24 0 (by omega), h 34 (by decide) (by decide) (by decide) (by decide)]; exact hS.2.2
theorem cS_Rw {κ : c_K} (hS : cS κ) {r mo n : Int} {f : Int → Int} (hr : 1 ≤ r) (hn : -2147483648 ≤ n ∧ n ≤ 2147483647) (hm : -2147483648 ≤ mo ∧ mo ≤ 2147483647) (hf : ∀ j, -2147483648 ≤ f j ∧ f j ≤ 2147483647) : cS (kRw κ r f n mo) := by
  have hR : ∀ (k : Nat) (j : Int), k = 20 ∨ k = 24 ∨ k = 25 ∨ k = 26 → -2147483648 ≤ kRw κ r f n mo k r j ∧ kRw κ r f n mo k r j ≤ 2147483647 := by
    intro k j hk
    have hB := hS.b
    exact cB_u (cB_u (cB_r hB hf) hn) hm k r j
  exact cS_lst hS hr (fun k a b c d => kRw_ne ⟨a, b, c⟩) (fun k i hi => kRw_ni hi) hR
theorem cS_Ad {κ : c_K} (hV : cV κ) (hS : cS κ) {r mo N : Int} {f : Int → Int} (hr : 1 ≤ r ∧ r ≤ 3) (hN : -2147483648 ≤ N ∧ N ≤ 2147483647) (hm : -2147483648 ≤ mo ∧ mo ≤ 2147483647) (hf : ∀ j, -2147483648 ≤ f j ∧ f j ≤ 2147483647) : cS (kAd κ r f mo N) := by
  have h1 := hV.2.1 r (by omega) (by omega)
  have h2 := hV.1
  have hR : ∀ (k : Nat) (j : Int), k = 20 ∨ k = 24 ∨ k = 25 ∨ k = 26 → -2147483648 ≤ kAd κ r f mo N k r j ∧ kAd κ r f mo N k r j ≤ 2147483647 := by
    intro k j hk
    have hB := hS.b
    exact cB_u (cB_u (cB_u (cB_r hB hf) (by omega)) hm) hN k r j
  exact cS_lst hS hr.1 (fun k a b c d => kAd_ne ⟨a, b, c, d⟩) (fun k i hi => kAd_ni hi) hR
theorem fIn_i {κ : c_K} (hS : cS κ) (hV : cV κ) {r i e : Int} (he : 0 ≤ e ∧ e < κ 24 0 0) (j : Int) : -2147483648 ≤ fIn κ r i e j ∧ fIn κ r i e j ≤ 2147483647 := by
  have h1 := hS.b 20 r j
  have h2 := hS.b 20 r (j - 1)
  have h3 := hV.1
  unfold fIn
  (repeat' split) <;> omega
theorem fDl_i {κ : c_K} (hS : cS κ) {r i : Int} (j : Int) : -2147483648 ≤ fDl κ r i j ∧ fDl κ r i j ≤ 2147483647 := by
  have h1 := hS.b 20 r j
  have h2 := hS.b 20 r (j + 1)
  unfold fDl
  split <;> omega
theorem S_In {κ : c_K} (hV : cV κ) (hS : cS κ) {r i e m N : Int} (hr : 1 ≤ r ∧ r ≤ 3) (hi : 0 ≤ i ∧ i ≤ κ 24 r 0) (he : 0 ≤ e ∧ e < κ 24 0 0) (hs : κ 24 r 0 + 1 ≤ κ 24 0 0) (hN : κ 24 r 0 + 1 ≤ N ∧ 0 < N ∧ N ≤ 45) : cV (kAd κ r (fIn κ r i e) (kW m) N) ∧ cS (kAd κ r (fIn κ r i e) (kW m) N) :=
  ⟨cV_Ad hV hr hs (by omega) (fIn_b hV (by omega) hi he), cS_Ad hV hS hr (by omega) (kW_b _) (fIn_i hS hV he)⟩
theorem S_Dl {κ : c_K} (hV : cV κ) (hS : cS κ) {r i m : Int} (hr : 1 ≤ r ∧ r ≤ 3) (hi : 0 ≤ i ∧ i < κ 24 r 0) : cV (kRw κ r (fDl κ r i) (κ 24 r 0 - 1) (kW m)) ∧ cS (kRw κ r (fDl κ r i) (κ 24 r 0 - 1) (kW m)) := by
  have h1 := hV.2.1 r (by omega) (by omega)
  have h2 := hV.1
  exact ⟨cV_Rw hV hr (by omega) (fDl_b hV (by omega) hi), cS_Rw hS hr.1 (by omega) (kW_b _) (fDl_i hS)⟩
theorem S_Ta {κ : c_K} (hV : cV κ) (hS : cS κ) (e : Int) : cV (kTa κ e) ∧ cS (kTa κ e) := by
  unfold kTa
  split
  · next h => have h1 := S_Dl hV hS (r := 1) (i := κ 37 e 0 - 1) (m := κ 25 1 0) (by omega) (by omega); exact ⟨cV_Na h1.1, cS_Na h1.1 h1.2⟩
  · exact ⟨cV_Na hV, cS_Na hV hS⟩
theorem L_Ta {κ : c_K} (e : Int) (t : Nat) (i : Int) : cL (kTa κ e) t i ↔ cL κ t i := by
  unfold kTa
  refine (cL_Na t i).trans ?_
  split
  · exact cL_Rw (by omega) t i
  · exact Iff.rfl
theorem S_Tp {κ : c_K} (hV : cV κ) (hS : cS κ) (e : Int) : cV (kTp κ e) ∧ cS (kTp κ e) := by
  unfold kTp
  rcases z_ff_s (fun i => κ 20 2 i = e) (κ 24 2 0) with ⟨h1, -⟩ | ⟨h1, h2, -, -⟩
  · rw [if_pos h1]; exact ⟨hV, hS⟩
  · rw [if_neg (by omega)]; exact S_Dl hV hS (by omega) ⟨h1, h2⟩
theorem L_Tp {κ : c_K} (e : Int) (t : Nat) (i : Int) : cL (kTp κ e) t i ↔ cL κ t i := by
  unfold kTp
  split
  · exact Iff.rfl
  · exact cL_Rw (by omega) t i
theorem S_Tl {κ : c_K} (hV : cV κ) (hS : cS κ) (e : Int) : cV (kTl κ e) ∧ cS (kTl κ e) := by
  unfold kTl
  rcases cLp_b (κ := κ) e with h1 | h1
  · rw [if_pos h1]; exact ⟨hV, hS⟩
  · rw [if_neg (by omega)]; exact S_Dl hV hS (by omega) (by omega)
theorem L_Tl {κ : c_K} (e : Int) (t : Nat) (i : Int) : cL (kTl κ e) t i ↔ cL κ t i := by
  unfold kTl
  split
  · exact Iff.rfl
  · exact cL_Rw (by omega) t i
theorem S_Jd {κ : c_K} (hV : cV κ) (hS : cS κ) (o e : Int) : cV (kJd κ o e) ∧ cS (kJd κ o e) := ⟨cV_r hV (by decide), cS_Jd hS o e⟩
theorem L_Jd {κ : c_K} (o e : Int) (t : Nat) (i : Int) : cL (kJd κ o e) t i ↔ cL κ t i := cL_r (by decide) t i
theorem S_u {κ : c_K} (hV : cV κ) (hS : cS κ) {k : Nat} {i j v : Int} (hk : k ≠ 5 ∧ k ≠ 17 ∧ k ≠ 20 ∧ k ≠ 24 ∧ k ≠ 26 ∧ k ≠ 34 ∧ k ≠ 36) (hv : bLo k ≤ v ∧ v ≤ bHi k) : cV (k_u κ k i j v) ∧ cS (k_u κ k i j v) := ⟨cV_u hV (by omega), cS_u hS (by omega) hv⟩
/-- what lies outside stays, what is alive stays alive at its place -/
def cF (B : Nat → Int → Nat) (κ : c_K) (h : z_H) (B' : Nat → Int → Nat) (κ' : c_K) (h' : z_H) : Prop := (∀ x c, h x = some c → (∀ t i, cL κ t i → B t i ≠ x) → h' x = some c ∧ ∀ t i, cL κ' t i → B' t i ≠ x) ∧ (∀ t i, t ≠ 8 → cL κ t i → cL κ' t i ∧ B' t i = B t i)
theorem cF_refl {B : Nat → Int → Nat} {κ : c_K} {h : z_H} : cF B κ h B κ h := ⟨fun _ _ h1 h2 => ⟨h1, h2⟩, fun _ _ _ h1 => ⟨h1, rfl⟩⟩
theorem cF_tr {B B1 B2 : Nat → Int → Nat} {κ κ1 κ2 : c_K} {h h1 h2 : z_H} (a : cF B κ h B1 κ1 h1) (b : cF B1 κ1 h1 B2 κ2 h2) : cF B κ h B2 κ2 h2 :=
  ⟨fun x c e1 e2 => b.1 x c (a.1 x c e1 e2).1 (a.1 x c e1 e2).2, fun t i ht hl => ⟨(b.2 t i ht (a.2 t i ht hl).1).1, (b.2 t i ht (a.2 t i ht hl).1).2.trans (a.2 t i ht hl).2⟩⟩
theorem cF_L {B : Nat → Int → Nat} {κ κ' : c_K} {h : z_H} (hL : ∀ t i, cL κ' t i ↔ cL κ t i) : cF B κ h B κ' h :=
  ⟨fun _ _ h1 h2 => ⟨h1, fun t i hl => h2 t i ((hL t i).mp hl)⟩, fun t i _ h1 => ⟨(hL t i).mpr h1, rfl⟩⟩
theorem cF_of {D : Nat} {B B' : Nat → Int → Nat} {κ κ' : c_K} {h h' : z_H} (hF : cFr D B κ h B' κ' h') (hn : κ 24 0 0 ≤ κ' 24 0 0) : cF B κ h B' κ' h' := by
  refine ⟨fun x c e1 e2 => ⟨(hF.1 x e2).trans e1, fun t i hl e => ?_⟩, fun t i ht hl => ⟨?_, hF.2.1 t i ht hl⟩⟩
  · rcases hF.2.2 t i hl with ⟨q1, q2⟩ | q
    · exact e2 t i q1 (q2.symm.trans e)
    · rw [e, cH_no e2, e1] at q
      cases q
  · rcases hl with h1 | h1 | h1 | h1 | h1
    · exact Or.inl h1
    · exact Or.inr (Or.inl h1)
    · exact Or.inr (Or.inr (Or.inl h1))
    · exact absurd h1.1 ht
    · exact Or.inr (Or.inr (Or.inr (Or.inr ⟨h1.1, h1.2.1, h1.2.2.1, by omega⟩)))
/-- a state of the class that follows -/
def cI (B : Nat → Int → Nat) (κ : c_K) (h : z_H) (B' : Nat → Int → Nat) (κ' : c_K) (h' : z_H) : Prop := cJ B' κ' ∧ (cV κ' ∧ cS κ') ∧ cF B κ h B' κ' h'
theorem cI_r {B : Nat → Int → Nat} {κ : c_K} {h : z_H} (hJ : cJ B κ) (hV : cV κ) (hS : cS κ) : cI B κ h B κ h := ⟨hJ, ⟨hV, hS⟩, cF_refl⟩
theorem cI_t {B B1 : Nat → Int → Nat} {κ κ1 κ2 : c_K} {h h1 : z_H} (hI : cI B κ h B1 κ1 h1) (hL : ∀ t i, cL κ2 t i ↔ cL κ1 t i) (hS : cV κ2 ∧ cS κ2) : cI B κ h B1 κ2 h1 := ⟨cJ_of hI.1 hL, hS, cF_tr hI.2.2 (cF_L hL)⟩
theorem cI_p {D : Nat} {B B1 B2 : Nat → Int → Nat} {κ κ1 κ2 : c_K} {h h1 h2 : z_H} (hI : cI B κ h B1 κ1 h1) (hJ : cJ B2 κ2) (hF : cFr D B1 κ1 h1 B2 κ2 h2) (hn : κ1 24 0 0 ≤ κ2 24 0 0) (hS : cV κ2 ∧ cS κ2) : cI B κ h B2 κ2 h2 := ⟨hJ, hS, cF_tr hI.2.2 (cF_of hF hn)⟩
/-- the standing when one is put into it -/
def kSp (κ : c_K) (e N : Int) : c_K := kNa (kAd κ 1 (fIn κ 1 (sW κ e) e) (kW (κ 25 1 0)) N)
/-- the row of points when one is put into it -/
def kPp (κ : c_K) (e N : Int) : c_K := kAd κ 2 (fIn κ 2 (pW κ e) e) (kW (κ 25 2 0)) N
theorem sW_b {κ : c_K} (hV : cV κ) (e : Int) : 0 ≤ sW κ e ∧ sW κ e ≤ κ 24 1 0 := z_fw_b _ (hV.2.1 1 (by omega) (by omega)).1
theorem pW_b {κ : c_K} (hV : cV κ) (e : Int) : 0 ≤ pW κ e ∧ pW κ e ≤ κ 24 2 0 := z_fw_b _ (hV.2.1 2 (by omega) (by omega)).1
theorem S_Sp {κ : c_K} (hV : cV κ) (hS : cS κ) {e N : Int} (he : 0 ≤ e ∧ e < κ 24 0 0) (hs : κ 24 1 0 + 1 ≤ κ 24 0 0) (hN : κ 24 1 0 + 1 ≤ N ∧ 0 < N ∧ N ≤ 45) : cV (kSp κ e N) ∧ cS (kSp κ e N) := by
  have h1 := S_In hV hS (r := 1) (m := κ 25 1 0) (by omega) (sW_b hV e) he hs hN
  exact ⟨cV_Na h1.1, cS_Na h1.1 h1.2⟩
theorem S_Pp {κ : c_K} (hV : cV κ) (hS : cS κ) {e N : Int} (he : 0 ≤ e ∧ e < κ 24 0 0) (hs : κ 24 2 0 + 1 ≤ κ 24 0 0) (hN : κ 24 2 0 + 1 ≤ N ∧ 0 < N ∧ N ≤ 45) : cV (kPp κ e N) ∧ cS (kPp κ e N) := S_In hV hS (r := 2) (m := κ 25 2 0) (by omega) (pW_b hV e) he hs hN
theorem kSp_n {κ : c_K} {e N : Int} : kSp κ e N 24 0 0 = κ 24 0 0 := by
  unfold kSp kNa
  rw [kNp_ne (by decide), kAd_ni (by omega)]
theorem kPp_n {κ : c_K} {e N : Int} : kPp κ e N 24 0 0 = κ 24 0 0 := by
  unfold kPp
  rw [kAd_ni (by omega)]
theorem m_sput {G : z_G} {D : Nat} {B B1 : Nat → Int → Nat} {κ κ1 : c_K} {h h1 : z_H} (hG : z_OK G) (hD : D = z_dc G) (hM : z_MI G) (hI : cI B κ h B1 κ1 h1) {e : Int} (he : 0 ≤ e ∧ e < κ1 24 0 0) (hs : κ1 24 1 0 + 1 ≤ κ1 24 0 0) : z_T G mX5_put [.ref (B1 9 0), .ref (B1 20 e)] (cH D B1 κ1 h1) 7 1 45 (fun v h' => v = none ∧ ∃ (N : Int) (e1 : Nat) (h2 : z_H), h' = cH D (bU B1 1 e1) (kSp κ1 e N) h2 ∧ (κ1 24 1 0 + 1 ≤ N ∧ 0 < N ∧ N ≤ 45) ∧ cI B κ h (bU B1 1 e1) (kSp κ1 e N) h2) z_no := by
  refine z_T.mono (s_put hG hD hI.1 hI.2.1.2.b hI.2.1.1 hM he hs) (fun v h' q => ?_) (fun _ _ q => q)
  obtain ⟨h0, e1, N1, h2, h3, h4, h5, h6⟩ := q
  exact ⟨h0, N1, e1, h2, h3, h5, cI_p hI h4 h6 (Int.le_of_eq kSp_n.symm) (S_Sp hI.2.1.1 hI.2.1.2 he hs h5)⟩
theorem m_pput {G : z_G} {D : Nat} {B B1 : Nat → Int → Nat} {κ κ1 : c_K} {h h1 : z_H} (hG : z_OK G) (hD : D = z_dc G) (hM : z_MI G) (hI : cI B κ h B1 κ1 h1) {e : Int} (he : 0 ≤ e ∧ e < κ1 24 0 0) (hs : κ1 24 2 0 + 1 ≤ κ1 24 0 0) : z_T G mX4_put [.ref (B1 10 0), .ref (B1 20 e)] (cH D B1 κ1 h1) 7 1 45 (fun v h' => v = none ∧ ∃ (N : Int) (e1 : Nat) (h2 : z_H), h' = cH D (bU B1 2 e1) (kPp κ1 e N) h2 ∧ (κ1 24 2 0 + 1 ≤ N ∧ 0 < N ∧ N ≤ 45) ∧ cI B κ h (bU B1 2 e1) (kPp κ1 e N) h2) z_no := by
  refine z_T.mono (p_put hG hD hI.1 hI.2.1.2.b hI.2.1.1 hM he) (fun v h' q => ?_) (fun _ _ q => q)
  obtain ⟨h0, e1, N1, h2, h3, h4, h5, h6⟩ := q
  exact ⟨h0, N1, e1, h2, h3, h5, cI_p hI h4 h6 (Int.le_of_eq kPp_n.symm) (S_Pp hI.2.1.1 hI.2.1.2 he hs h5)⟩
theorem S_Pb {κ : c_K} (hV : cV κ) (hS : cS κ) {b : Int} (hb : 0 ≤ b ∧ b ≤ 255) (h5 : κ 5 0 0 + (if b = 0 then 0 else 1) ≤ 100) : cV (kPb κ b) ∧ cS (kPb κ b) := by
  have h6 := hV.2.2.2.2.1
  unfold kPb
  split
  · exact ⟨hV, hS⟩
  · next hb0 =>
    rw [if_neg hb0] at h5
    exact ⟨cV_5 (cV_u hV (by decide)) (by omega), cS_u (cS_u hS (by decide) hb) (by decide) ⟨by show (0 : Int) ≤ _; omega, by show _ ≤ (100 : Int); omega⟩⟩
theorem L_Pb {κ : c_K} (b : Int) (t : Nat) (i : Int) : cL (kPb κ b) t i ↔ cL κ t i := by
  unfold kPb
  split
  · exact Iff.rfl
  · exact (cL_u (by decide) t i).trans (cL_u (by decide) t i)
theorem S_Tk {κ : c_K} (hV : cV κ) (hS : cS κ) {v : Int} (h5 : κ 5 0 0 + yBy v ≤ 100) : cV (kTk κ v) ∧ cS (kTk κ v) := by
  have e1 := kPb_5 κ (v / 16777216 % 256)
  have e2 := kPb_5 (kPb κ (v / 16777216 % 256)) (v / 65536 % 256)
  have e3 := kPb_5 (kPb (kPb κ (v / 16777216 % 256)) (v / 65536 % 256)) (v / 256 % 256)
  unfold yBy at h5
  have s1 := S_Pb hV hS (b := v / 16777216 % 256) (by omega) (by omega)
  have s2 := S_Pb s1.1 s1.2 (b := v / 65536 % 256) (by omega) (by omega)
  have s3 := S_Pb s2.1 s2.2 (b := v / 256 % 256) (by omega) (by omega)
  exact S_Pb s3.1 s3.2 (b := v / 1 % 256) (by omega) (by omega)
theorem L_Tk {κ : c_K} (v : Int) (t : Nat) (i : Int) : cL (kTk κ v) t i ↔ cL κ t i := ((L_Pb _ t i).trans (L_Pb _ t i)).trans ((L_Pb _ t i).trans (L_Pb _ t i))
theorem kTa_ne {κ : c_K} {e : Int} {k : Nat} (h : k ≠ 20 ∧ k ≠ 24 ∧ k ≠ 25 ∧ k ≠ 37) : kTa κ e k = κ k := by
  unfold kTa kNa
  rw [kNp_ne h.2.2.2]
  split
  · exact kRw_ne ⟨h.1, h.2.1, h.2.2.1⟩
  · rfl
theorem kTa_ni {κ : c_K} {e : Int} {k : Nat} {i : Int} (h : k ≠ 37) (hi : i ≠ 1) : kTa κ e k i = κ k i := by
  unfold kTa kNa
  rw [kNp_ne h]
  split
  · exact kRw_ni hi
  · rfl
theorem kTa_24 {κ : c_K} {e : Int} (h : 1 ≤ κ 37 e 0 ∧ κ 37 e 0 ≤ κ 24 1 0) : kTa κ e 24 1 0 = κ 24 1 0 - 1 := by
  unfold kTa kNa
  rw [kNp_ne (by decide), if_pos h, kRw_24]
theorem kTp_ne {κ : c_K} {e : Int} {k : Nat} (h : k ≠ 20 ∧ k ≠ 24 ∧ k ≠ 25) : kTp κ e k = κ k := by
  unfold kTp
  split
  · rfl
  · exact kRw_ne h
theorem kTp_ni {κ : c_K} {e : Int} {k : Nat} {i : Int} (hi : i ≠ 2) : kTp κ e k i = κ k i := by
  unfold kTp
  split
  · rfl
  · exact kRw_ni hi
theorem kTp_24 {κ : c_K} {e : Int} (h : z_ff (fun i => κ 20 2 i = e) (κ 24 2 0) ≠ -1) : kTp κ e 24 2 0 = κ 24 2 0 - 1 := by
  unfold kTp
  rw [if_neg h, kRw_24]
theorem kTl_ne {κ : c_K} {e : Int} {k : Nat} (h : k ≠ 20 ∧ k ≠ 24 ∧ k ≠ 25) : kTl κ e k = κ k := by
  unfold kTl
  split
  · rfl
  · exact kRw_ne h
theorem kTl_ni {κ : c_K} {e : Int} {k : Nat} {i : Int} (hi : i ≠ 3) : kTl κ e k i = κ k i := by
  unfold kTl
  split
  · rfl
  · exact kRw_ni hi
theorem kPp_ne {κ : c_K} {e N : Int} {k : Nat} (h : k ≠ 20 ∧ k ≠ 24 ∧ k ≠ 25 ∧ k ≠ 26) : kPp κ e N k = κ k := kAd_ne h
theorem kPp_ni {κ : c_K} {e N : Int} {k : Nat} {i : Int} (h : i ≠ 2) : kPp κ e N k i = κ k i := kAd_ni h
theorem kJd_ne {κ : c_K} {o e : Int} {k : Nat} (h : k ≠ 31) : kJd κ o e k = κ k := k_r_ne h
def kC5 (κ : c_K) (e k v N : Int) : c_K := if k = 0 ∧ v ≠ κ 30 e 0 then kPp (k_u (k_u (kTp (kTa κ e) e) 38 e 0 (kTp (kTa κ e) e 38 e 0 + v - kTp (kTa κ e) e 30 e 0)) 30 e k v) e N else k_u (kTa κ e) 30 e k v
/-- the class when a score is changed -/
def kCs (κ : c_K) (e k v N1 N2 : Int) : c_K := kSp (kJd (kC5 κ e k v N1) (kC5 κ e k v N1 17 0 0) e) e N2

theorem c_changeScore {G : z_G} {D : Nat} {B : Nat → Int → Nat} {κ : c_K} {h : z_H} (hG : z_OK G) (hD : D = z_dc G) (hM : z_MI G) (hJ : cJ B κ) (hB : cB κ) (hV : cV κ) (hS : cS κ) {e k v : Int} (he : 0 ≤ e ∧ e < κ 24 0 0) (hk : 0 ≤ k ∧ k ≤ 3) (hv : -100000 ≤ v ∧ v ≤ 100000) (hp : 1 ≤ κ 37 e 0 ∧ κ 37 e 0 ≤ κ 24 1 0) (hfd : z_ff (fun i => κ 20 2 i = e) (κ 24 2 0) ≠ -1) (hg : -200000 ≤ κ 38 e 0 + v - κ 30 e 0 ∧ κ 38 e 0 + v - κ 30 e 0 ≤ 200000) : z_T G mX7_changeScore [.ref (B 0 0), .ref (B 20 e), z_i k, z_i v] (cH D B κ h) 8 2 90 (fun v' h' => v' = none ∧ ∃ (κ' : c_K) (B' : Nat → Int → Nat) (h2 : z_H), h' = cH D B' κ' h2 ∧ cI B κ h B' κ' h2 ∧ ∃ N1 N2, κ' = kCs κ e k v N1 N2) (z_no) := by
  obtain ⟨hn, hsz, hrw, hcu, htl, hth⟩ := id hV
  have hs0 := hsz 0 (by omega) (by omega)
  have hs1 := hsz 1 (by omega) (by omega)
  have hs2 := hsz 2 (by omega) (by omega)
  have hs3 := hsz 3 (by omega) (by omega)
  refine z_T_of hG pX7_changeScore (Nat.le_of_ble_eq_true rfl) (ls0 := [(0, .ref (B 0 0)), (1, .ref (B 20 e)), (2, z_i k), (3, z_i v)]) rfl fun Y hY hg hmc hms hφ hψ => ?_
  subst hg
  have hI0 := cI_r (h := h) hJ hV hS
  refine z_aload hY eX7_changeScore_0 0 rfl ?_
  refine c_gf hY hI0.1 eX7_changeScore_1 (t := 0) (i := 0) (v := .ref (B 9 0)) (by omega) rfl rfl ?_
  refine z_aload hY eX7_changeScore_4 1 rfl ?_
  refine z_callV (As := [.ref (B 20 e)]) (rest := []) hY eX7_changeScore_5 (s_take (B := B) (κ := κ) hG hI0.1 hI0.2.1.2.b hI0.2.1.1 (by omega) (by omega)) (cH_at (B := B) (t := 9) (i := 0) hI0.1 (by omega)) (by decide) (Nat.le_of_ble_eq_true rfl) ⟨Nat.zero_le _, Nat.zero_le _⟩ (fun _ _ q => q.elim) (fun vv1 hh1 q1 => ?_)
  obtain ⟨rfl, rfl⟩ := q1
  obtain ⟨κ2, hk2⟩ : ∃ q, q = kTa κ e := ⟨_, rfl⟩
  refine z_heq (congrArg (fun q => cH D B q h) hk2.symm) ?_
  have hI2 : cI B κ h B κ2 h := hk2 ▸ cI_t hI0 (L_Ta e) (S_Ta hI0.2.1.1 hI0.2.1.2 e)
  have hn3 : κ2 24 0 0 = κ 24 0 0 := by rw [hk2]; rw [kTa_ni (by decide) (by decide)]
  have hn4 : κ2 24 2 0 = κ 24 2 0 := by rw [hk2]; rw [kTa_ni (by decide) (by decide)]
  have hn5 : κ2 24 3 0 = κ 24 3 0 := by rw [hk2]; rw [kTa_ni (by decide) (by decide)]
  have hn6 : κ2 24 1 0 = κ 24 1 0 - 1 := by rw [hk2]; exact kTa_24 (by omega)
  have hn7 : κ2 20 2 = κ 20 2 := by rw [hk2]; rw [kTa_ni (by decide) (by decide)]
  have hn8 : κ2 17 0 0 = κ 17 0 0 := by rw [hk2]; rw [kTa_ne (by decide)]
  have hn9 : κ2 30 e 0 = κ 30 e 0 := by rw [hk2]; rw [kTa_ne (by decide)]
  have hn10 : κ2 38 e 0 = κ 38 e 0 := by rw [hk2]; rw [kTa_ne (by decide)]
  refine z_iload hY eX7_changeScore_8 2 rfl ?_
  refine z_ifne hY eX7_changeScore_9 (by omega) (fun c9 => ?_) (fun c9 => ?_)
  · refine z_aload hY eX7_changeScore_60 1 rfl ?_
    refine z_iload hY eX7_changeScore_61 2 rfl ?_
    refine z_iload hY eX7_changeScore_62 3 rfl ?_
    refine z_callV (As := [z_i k, z_i v]) (rest := []) hY eX7_changeScore_63 (e_putScore (B := B) (κ := κ2) hG hI2.1 hI2.2.1.2.b hI2.2.1.1 (by omega) (by omega)) (cH_at (B := B) (t := 20) (i := e) hI2.1 ((hI2.2.2.2 _ _ (by decide) (by omega)).1)) (by decide) (Nat.le_of_ble_eq_true rfl) ⟨Nat.zero_le _, Nat.zero_le _⟩ (fun _ _ q => q.elim) (fun vv11 hh11 q11 => ?_)
    obtain ⟨rfl, rfl⟩ := q11
    obtain ⟨κ12, hk12⟩ : ∃ q, q = k_u κ2 30 e k v := ⟨_, rfl⟩
    refine z_heq (congrArg (fun q => cH D B q h) hk12.symm) ?_
    have hI12 : cI B κ h B κ12 h := hk12 ▸ cI_t hI2 (cL_u (by decide)) (S_u hI2.2.1.1 hI2.2.1.2 (by decide) ⟨by show (-100000 : Int) ≤ _; omega, by show _ ≤ (100000 : Int); omega⟩)
    have hn13 : κ12 24 0 0 = κ2 24 0 0 := by rw [hk12]; rw [k_u_ne (by decide)]
    have hn14 : κ12 24 1 0 = κ2 24 1 0 := by rw [hk12]; rw [k_u_ne (by decide)]
    have hn15 : κ12 24 2 0 = κ2 24 2 0 := by rw [hk12]; rw [k_u_ne (by decide)]
    have hn16 : κ12 24 3 0 = κ2 24 3 0 := by rw [hk12]; rw [k_u_ne (by decide)]
    have hn17 : κ12 17 0 0 = κ2 17 0 0 := by rw [hk12]; rw [k_u_ne (by decide)]
    refine z_aload hY eX7_changeScore_66 0 rfl ?_
    have hb18 := hI12.2.1.2.s17 0 0
    refine c_gf hY hI12.1 eX7_changeScore_67 (t := 0) (i := 0) (v := .ref (B 4 (κ12 17 0 0))) ((hI12.2.2.2 _ _ (by decide) (by omega)).1) rfl rfl ?_
    refine z_aload hY eX7_changeScore_70 1 rfl ?_
    refine z_callV (As := [.ref (B 20 e)]) (rest := []) hY eX7_changeScore_71 (t_judge (B := B) (κ := κ12) hG hI12.1 hI12.2.1.1 hI12.2.1.2 (by omega) (show -1 ≤ e ∧ e < _ by omega)) (cH_at (B := B) (t := 4) (i := (κ12 17 0 0)) hI12.1 ((hI12.2.2.2 _ _ (by decide) (by omega)).1)) (by decide) (Nat.le_of_ble_eq_true rfl) ⟨Nat.zero_le _, Nat.zero_le _⟩ (fun _ _ q => q.elim) (fun vv19 hh19 q19 => ?_)
    obtain ⟨rfl, rfl⟩ := q19
    obtain ⟨κ20, hk20⟩ : ∃ q, q = kJd κ12 (κ12 17 0 0) e := ⟨_, rfl⟩
    refine z_heq (congrArg (fun q => cH D B q h) hk20.symm) ?_
    have hI20 : cI B κ h B κ20 h := hk20 ▸ cI_t hI12 (L_Jd _ _) (S_Jd hI12.2.1.1 hI12.2.1.2 _ _)
    have hn21 : κ20 24 0 0 = κ12 24 0 0 := by rw [hk20]; rw [kJd_ne (by decide)]
    have hn22 : κ20 24 1 0 = κ12 24 1 0 := by rw [hk20]; rw [kJd_ne (by decide)]
    have hn23 : κ20 24 2 0 = κ12 24 2 0 := by rw [hk20]; rw [kJd_ne (by decide)]
    have hn24 : κ20 24 3 0 = κ12 24 3 0 := by rw [hk20]; rw [kJd_ne (by decide)]
    refine z_aload hY eX7_changeScore_74 0 rfl ?_
    refine c_gf hY hI20.1 eX7_changeScore_75 (t := 0) (i := 0) (v := .ref (B 9 0)) ((hI20.2.2.2 _ _ (by decide) (by omega)).1) rfl rfl ?_
    refine z_aload hY eX7_changeScore_78 1 rfl ?_
    refine z_callV (As := [.ref (B 20 e)]) (rest := []) hY eX7_changeScore_79 (m_sput (B1 := B) (κ1 := κ20) (h1 := h) hG hD hM hI20 (by omega) (by omega)) (cH_at (B := B) (t := 9) (i := 0) hI20.1 ((hI20.2.2.2 _ _ (by decide) (by omega)).1)) (by decide) (Nat.le_of_ble_eq_true rfl) (by rw [hmc, hms]; omega) (fun _ _ q => q.elim) (fun vv25 hh25 q25 => ?_)
    obtain ⟨rfl, N25, a25, g25, rfl, hN25, hI25⟩ := q25
    obtain ⟨κ26, hk26⟩ : ∃ q, q = kSp κ20 e N25 := ⟨_, rfl⟩
    refine z_heq (congrArg (fun q => cH D (bU B 1 a25) q g25) hk26.symm) ?_
    have hI26 : cI B κ h (bU B 1 a25) κ26 g25 := hk26 ▸ hI25
    exact z_return hY eX7_changeScore_82 rfl (by rw [hφ]; subst_vars; exact ⟨rfl, _, _, _, rfl, hI26, 0, _, by unfold kCs kC5; first | rw [if_pos ⟨by omega, by omega⟩] | rw [if_neg (by omega)]⟩) (by rw [hmc, hms]; omega)
  · refine z_iload hY eX7_changeScore_12 3 rfl ?_
    refine z_aload hY eX7_changeScore_13 1 rfl ?_
    refine z_callVr (As := []) (rest := [z_i v]) (r := z_i (κ2 30 e 0)) hY eX7_changeScore_14 (e_points (B := B) (κ := κ2) hG hI2.1 hI2.2.1.2.b hI2.2.1.1 (show -1 ≤ e ∧ e < _ by omega)) (cH_at (B := B) (t := 20) (i := e) hI2.1 ((hI2.2.2.2 _ _ (by decide) (by omega)).1)) (by decide) (Nat.le_of_ble_eq_true rfl) ⟨Nat.zero_le _, Nat.zero_le _⟩ ?_
    have hc27 := hI2.2.1.2.s30 e 0
    refine z_icmpeq hY eX7_changeScore_17 (by omega) (fun c17 => ?_) (fun c17 => ?_)
    · refine z_aload hY eX7_changeScore_60 1 rfl ?_
      refine z_iload hY eX7_changeScore_61 2 rfl ?_
      refine z_iload hY eX7_changeScore_62 3 rfl ?_
      refine z_callV (As := [z_i k, z_i v]) (rest := []) hY eX7_changeScore_63 (e_putScore (B := B) (κ := κ2) hG hI2.1 hI2.2.1.2.b hI2.2.1.1 (by omega) (by omega)) (cH_at (B := B) (t := 20) (i := e) hI2.1 ((hI2.2.2.2 _ _ (by decide) (by omega)).1)) (by decide) (Nat.le_of_ble_eq_true rfl) ⟨Nat.zero_le _, Nat.zero_le _⟩ (fun _ _ q => q.elim) (fun vv28 hh28 q28 => ?_)
      obtain ⟨rfl, rfl⟩ := q28
      obtain ⟨κ29, hk29⟩ : ∃ q, q = k_u κ2 30 e k v := ⟨_, rfl⟩
      refine z_heq (congrArg (fun q => cH D B q h) hk29.symm) ?_
      have hI29 : cI B κ h B κ29 h := hk29 ▸ cI_t hI2 (cL_u (by decide)) (S_u hI2.2.1.1 hI2.2.1.2 (by decide) ⟨by show (-100000 : Int) ≤ _; omega, by show _ ≤ (100000 : Int); omega⟩)
      have hn30 : κ29 24 0 0 = κ2 24 0 0 := by rw [hk29]; rw [k_u_ne (by decide)]
      have hn31 : κ29 24 1 0 = κ2 24 1 0 := by rw [hk29]; rw [k_u_ne (by decide)]
      have hn32 : κ29 24 2 0 = κ2 24 2 0 := by rw [hk29]; rw [k_u_ne (by decide)]
      have hn33 : κ29 24 3 0 = κ2 24 3 0 := by rw [hk29]; rw [k_u_ne (by decide)]
      have hn34 : κ29 17 0 0 = κ2 17 0 0 := by rw [hk29]; rw [k_u_ne (by decide)]
      refine z_aload hY eX7_changeScore_66 0 rfl ?_
      have hb35 := hI29.2.1.2.s17 0 0
      refine c_gf hY hI29.1 eX7_changeScore_67 (t := 0) (i := 0) (v := .ref (B 4 (κ29 17 0 0))) ((hI29.2.2.2 _ _ (by decide) (by omega)).1) rfl rfl ?_
      refine z_aload hY eX7_changeScore_70 1 rfl ?_
      refine z_callV (As := [.ref (B 20 e)]) (rest := []) hY eX7_changeScore_71 (t_judge (B := B) (κ := κ29) hG hI29.1 hI29.2.1.1 hI29.2.1.2 (by omega) (show -1 ≤ e ∧ e < _ by omega)) (cH_at (B := B) (t := 4) (i := (κ29 17 0 0)) hI29.1 ((hI29.2.2.2 _ _ (by decide) (by omega)).1)) (by decide) (Nat.le_of_ble_eq_true rfl) ⟨Nat.zero_le _, Nat.zero_le _⟩ (fun _ _ q => q.elim) (fun vv36 hh36 q36 => ?_)
      obtain ⟨rfl, rfl⟩ := q36
      obtain ⟨κ37, hk37⟩ : ∃ q, q = kJd κ29 (κ29 17 0 0) e := ⟨_, rfl⟩
      refine z_heq (congrArg (fun q => cH D B q h) hk37.symm) ?_
      have hI37 : cI B κ h B κ37 h := hk37 ▸ cI_t hI29 (L_Jd _ _) (S_Jd hI29.2.1.1 hI29.2.1.2 _ _)
      have hn38 : κ37 24 0 0 = κ29 24 0 0 := by rw [hk37]; rw [kJd_ne (by decide)]
      have hn39 : κ37 24 1 0 = κ29 24 1 0 := by rw [hk37]; rw [kJd_ne (by decide)]
      have hn40 : κ37 24 2 0 = κ29 24 2 0 := by rw [hk37]; rw [kJd_ne (by decide)]
      have hn41 : κ37 24 3 0 = κ29 24 3 0 := by rw [hk37]; rw [kJd_ne (by decide)]
      refine z_aload hY eX7_changeScore_74 0 rfl ?_
      refine c_gf hY hI37.1 eX7_changeScore_75 (t := 0) (i := 0) (v := .ref (B 9 0)) ((hI37.2.2.2 _ _ (by decide) (by omega)).1) rfl rfl ?_
      refine z_aload hY eX7_changeScore_78 1 rfl ?_
      refine z_callV (As := [.ref (B 20 e)]) (rest := []) hY eX7_changeScore_79 (m_sput (B1 := B) (κ1 := κ37) (h1 := h) hG hD hM hI37 (by omega) (by omega)) (cH_at (B := B) (t := 9) (i := 0) hI37.1 ((hI37.2.2.2 _ _ (by decide) (by omega)).1)) (by decide) (Nat.le_of_ble_eq_true rfl) (by rw [hmc, hms]; omega) (fun _ _ q => q.elim) (fun vv42 hh42 q42 => ?_)
      obtain ⟨rfl, N42, a42, g42, rfl, hN42, hI42⟩ := q42
      obtain ⟨κ43, hk43⟩ : ∃ q, q = kSp κ37 e N42 := ⟨_, rfl⟩
      refine z_heq (congrArg (fun q => cH D (bU B 1 a42) q g42) hk43.symm) ?_
      have hI43 : cI B κ h (bU B 1 a42) κ43 g42 := hk43 ▸ hI42
      exact z_return hY eX7_changeScore_82 rfl (by rw [hφ]; subst_vars; exact ⟨rfl, _, _, _, rfl, hI43, 0, _, by unfold kCs kC5; first | rw [if_pos ⟨by omega, by omega⟩] | rw [if_neg (by omega)]⟩) (by rw [hmc, hms]; omega)
    · refine z_aload hY eX7_changeScore_20 0 rfl ?_
      refine c_gf hY hI2.1 eX7_changeScore_21 (t := 0) (i := 0) (v := .ref (B 10 0)) ((hI2.2.2.2 _ _ (by decide) (by omega)).1) rfl rfl ?_
      refine z_aload hY eX7_changeScore_24 1 rfl ?_
      refine z_callV (As := [.ref (B 20 e)]) (rest := []) hY eX7_changeScore_25 (p_take (B := B) (κ := κ2) hG hI2.1 hI2.2.1.2.b hI2.2.1.1 (by omega)) (cH_at (B := B) (t := 10) (i := 0) hI2.1 ((hI2.2.2.2 _ _ (by decide) (by omega)).1)) (by decide) (Nat.le_of_ble_eq_true rfl) ⟨Nat.zero_le _, Nat.zero_le _⟩ (fun _ _ q => q.elim) (fun vv44 hh44 q44 => ?_)
      obtain ⟨rfl, rfl⟩ := q44
      obtain ⟨κ45, hk45⟩ : ∃ q, q = kTp κ2 e := ⟨_, rfl⟩
      refine z_heq (congrArg (fun q => cH D B q h) hk45.symm) ?_
      have hI45 : cI B κ h B κ45 h := hk45 ▸ cI_t hI2 (L_Tp e) (S_Tp hI2.2.1.1 hI2.2.1.2 e)
      have hn46 : κ45 24 0 0 = κ2 24 0 0 := by rw [hk45]; rw [kTp_ni (by decide)]
      have hn47 : κ45 24 1 0 = κ2 24 1 0 := by rw [hk45]; rw [kTp_ni (by decide)]
      have hn48 : κ45 24 3 0 = κ2 24 3 0 := by rw [hk45]; rw [kTp_ni (by decide)]
      have hn49 : κ45 24 2 0 = κ2 24 2 0 - 1 := by rw [hk45]; exact kTp_24 (by rw [show κ2 20 2 = κ 20 2 from by assumption, show κ2 24 2 0 = κ 24 2 0 from by assumption]; exact hfd)
      have hn50 : κ45 17 0 0 = κ2 17 0 0 := by rw [hk45]; rw [kTp_ne (by decide)]
      have hn51 : κ45 30 e 0 = κ2 30 e 0 := by rw [hk45]; rw [kTp_ne (by decide)]
      have hn52 : κ45 38 e 0 = κ2 38 e 0 := by rw [hk45]; rw [kTp_ne (by decide)]
      refine z_aload hY eX7_changeScore_28 1 rfl ?_
      refine z_dup hY eX7_changeScore_29 rfl ?_
      have hb53 := hI45.2.1.2.s38 e 0
      refine c_gf hY hI45.1 eX7_changeScore_30 (t := 20) (i := e) (v := z_i (κ45 38 e 0)) ((hI45.2.2.2 _ _ (by decide) (by omega)).1) rfl rfl ?_
      refine z_iload hY eX7_changeScore_33 3 rfl ?_
      refine z_aload hY eX7_changeScore_34 1 rfl ?_
      refine z_callVr (As := []) (rest := [z_i v, z_i (κ45 38 e 0), .ref (B 20 e)]) (r := z_i (κ45 30 e 0)) hY eX7_changeScore_35 (e_points (B := B) (κ := κ45) hG hI45.1 hI45.2.1.2.b hI45.2.1.1 (show -1 ≤ e ∧ e < _ by omega)) (cH_at (B := B) (t := 20) (i := e) hI45.1 ((hI45.2.2.2 _ _ (by decide) (by omega)).1)) (by decide) (Nat.le_of_ble_eq_true rfl) ⟨Nat.zero_le _, Nat.zero_le _⟩ ?_
      have hc54 := hI45.2.1.2.s30 e 0
      refine z_isub hY eX7_changeScore_38 ?_
      refine z_iadd hY eX7_changeScore_39 ?_
      refine z_top (b := (κ45 38 e 0) + v - (κ45 30 e 0)) (by omega) ?_
      refine c_pf hY hI45.1 eX7_changeScore_40 (key := 38) (t := 20) (i := e) (by decide) rfl ((hI45.2.2.2 _ _ (by decide) (by omega)).1) rfl (Nat.le_of_ble_eq_true rfl) (by simp [cC, k_u, k_r]) ?_
      obtain ⟨κ55, hk55⟩ : ∃ q, q = k_u κ45 38 e 0 ((κ45 38 e 0) + v - (κ45 30 e 0)) := ⟨_, rfl⟩
      refine z_heq (congrArg (fun q => cH D B q h) hk55.symm) ?_
      have hI55 : cI B κ h B κ55 h := hk55 ▸ cI_t hI45 (cL_u (by decide)) (S_u hI45.2.1.1 hI45.2.1.2 (by decide) ⟨by show (-200000 : Int) ≤ _; omega, by show _ ≤ (200000 : Int); omega⟩)
      have hn56 : κ55 24 0 0 = κ45 24 0 0 := by rw [hk55]; rw [k_u_ne (by decide)]
      have hn57 : κ55 24 1 0 = κ45 24 1 0 := by rw [hk55]; rw [k_u_ne (by decide)]
      have hn58 : κ55 24 2 0 = κ45 24 2 0 := by rw [hk55]; rw [k_u_ne (by decide)]
      have hn59 : κ55 24 3 0 = κ45 24 3 0 := by rw [hk55]; rw [k_u_ne (by decide)]
      refine z_aload hY eX7_changeScore_43 1 rfl ?_
      refine z_iload hY eX7_changeScore_44 2 rfl ?_
      refine z_iload hY eX7_changeScore_45 3 rfl ?_
      refine z_callV (As := [z_i k, z_i v]) (rest := []) hY eX7_changeScore_46 (e_putScore (B := B) (κ := κ55) hG hI55.1 hI55.2.1.2.b hI55.2.1.1 (by omega) (by omega)) (cH_at (B := B) (t := 20) (i := e) hI55.1 ((hI55.2.2.2 _ _ (by decide) (by omega)).1)) (by decide) (Nat.le_of_ble_eq_true rfl) ⟨Nat.zero_le _, Nat.zero_le _⟩ (fun _ _ q => q.elim) (fun vv60 hh60 q60 => ?_)
      obtain ⟨rfl, rfl⟩ := q60
      obtain ⟨κ61, hk61⟩ : ∃ q, q = k_u κ55 30 e k v := ⟨_, rfl⟩
      refine z_heq (congrArg (fun q => cH D B q h) hk61.symm) ?_
      have hI61 : cI B κ h B κ61 h := hk61 ▸ cI_t hI55 (cL_u (by decide)) (S_u hI55.2.1.1 hI55.2.1.2 (by decide) ⟨by show (-100000 : Int) ≤ _; omega, by show _ ≤ (100000 : Int); omega⟩)
      have hn62 : κ61 24 0 0 = κ55 24 0 0 := by rw [hk61]; rw [k_u_ne (by decide)]
      have hn63 : κ61 24 1 0 = κ55 24 1 0 := by rw [hk61]; rw [k_u_ne (by decide)]
      have hn64 : κ61 24 2 0 = κ55 24 2 0 := by rw [hk61]; rw [k_u_ne (by decide)]
      have hn65 : κ61 24 3 0 = κ55 24 3 0 := by rw [hk61]; rw [k_u_ne (by decide)]
      have hn66 : κ61 17 0 0 = κ55 17 0 0 := by rw [hk61]; rw [k_u_ne (by decide)]
      refine z_aload hY eX7_changeScore_49 0 rfl ?_
      refine c_gf hY hI61.1 eX7_changeScore_50 (t := 0) (i := 0) (v := .ref (B 10 0)) ((hI61.2.2.2 _ _ (by decide) (by omega)).1) rfl rfl ?_
      refine z_aload hY eX7_changeScore_53 1 rfl ?_
      refine z_callV (As := [.ref (B 20 e)]) (rest := []) hY eX7_changeScore_54 (m_pput (B1 := B) (κ1 := κ61) (h1 := h) hG hD hM hI61 (by omega) (by omega)) (cH_at (B := B) (t := 10) (i := 0) hI61.1 ((hI61.2.2.2 _ _ (by decide) (by omega)).1)) (by decide) (Nat.le_of_ble_eq_true rfl) (by rw [hmc, hms]; omega) (fun _ _ q => q.elim) (fun vv67 hh67 q67 => ?_)
      obtain ⟨rfl, N67, a67, g67, rfl, hN67, hI67⟩ := q67
      obtain ⟨κ68, hk68⟩ : ∃ q, q = kPp κ61 e N67 := ⟨_, rfl⟩
      refine z_heq (congrArg (fun q => cH D (bU B 2 a67) q g67) hk68.symm) ?_
      have hI68 : cI B κ h (bU B 2 a67) κ68 g67 := hk68 ▸ hI67
      have hn69 : κ68 24 0 0 = κ61 24 0 0 := by rw [hk68]; rw [kPp_ni (by decide)]
      have hn70 : κ68 24 1 0 = κ61 24 1 0 := by rw [hk68]; rw [kPp_ni (by decide)]
      have hn71 : κ68 24 3 0 = κ61 24 3 0 := by rw [hk68]; rw [kPp_ni (by decide)]
      have hn72 : κ68 17 0 0 = κ61 17 0 0 := by rw [hk68]; rw [kPp_ne (by decide)]
      have hn73 : κ68 30 e 0 = κ61 30 e 0 := by rw [hk68]; rw [kPp_ne (by decide)]
      refine z_goto hY eX7_changeScore_57 ?_
      refine z_aload hY eX7_changeScore_66 0 rfl ?_
      have hb74 := hI68.2.1.2.s17 0 0
      refine c_gf hY hI68.1 eX7_changeScore_67 (t := 0) (i := 0) (v := .ref (B 4 (κ68 17 0 0))) ((hI68.2.2.2 _ _ (by decide) (by omega)).1) rfl rfl ?_
      refine z_aload hY eX7_changeScore_70 1 rfl ?_
      refine z_callV (As := [.ref (B 20 e)]) (rest := []) hY eX7_changeScore_71 (t_judge (B := (bU B 2 a67)) (κ := κ68) hG hI68.1 hI68.2.1.1 hI68.2.1.2 (by omega) (show -1 ≤ e ∧ e < _ by omega)) (cH_at (B := (bU B 2 a67)) (t := 4) (i := (κ68 17 0 0)) hI68.1 ((hI68.2.2.2 _ _ (by decide) (by omega)).1)) (by decide) (Nat.le_of_ble_eq_true rfl) (by rw [hmc, hms]; omega) (fun _ _ q => q.elim) (fun vv75 hh75 q75 => ?_)
      obtain ⟨rfl, rfl⟩ := q75
      obtain ⟨κ76, hk76⟩ : ∃ q, q = kJd κ68 (κ68 17 0 0) e := ⟨_, rfl⟩
      refine z_heq (congrArg (fun q => cH D (bU B 2 a67) q g67) hk76.symm) ?_
      have hI76 : cI B κ h (bU B 2 a67) κ76 g67 := hk76 ▸ cI_t hI68 (L_Jd _ _) (S_Jd hI68.2.1.1 hI68.2.1.2 _ _)
      have hn77 : κ76 24 0 0 = κ68 24 0 0 := by rw [hk76]; rw [kJd_ne (by decide)]
      have hn78 : κ76 24 1 0 = κ68 24 1 0 := by rw [hk76]; rw [kJd_ne (by decide)]
      have hn79 : κ76 24 2 0 = κ68 24 2 0 := by rw [hk76]; rw [kJd_ne (by decide)]
      have hn80 : κ76 24 3 0 = κ68 24 3 0 := by rw [hk76]; rw [kJd_ne (by decide)]
      refine z_aload hY eX7_changeScore_74 0 rfl ?_
      refine c_gf hY hI76.1 eX7_changeScore_75 (t := 0) (i := 0) (v := .ref (B 9 0)) ((hI76.2.2.2 _ _ (by decide) (by omega)).1) rfl rfl ?_
      refine z_aload hY eX7_changeScore_78 1 rfl ?_
      refine z_callV (As := [.ref (B 20 e)]) (rest := []) hY eX7_changeScore_79 (m_sput (B1 := (bU B 2 a67)) (κ1 := κ76) (h1 := g67) hG hD hM hI76 (by omega) (by omega)) (cH_at (B := (bU B 2 a67)) (t := 9) (i := 0) hI76.1 ((hI76.2.2.2 _ _ (by decide) (by omega)).1)) (by decide) (Nat.le_of_ble_eq_true rfl) (by rw [hmc, hms]; omega) (fun _ _ q => q.elim) (fun vv81 hh81 q81 => ?_)
      obtain ⟨rfl, N81, a81, g81, rfl, hN81, hI81⟩ := q81
      obtain ⟨κ82, hk82⟩ : ∃ q, q = kSp κ76 e N81 := ⟨_, rfl⟩
      refine z_heq (congrArg (fun q => cH D (bU (bU B 2 a67) 1 a81) q g81) hk82.symm) ?_
      have hI82 : cI B κ h (bU (bU B 2 a67) 1 a81) κ82 g81 := hk82 ▸ hI81
      exact z_return hY eX7_changeScore_82 rfl (by rw [hφ]; subst_vars; exact ⟨rfl, _, _, _, rfl, hI82, _, _, by unfold kCs kC5; first | rw [if_pos ⟨by omega, by omega⟩] | rw [if_neg (by omega)]⟩) (by rw [hmc, hms]; omega)
end D5
