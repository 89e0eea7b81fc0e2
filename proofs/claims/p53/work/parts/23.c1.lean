/-! The inner classes: entrants, tape, order, rows: what they answer (laid by wip/whole/gen/gm23.py). -/
section C1
def cB (κ : c_K) : Prop := ∀ (k : Nat) (i j : Int), -2147483648 ≤ κ k i j ∧ κ k i j ≤ 2147483647
/-- the number that came; the lists' sizes and room; what they hold; the order in use; the tape; isThere -/
def cV (κ : c_K) : Prop := (0 ≤ κ 24 0 0 ∧ κ 24 0 0 ≤ 30) ∧ (∀ r, 0 ≤ r → r ≤ 3 → 0 ≤ κ 24 r 0 ∧ κ 24 r 0 ≤ κ 24 0 0 ∧ κ 24 r 0 ≤ κ 26 r 0 ∧ 0 ≤ κ 26 r 0 ∧ κ 26 r 0 ≤ 45) ∧ (∀ r j, 0 ≤ r → r ≤ 3 → 0 ≤ j → j < κ 24 r 0 → 0 ≤ κ 20 r j ∧ κ 20 r j < κ 24 0 0) ∧ (κ 17 0 0 = 0 ∨ κ 17 0 0 = 1) ∧ (0 ≤ κ 5 0 0 ∧ κ 5 0 0 ≤ 100) ∧ (∀ i, κ 36 i 0 = 0 ∨ κ 36 i 0 = 1)
theorem c_size {G : z_G} {D : Nat} {B : Nat → Int → Nat} {κ : c_K} {h : z_H} (hG : z_OK G) (hJ : cJ B κ) (hB : cB κ) (hV : cV κ) {r : Int} (hr : 0 ≤ r ∧ r ≤ 3) : z_Tr G mJx4a65c_size_8abf5 [.ref (B 7 r)] (cH D B κ h) 0 (z_i (κ 24 r 0)) :=
  al_size hG (cH_at hJ (by omega))
theorem c_isEmpty {G : z_G} {D : Nat} {B : Nat → Int → Nat} {κ : c_K} {h : z_H} (hG : z_OK G) (hJ : cJ B κ) (hB : cB κ) (hV : cV κ) {r : Int} (hr : 0 ≤ r ∧ r ≤ 3) : z_Tr G mJx4a65c_isEmpty_aae02 [.ref (B 7 r)] (cH D B κ h) 0 (z_i (z_bl (κ 24 r 0 = 0))) :=
  al_isEmpty hG (cH_at hJ (by omega)) (by have := hV.2.1 r hr.1 hr.2; have := hV.1; omega)
theorem c_get {G : z_G} {D : Nat} {B : Nat → Int → Nat} {κ : c_K} {h : z_H} (hG : z_OK G) (hJ : cJ B κ) (hB : cB κ) (hV : cV κ) {r : Int} (hr : 0 ≤ r ∧ r ≤ 3) {j : Int} (hj : 0 ≤ j ∧ j < κ 24 r 0) : z_Tr G mJx4a65c_get_915e3 [.ref (B 7 r), z_i j] (cH D B κ h) 2 (.ref (B 20 (κ 20 r j))) := by
  have h1 := hV.2.1 r hr.1 hr.2
  have hc : (0 : Int) < κ 26 r 0 := by omega
  refine al_get (mo := κ 25 r 0) (e := B 8 r) (N := (κ 26 r 0).toNat) (l := fun j => B 20 (κ 20 r j)) hG ((cH_at (D := D) (h := h) hJ (t := 7) (i := r) (by omega)).trans ?_) (cH_at (D := D) (h := h) hJ (t := 8) (i := r) (by omega)) (by omega) hj
  show some (z_ob 9 [z_i (κ 25 r 0), .ref (if 0 < κ 26 r 0 then B 8 r else D), z_i (κ 24 r 0)]) = _
  rw [if_pos hc]
/-- whether an entrant is better by its merits -/
def bI (κ : c_K) (e o : Int) : Int := if κ 31 e 0 = κ 31 o 0 then (if κ 31 e 1 = κ 31 o 1 then (if κ 31 e 2 = κ 31 o 2 then (if κ 31 o 3 < κ 31 e 3 then 1 else 0) else if κ 31 o 2 < κ 31 e 2 then 1 else 0) else if κ 31 o 1 < κ 31 e 1 then 1 else 0) else if κ 31 o 0 < κ 31 e 0 then 1 else 0
theorem bI_b (κ : c_K) (e o : Int) : 0 ≤ bI κ e o ∧ bI κ e o ≤ 1 := by unfold bI; (repeat' split) <;> omega
def aI (κ : c_K) (e o : Int) : Int := if bI κ e o = 0 ∧ bI κ o e = 0 then 1 else 0
theorem aI_b (κ : c_K) (e o : Int) : 0 ≤ aI κ e o ∧ aI κ e o ≤ 1 := by unfold aI; split <;> omega
def hI (κ : c_K) (e o : Int) : Int := if bI κ e o ≠ 0 ∨ (κ 34 e 0 < κ 34 o 0 ∧ bI κ o e = 0) then 1 else 0
theorem hI_b (κ : c_K) (e o : Int) : 0 ≤ hI κ e o ∧ hI κ e o ≤ 1 := by unfold hI; split <;> omega
theorem z_xorN {a b : Int} (ha : 0 ≤ a ∧ a ≤ 2147483647) (hb : 0 ≤ b ∧ b ≤ 2147483647) : 0 ≤ (Int32.ofInt a ^^^ Int32.ofInt b).toInt := by
  have e1 : ∀ z : Int, 0 ≤ z ∧ z ≤ 2147483647 → (BitVec.ofInt 32 z).msb = false := by
    intro z hz
    rw [BitVec.msb_eq_false_iff_two_mul_lt, BitVec.toNat_ofInt]
    omega
  have e2 : (Int32.ofInt a ^^^ Int32.ofInt b).toBitVec = BitVec.ofInt 32 a ^^^ BitVec.ofInt 32 b := rfl
  show 0 ≤ (Int32.ofInt a ^^^ Int32.ofInt b).toBitVec.toInt
  rw [e2, BitVec.toInt_eq_toNat_of_msb (by rw [BitVec.msb_xor, e1 a ha, e1 b hb]; rfl)]
  omega
section XR
variable {Y : z_Y} {d : Nat} {M : z_M} {pc pc' : Nat} {ls : List (Nat × Value)} {st : List Value} {h : z_H} {k n : Nat}
theorem z_ixor {a b : Int} (hY : z_ok Y d M) (dd : z_at M pc .ixor 1 pc') (ha : 0 ≤ a ∧ a ≤ 2147483647) (hb0 : 0 ≤ b ∧ b ≤ 2147483647) (kk : ∀ c : Int, 0 ≤ c ∧ c ≤ 2147483647 → z_W Y pc' ls (z_i c :: st) h k n) : z_W Y pc ls (z_i b :: z_i a :: st) h k n := by
  have kk := kk (Int32.ofInt a ^^^ Int32.ofInt b).toInt ⟨z_xorN ha hb0, (z_rg _).2⟩
  refine z_lift hY (fun p l e R s m args below meth c H locs cells slots Q lsA hx hb kk => ?_) kk
  obtain ⟨d1, rfl⟩ := dd
  rw [← z_of] at kk
  exact lv_ixor hx hb d1 kk
end XR
/-- how many come before the first that fails P -/
def z_fwL (P : Int → Prop) [DecidablePred P] : Nat → Int → Int
  | 0, i => i
  | f + 1, i => if P i then z_fwL P f (i + 1) else i
def z_fw (P : Int → Prop) [DecidablePred P] (n : Int) : Int := z_fwL P (n - 0).toNat 0
theorem z_fw_t {P : Int → Prop} [DecidablePred P] {n i : Int} (h : i < n) (hp : P i) : z_fwL P (n - i).toNat i = z_fwL P (n - (i + 1)).toNat (i + 1) := by
  rw [show (n - i).toNat = (n - (i + 1)).toNat + 1 by omega]
  exact if_pos hp
theorem z_fw_f {P : Int → Prop} [DecidablePred P] {n i : Int} (h : n ≤ i ∨ ¬ P i) : z_fwL P (n - i).toNat i = i := by
  by_cases hm : n ≤ i
  · rw [show (n - i).toNat = 0 by omega]; rfl
  · rw [show (n - i).toNat = (n - (i + 1)).toNat + 1 by omega]
    exact if_neg (h.resolve_left hm)
/-- whether a new result begins at a place of the standing -/
def gI (κ : c_K) (i : Int) : Int := if i = 0 then 1 else if aI κ (κ 20 1 i) (κ 20 1 (i - 1)) ≠ 0 then 0 else 1
theorem gI_b (κ : c_K) (i : Int) : 0 ≤ gI κ i ∧ gI κ i ≤ 1 := by unfold gI; (repeat' split) <;> omega
def sRk (κ : c_K) (e : Int) : Int := z_sm (fun i => if κ 34 (κ 20 1 i) 0 ≠ κ 34 e 0 ∧ bI κ (κ 20 1 i) e ≠ 0 then (1 : Int) else 0) (κ 24 1 0) + 1
def cAh (κ : c_K) (e : Int) : Int := z_sm (fun i => if κ 34 (κ 20 1 i) 0 ≠ κ 34 e 0 ∧ hI κ (κ 20 1 i) e ≠ 0 then (1 : Int) else 0) (κ 24 1 0)
def cAl (κ : c_K) (e : Int) : Int := z_sm (fun i => if aI κ (κ 20 1 i) e ≠ 0 then (1 : Int) else 0) (κ 24 1 0)
def cWo (κ : c_K) (e : Int) : Int := z_sm (fun i => if bI κ e (κ 20 1 i) ≠ 0 then (1 : Int) else 0) (κ 24 1 0)
def cRe (κ : c_K) : Int := z_sm (fun i => if gI κ i ≠ 0 then (1 : Int) else 0) (κ 24 1 0)
def cDn (κ : c_K) (e : Int) : Int := z_sm (fun i => if gI κ i ≠ 0 then (1 : Int) else 0) (z_fw (fun i => bI κ (κ 20 1 i) e ≠ 0) (κ 24 1 0)) + 1
def cOf (κ : c_K) (g : Int) : Int := z_sm (fun i => if κ 35 (κ 20 1 i) 0 = g then (1 : Int) else 0) (κ 24 1 0)
def cFi (κ : c_K) (g : Int) : Int := if z_ff (fun i => κ 35 (κ 20 1 i) 0 = g) (κ 24 1 0) = -1 then -1 else z_ff (fun i => κ 35 (κ 20 1 i) 0 = g) (κ 24 1 0) + 1
def cLp (κ : c_K) (e : Int) : Int := if z_ff (fun i => κ 20 3 i = e) (κ 24 3 0) = -1 then -1 else z_ff (fun i => κ 20 3 i = e) (κ 24 3 0) + 1
/-- the team's sum: from the place i on, with c found and the sum s -/
def tsL (κ : c_K) (g : Int) : Nat → Int → Int → Int → Int
  | 0, _, c, s => if c = 3 then s else -1
  | f + 1, i, c, s => if c < 3 then (if κ 35 (κ 20 1 i) 0 = g then tsL κ g f (i + 1) (c + 1) (s + i + 1) else tsL κ g f (i + 1) c s) else if c = 3 then s else -1
def cTs (κ : c_K) (g : Int) : Int := tsL κ g (κ 24 1 0 - 0).toNat 0 0 0
theorem ts_e {κ : c_K} {g n i c s : Int} (h : n ≤ i ∨ 3 ≤ c) : tsL κ g (n - i).toNat i c s = if c = 3 then s else -1 := by
  by_cases hm : n ≤ i
  · rw [show (n - i).toNat = 0 by omega]; rfl
  · rw [show (n - i).toNat = (n - (i + 1)).toNat + 1 by omega]
    exact if_neg (by omega)
theorem ts_y {κ : c_K} {g n i c s : Int} (h : i < n) (hc : c < 3) (hg : κ 35 (κ 20 1 i) 0 = g) : tsL κ g (n - i).toNat i c s = tsL κ g (n - (i + 1)).toNat (i + 1) (c + 1) (s + i + 1) := by
  rw [show (n - i).toNat = (n - (i + 1)).toNat + 1 by omega]
  exact (if_pos hc).trans (if_pos hg)
theorem ts_n {κ : c_K} {g n i c s : Int} (h : i < n) (hc : c < 3) (hg : κ 35 (κ 20 1 i) 0 ≠ g) : tsL κ g (n - i).toNat i c s = tsL κ g (n - (i + 1)).toNat (i + 1) c s := by
  rw [show (n - i).toNat = (n - (i + 1)).toNat + 1 by omega]
  exact (if_pos hc).trans (if_neg hg)
theorem z_fwL_b {P : Int → Prop} [DecidablePred P] : ∀ (f : Nat) (i : Int), i ≤ z_fwL P f i ∧ z_fwL P f i ≤ i + f := by
  intro f
  induction f with
  | zero => intro i; exact ⟨by show i ≤ i; omega, by show i ≤ i + ((0 : Nat) : Int); omega⟩
  | succ f ih =>
    intro i
    show i ≤ ite _ _ _ ∧ ite _ _ _ ≤ _
    have := ih (i + 1)
    split <;> omega
theorem z_fw_b (P : Int → Prop) [DecidablePred P] {n : Int} (hn : 0 ≤ n) : 0 ≤ z_fw P n ∧ z_fw P n ≤ n := by
  have := z_fwL_b (P := P) (n - 0).toNat 0
  unfold z_fw
  omega
/-- a criterion's value for an entrant by the order o -/
def cVl (κ : c_K) (o e c : Int) : Int := κ 12 o (4 * c) * κ 30 e 0 + κ 12 o (4 * c + 1) * κ 30 e 1 + κ 12 o (4 * c + 2) * κ 30 e 2 + κ 12 o (4 * c + 3) * κ 30 e 3
/-- the byte at an index of the tape -/
def cBy (κ : c_K) (i : Int) : Int := if 0 ≤ i ∧ i < κ 5 0 0 ∧ i < 100 then κ 4 0 i else 0
theorem sRk_b {κ : c_K} (hV : cV κ) (e : Int) : 1 ≤ sRk κ e ∧ sRk κ e ≤ 31 := by
  have h1 := hV.2.1 1 (by omega) (by omega)
  have h2 := hV.1
  have := z_ct_b (fun i => κ 34 (κ 20 1 i) 0 ≠ κ 34 e 0 ∧ bI κ (κ 20 1 i) e ≠ 0) h1.1
  unfold sRk
  omega
theorem cAh_b {κ : c_K} (hV : cV κ) (e : Int) : 0 ≤ cAh κ e ∧ cAh κ e ≤ 30 := by
  have h1 := hV.2.1 1 (by omega) (by omega)
  have h2 := hV.1
  have := z_ct_b (fun i => κ 34 (κ 20 1 i) 0 ≠ κ 34 e 0 ∧ hI κ (κ 20 1 i) e ≠ 0) h1.1
  unfold cAh
  omega
theorem cAl_b {κ : c_K} (hV : cV κ) (e : Int) : 0 ≤ cAl κ e ∧ cAl κ e ≤ 30 := by
  have h1 := hV.2.1 1 (by omega) (by omega)
  have h2 := hV.1
  have := z_ct_b (fun i => aI κ (κ 20 1 i) e ≠ 0) h1.1
  unfold cAl
  omega
theorem cWo_b {κ : c_K} (hV : cV κ) (e : Int) : 0 ≤ cWo κ e ∧ cWo κ e ≤ 30 := by
  have h1 := hV.2.1 1 (by omega) (by omega)
  have h2 := hV.1
  have := z_ct_b (fun i => bI κ e (κ 20 1 i) ≠ 0) h1.1
  unfold cWo
  omega
theorem cFi_b {κ : c_K} (g : Int) : cFi κ g = -1 ∨ (1 ≤ cFi κ g ∧ cFi κ g ≤ κ 24 1 0 ∧ κ 35 (κ 20 1 (cFi κ g - 1)) 0 = g) := by
  unfold cFi
  rcases z_ff_s (fun i => κ 35 (κ 20 1 i) 0 = g) (κ 24 1 0) with ⟨h1, -⟩ | ⟨h1, h2, h3, -⟩
  · rw [if_pos h1]; exact Or.inl rfl
  · rw [if_neg (by omega)]; exact Or.inr ⟨by omega, by omega, by rw [Int.add_sub_cancel]; exact h3⟩
theorem cLp_b {κ : c_K} (e : Int) : cLp κ e = -1 ∨ (1 ≤ cLp κ e ∧ cLp κ e ≤ κ 24 3 0 ∧ κ 20 3 (cLp κ e - 1) = e) := by
  unfold cLp
  rcases z_ff_s (fun i => κ 20 3 i = e) (κ 24 3 0) with ⟨h1, -⟩ | ⟨h1, h2, h3, -⟩
  · rw [if_pos h1]; exact Or.inl rfl
  · rw [if_neg (by omega)]; exact Or.inr ⟨by omega, by omega, by rw [Int.add_sub_cancel]; exact h3⟩
theorem tsL_b {κ : c_K} {g : Int} : ∀ (f : Nat) (i c s : Int), 0 ≤ i → i + f ≤ 30 → 0 ≤ s → s ≤ 31 * i → -1 ≤ tsL κ g f i c s ∧ tsL κ g f i c s ≤ 1000 := by
  intro f
  induction f with
  | zero => intro i c s h1 h2 h3 h4; show -1 ≤ ite _ _ _ ∧ ite _ _ _ ≤ _; split <;> omega
  | succ f ih =>
    intro i c s h1 h2 h3 h4
    show -1 ≤ ite _ _ _ ∧ ite _ _ _ ≤ _
    split
    · split
      · exact ih _ _ _ (by omega) (by omega) (by omega) (by omega)
      · exact ih _ _ _ (by omega) (by omega) (by omega) (by omega)
    · split <;> omega
theorem cTs_b {κ : c_K} (hV : cV κ) (g : Int) : -1 ≤ cTs κ g ∧ cTs κ g ≤ 1000 := by
  have h1 := hV.2.1 1 (by omega) (by omega)
  have h2 := hV.1
  exact tsL_b _ _ _ _ (by omega) (by omega) (by omega) (by omega)

theorem e_points {G : z_G} {D : Nat} {B : Nat → Int → Nat} {κ : c_K} {h : z_H} (hG : z_OK G) (hJ : cJ B κ) (hB : cB κ) (hV : cV κ) {e : Int} (he : -1 ≤ e ∧ e < κ 24 0 0) : z_Tr G mX0_points [.ref (B 20 e)] (cH D B κ h) 0 (z_i (κ 30 e 0)) := by
  obtain ⟨hn, hsz, hrw, hcu, htl, hth⟩ := id hV
  have hs0 := hsz 0 (by omega) (by omega)
  have hs1 := hsz 1 (by omega) (by omega)
  have hs2 := hsz 2 (by omega) (by omega)
  have hs3 := hsz 3 (by omega) (by omega)
  refine z_T_of hG pX0_points (Nat.le_of_ble_eq_true rfl) (ls0 := [(0, .ref (B 20 e))]) rfl fun Y hY hg hmc hms hφ hψ => ?_
  subst hg
  refine z_aload hY eX0_points_0 0 rfl ?_
  refine c_gf hY hJ eX0_points_1 (t := 20) (i := e) (v := .ref (B 21 e)) (by omega) rfl rfl ?_
  refine z_const hY eX0_points_4 ?_
  have hb1 := hB 30 e 0
  refine c_ial hY hJ eX0_points_5 (t := 21) (N := 4) (key := 30) (i := e) (x := κ 30 e 0) (by omega) rfl (by omega) rfl ?_
  exact z_ireturn hY eX0_points_6 rfl (by rw [hφ]; exact ⟨congrArg (fun q => some (z_i q)) (by first | rfl | omega | (simp only [z_bl]; split <;> omega)), rfl⟩) ⟨Nat.zero_le _, Nat.zero_le _⟩
theorem e_scoreIn {G : z_G} {D : Nat} {B : Nat → Int → Nat} {κ : c_K} {h : z_H} (hG : z_OK G) (hJ : cJ B κ) (hB : cB κ) (hV : cV κ) {e k : Int} (he : -1 ≤ e ∧ e < κ 24 0 0) (hk : -2147483648 ≤ k ∧ k ≤ 2147483647) : z_Tr G mX0_scoreIn [.ref (B 20 e), z_i k] (cH D B κ h) 0 (z_i (if 0 ≤ k ∧ k < 4 then κ 30 e k else 0)) := by
  obtain ⟨hn, hsz, hrw, hcu, htl, hth⟩ := id hV
  have hs0 := hsz 0 (by omega) (by omega)
  have hs1 := hsz 1 (by omega) (by omega)
  have hs2 := hsz 2 (by omega) (by omega)
  have hs3 := hsz 3 (by omega) (by omega)
  refine z_T_of hG pX0_scoreIn (Nat.le_of_ble_eq_true rfl) (ls0 := [(0, .ref (B 20 e)), (1, z_i k)]) rfl fun Y hY hg hmc hms hφ hψ => ?_
  subst hg
  refine z_iload hY eX0_scoreIn_0 1 rfl ?_
  refine z_iflt hY eX0_scoreIn_1 (by omega) (fun c1 => ?_) (fun c1 => ?_)
  · refine z_const hY eX0_scoreIn_18 ?_
    exact z_ireturn hY eX0_scoreIn_19 rfl (by rw [hφ]; exact ⟨congrArg (fun q => some (z_i q)) (by split <;> omega), rfl⟩) ⟨Nat.zero_le _, Nat.zero_le _⟩
  · refine z_iload hY eX0_scoreIn_4 1 rfl ?_
    refine z_const hY eX0_scoreIn_5 ?_
    refine z_icmpge hY eX0_scoreIn_6 (by omega) (fun c6 => ?_) (fun c6 => ?_)
    · refine z_const hY eX0_scoreIn_18 ?_
      exact z_ireturn hY eX0_scoreIn_19 rfl (by rw [hφ]; exact ⟨congrArg (fun q => some (z_i q)) (by split <;> omega), rfl⟩) ⟨Nat.zero_le _, Nat.zero_le _⟩
    · refine z_aload hY eX0_scoreIn_9 0 rfl ?_
      refine c_gf hY hJ eX0_scoreIn_10 (t := 20) (i := e) (v := .ref (B 21 e)) (by omega) rfl rfl ?_
      refine z_iload hY eX0_scoreIn_13 1 rfl ?_
      have hb1 := hB 30 e k
      refine c_ial hY hJ eX0_scoreIn_14 (t := 21) (N := 4) (key := 30) (i := e) (x := κ 30 e k) (by omega) rfl (by omega) rfl ?_
      refine z_goto hY eX0_scoreIn_15 ?_
      exact z_ireturn hY eX0_scoreIn_19 rfl (by rw [hφ]; exact ⟨congrArg (fun q => some (z_i q)) (by split <;> omega), rfl⟩) ⟨Nat.zero_le _, Nat.zero_le _⟩
theorem e_scoreIn4 {G : z_G} {D : Nat} {B : Nat → Int → Nat} {κ : c_K} {h : z_H} (hG : z_OK G) (hJ : cJ B κ) (hB : cB κ) (hV : cV κ) {e k : Int} (he : -1 ≤ e ∧ e < κ 24 0 0) (hk : 0 ≤ k ∧ k < 4) : z_Tr G mX0_scoreIn [.ref (B 20 e), z_i k] (cH D B κ h) 0 (z_i (κ 30 e k)) := by
  obtain ⟨hn, hsz, hrw, hcu, htl, hth⟩ := id hV
  have hs0 := hsz 0 (by omega) (by omega)
  have hs1 := hsz 1 (by omega) (by omega)
  have hs2 := hsz 2 (by omega) (by omega)
  have hs3 := hsz 3 (by omega) (by omega)
  refine z_T_of hG pX0_scoreIn (Nat.le_of_ble_eq_true rfl) (ls0 := [(0, .ref (B 20 e)), (1, z_i k)]) rfl fun Y hY hg hmc hms hφ hψ => ?_
  subst hg
  refine z_iload hY eX0_scoreIn_0 1 rfl ?_
  refine z_iflt hY eX0_scoreIn_1 (by omega) (fun c => by exfalso; omega) (fun c1 => ?_)
  refine z_iload hY eX0_scoreIn_4 1 rfl ?_
  refine z_const hY eX0_scoreIn_5 ?_
  refine z_icmpge hY eX0_scoreIn_6 (by omega) (fun c => by exfalso; omega) (fun c6 => ?_)
  refine z_aload hY eX0_scoreIn_9 0 rfl ?_
  refine c_gf hY hJ eX0_scoreIn_10 (t := 20) (i := e) (v := .ref (B 21 e)) (by omega) rfl rfl ?_
  refine z_iload hY eX0_scoreIn_13 1 rfl ?_
  have hb1 := hB 30 e k
  refine c_ial hY hJ eX0_scoreIn_14 (t := 21) (N := 4) (key := 30) (i := e) (x := κ 30 e k) (by omega) rfl (by omega) rfl ?_
  refine z_goto hY eX0_scoreIn_15 ?_
  exact z_ireturn hY eX0_scoreIn_19 rfl (by rw [hφ]; exact ⟨congrArg (fun q => some (z_i q)) (by first | rfl | omega | (simp only [z_bl]; split <;> omega)), rfl⟩) ⟨Nat.zero_le _, Nat.zero_le _⟩
theorem e_isBetterThan {G : z_G} {D : Nat} {B : Nat → Int → Nat} {κ : c_K} {h : z_H} (hG : z_OK G) (hJ : cJ B κ) (hB : cB κ) (hV : cV κ) {e o : Int} (he : -1 ≤ e ∧ e < κ 24 0 0) (ho : -1 ≤ o ∧ o < κ 24 0 0) : z_Tr G mX0_isBetterThan [.ref (B 20 e), .ref (B 20 o)] (cH D B κ h) 0 (z_i (bI κ e o)) := by
  obtain ⟨hn, hsz, hrw, hcu, htl, hth⟩ := id hV
  have hs0 := hsz 0 (by omega) (by omega)
  have hs1 := hsz 1 (by omega) (by omega)
  have hs2 := hsz 2 (by omega) (by omega)
  have hs3 := hsz 3 (by omega) (by omega)
  refine z_T_of hG pX0_isBetterThan (Nat.le_of_ble_eq_true rfl) (ls0 := [(0, .ref (B 20 e)), (1, .ref (B 20 o))]) rfl fun Y hY hg hmc hms hφ hψ => ?_
  subst hg
  refine z_const hY eX0_isBetterThan_0 ?_
  refine z_istore hY eX0_isBetterThan_1 (ls' := [(2, z_i 0), (0, .ref (B 20 e)), (1, .ref (B 20 o))]) rfl ?_
  refine z_iload hY eX0_isBetterThan_2 0 rfl ?_
  refine z_const hY eX0_isBetterThan_3 ?_
  refine z_icmpge hY eX0_isBetterThan_4 (by omega) (fun c => absurd c (by omega)) (fun _ => ?_)
  refine z_aload hY eX0_isBetterThan_7 1 rfl ?_
  refine c_gf hY hJ eX0_isBetterThan_8 (t := 20) (i := e) (v := .ref (B 22 e)) (by omega) rfl rfl ?_
  refine z_iload hY eX0_isBetterThan_11 0 rfl ?_
  have hb1 := hB 31 e 0
  refine c_ial hY hJ eX0_isBetterThan_12 (t := 22) (N := 4) (key := 31) (i := e) (x := κ 31 e 0) (by omega) rfl (by omega) rfl ?_
  refine z_aload hY eX0_isBetterThan_13 2 rfl ?_
  refine c_gf hY hJ eX0_isBetterThan_14 (t := 20) (i := o) (v := .ref (B 22 o)) (by omega) rfl rfl ?_
  refine z_iload hY eX0_isBetterThan_17 0 rfl ?_
  have hb2 := hB 31 o 0
  refine c_ial hY hJ eX0_isBetterThan_18 (t := 22) (N := 4) (key := 31) (i := o) (x := κ 31 o 0) (by omega) rfl (by omega) rfl ?_
  refine z_icmpeq hY eX0_isBetterThan_19 (by omega) (fun c19 => ?_) (fun c19 => ?_)
  · refine z_iinc hY eX0_isBetterThan_43 0 rfl (ls' := [(2, z_i (0 + 1)), (0, .ref (B 20 e)), (1, .ref (B 20 o))]) rfl ?_
    refine z_lq (ls' := [(2, z_i 1), (0, .ref (B 20 e)), (1, .ref (B 20 o))]) rfl ?_
    refine z_goto hY eX0_isBetterThan_46 ?_
    refine z_iload hY eX0_isBetterThan_2 0 rfl ?_
    refine z_const hY eX0_isBetterThan_3 ?_
    refine z_icmpge hY eX0_isBetterThan_4 (by omega) (fun c => absurd c (by omega)) (fun _ => ?_)
    refine z_aload hY eX0_isBetterThan_7 1 rfl ?_
    refine c_gf hY hJ eX0_isBetterThan_8 (t := 20) (i := e) (v := .ref (B 22 e)) (by omega) rfl rfl ?_
    refine z_iload hY eX0_isBetterThan_11 0 rfl ?_
    have hb3 := hB 31 e 1
    refine c_ial hY hJ eX0_isBetterThan_12 (t := 22) (N := 4) (key := 31) (i := e) (x := κ 31 e 1) (by omega) rfl (by omega) rfl ?_
    refine z_aload hY eX0_isBetterThan_13 2 rfl ?_
    refine c_gf hY hJ eX0_isBetterThan_14 (t := 20) (i := o) (v := .ref (B 22 o)) (by omega) rfl rfl ?_
    refine z_iload hY eX0_isBetterThan_17 0 rfl ?_
    have hb4 := hB 31 o 1
    refine c_ial hY hJ eX0_isBetterThan_18 (t := 22) (N := 4) (key := 31) (i := o) (x := κ 31 o 1) (by omega) rfl (by omega) rfl ?_
    refine z_icmpeq hY eX0_isBetterThan_19 (by omega) (fun c19 => ?_) (fun c19 => ?_)
    · refine z_iinc hY eX0_isBetterThan_43 0 rfl (ls' := [(2, z_i (1 + 1)), (0, .ref (B 20 e)), (1, .ref (B 20 o))]) rfl ?_
      refine z_lq (ls' := [(2, z_i 2), (0, .ref (B 20 e)), (1, .ref (B 20 o))]) rfl ?_
      refine z_goto hY eX0_isBetterThan_46 ?_
      refine z_iload hY eX0_isBetterThan_2 0 rfl ?_
      refine z_const hY eX0_isBetterThan_3 ?_
      refine z_icmpge hY eX0_isBetterThan_4 (by omega) (fun c => absurd c (by omega)) (fun _ => ?_)
      refine z_aload hY eX0_isBetterThan_7 1 rfl ?_
      refine c_gf hY hJ eX0_isBetterThan_8 (t := 20) (i := e) (v := .ref (B 22 e)) (by omega) rfl rfl ?_
      refine z_iload hY eX0_isBetterThan_11 0 rfl ?_
      have hb5 := hB 31 e 2
      refine c_ial hY hJ eX0_isBetterThan_12 (t := 22) (N := 4) (key := 31) (i := e) (x := κ 31 e 2) (by omega) rfl (by omega) rfl ?_
      refine z_aload hY eX0_isBetterThan_13 2 rfl ?_
      refine c_gf hY hJ eX0_isBetterThan_14 (t := 20) (i := o) (v := .ref (B 22 o)) (by omega) rfl rfl ?_
      refine z_iload hY eX0_isBetterThan_17 0 rfl ?_
      have hb6 := hB 31 o 2
      refine c_ial hY hJ eX0_isBetterThan_18 (t := 22) (N := 4) (key := 31) (i := o) (x := κ 31 o 2) (by omega) rfl (by omega) rfl ?_
      refine z_icmpeq hY eX0_isBetterThan_19 (by omega) (fun c19 => ?_) (fun c19 => ?_)
      · refine z_iinc hY eX0_isBetterThan_43 0 rfl (ls' := [(2, z_i (2 + 1)), (0, .ref (B 20 e)), (1, .ref (B 20 o))]) rfl ?_
        refine z_lq (ls' := [(2, z_i 3), (0, .ref (B 20 e)), (1, .ref (B 20 o))]) rfl ?_
        refine z_goto hY eX0_isBetterThan_46 ?_
        refine z_iload hY eX0_isBetterThan_2 0 rfl ?_
        refine z_const hY eX0_isBetterThan_3 ?_
        refine z_icmpge hY eX0_isBetterThan_4 (by omega) (fun c => absurd c (by omega)) (fun _ => ?_)
        refine z_aload hY eX0_isBetterThan_7 1 rfl ?_
        refine c_gf hY hJ eX0_isBetterThan_8 (t := 20) (i := e) (v := .ref (B 22 e)) (by omega) rfl rfl ?_
        refine z_iload hY eX0_isBetterThan_11 0 rfl ?_
        have hb7 := hB 31 e 3
        refine c_ial hY hJ eX0_isBetterThan_12 (t := 22) (N := 4) (key := 31) (i := e) (x := κ 31 e 3) (by omega) rfl (by omega) rfl ?_
        refine z_aload hY eX0_isBetterThan_13 2 rfl ?_
        refine c_gf hY hJ eX0_isBetterThan_14 (t := 20) (i := o) (v := .ref (B 22 o)) (by omega) rfl rfl ?_
        refine z_iload hY eX0_isBetterThan_17 0 rfl ?_
        have hb8 := hB 31 o 3
        refine c_ial hY hJ eX0_isBetterThan_18 (t := 22) (N := 4) (key := 31) (i := o) (x := κ 31 o 3) (by omega) rfl (by omega) rfl ?_
        refine z_icmpeq hY eX0_isBetterThan_19 (by omega) (fun c19 => ?_) (fun c19 => ?_)
        · refine z_iinc hY eX0_isBetterThan_43 0 rfl (ls' := [(2, z_i (3 + 1)), (0, .ref (B 20 e)), (1, .ref (B 20 o))]) rfl ?_
          refine z_lq (ls' := [(2, z_i 4), (0, .ref (B 20 e)), (1, .ref (B 20 o))]) rfl ?_
          refine z_goto hY eX0_isBetterThan_46 ?_
          refine z_iload hY eX0_isBetterThan_2 0 rfl ?_
          refine z_const hY eX0_isBetterThan_3 ?_
          refine z_icmpge hY eX0_isBetterThan_4 (by omega) (fun _ => ?_) (fun c => absurd c (by omega))
          refine z_const hY eX0_isBetterThan_49 ?_
          exact z_zreturn hY eX0_isBetterThan_50 rfl (by omega) (by rw [hφ]; exact ⟨congrArg (fun q => some (z_i q)) (by unfold bI; (repeat' split) <;> omega), rfl⟩) ⟨Nat.zero_le _, Nat.zero_le _⟩
        · refine z_aload hY eX0_isBetterThan_22 1 rfl ?_
          refine c_gf hY hJ eX0_isBetterThan_23 (t := 20) (i := e) (v := .ref (B 22 e)) (by omega) rfl rfl ?_
          refine z_iload hY eX0_isBetterThan_26 0 rfl ?_
          refine c_ial hY hJ eX0_isBetterThan_27 (t := 22) (N := 4) (key := 31) (i := e) (x := κ 31 e 3) (by omega) rfl (by omega) rfl ?_
          refine z_aload hY eX0_isBetterThan_28 2 rfl ?_
          refine c_gf hY hJ eX0_isBetterThan_29 (t := 20) (i := o) (v := .ref (B 22 o)) (by omega) rfl rfl ?_
          refine z_iload hY eX0_isBetterThan_32 0 rfl ?_
          refine c_ial hY hJ eX0_isBetterThan_33 (t := 22) (N := 4) (key := 31) (i := o) (x := κ 31 o 3) (by omega) rfl (by omega) rfl ?_
          refine z_icmple hY eX0_isBetterThan_34 (by omega) (fun c34 => ?_) (fun c34 => ?_)
          · refine z_const hY eX0_isBetterThan_41 ?_
            exact z_zreturn hY eX0_isBetterThan_42 rfl (by omega) (by rw [hφ]; exact ⟨congrArg (fun q => some (z_i q)) (by unfold bI; (repeat' split) <;> omega), rfl⟩) ⟨Nat.zero_le _, Nat.zero_le _⟩
          · refine z_const hY eX0_isBetterThan_37 ?_
            refine z_goto hY eX0_isBetterThan_38 ?_
            exact z_zreturn hY eX0_isBetterThan_42 rfl (by omega) (by rw [hφ]; exact ⟨congrArg (fun q => some (z_i q)) (by unfold bI; (repeat' split) <;> omega), rfl⟩) ⟨Nat.zero_le _, Nat.zero_le _⟩
      · refine z_aload hY eX0_isBetterThan_22 1 rfl ?_
        refine c_gf hY hJ eX0_isBetterThan_23 (t := 20) (i := e) (v := .ref (B 22 e)) (by omega) rfl rfl ?_
        refine z_iload hY eX0_isBetterThan_26 0 rfl ?_
        refine c_ial hY hJ eX0_isBetterThan_27 (t := 22) (N := 4) (key := 31) (i := e) (x := κ 31 e 2) (by omega) rfl (by omega) rfl ?_
        refine z_aload hY eX0_isBetterThan_28 2 rfl ?_
        refine c_gf hY hJ eX0_isBetterThan_29 (t := 20) (i := o) (v := .ref (B 22 o)) (by omega) rfl rfl ?_
        refine z_iload hY eX0_isBetterThan_32 0 rfl ?_
        refine c_ial hY hJ eX0_isBetterThan_33 (t := 22) (N := 4) (key := 31) (i := o) (x := κ 31 o 2) (by omega) rfl (by omega) rfl ?_
        refine z_icmple hY eX0_isBetterThan_34 (by omega) (fun c34 => ?_) (fun c34 => ?_)
        · refine z_const hY eX0_isBetterThan_41 ?_
          exact z_zreturn hY eX0_isBetterThan_42 rfl (by omega) (by rw [hφ]; exact ⟨congrArg (fun q => some (z_i q)) (by unfold bI; (repeat' split) <;> omega), rfl⟩) ⟨Nat.zero_le _, Nat.zero_le _⟩
        · refine z_const hY eX0_isBetterThan_37 ?_
          refine z_goto hY eX0_isBetterThan_38 ?_
          exact z_zreturn hY eX0_isBetterThan_42 rfl (by omega) (by rw [hφ]; exact ⟨congrArg (fun q => some (z_i q)) (by unfold bI; (repeat' split) <;> omega), rfl⟩) ⟨Nat.zero_le _, Nat.zero_le _⟩
    · refine z_aload hY eX0_isBetterThan_22 1 rfl ?_
      refine c_gf hY hJ eX0_isBetterThan_23 (t := 20) (i := e) (v := .ref (B 22 e)) (by omega) rfl rfl ?_
      refine z_iload hY eX0_isBetterThan_26 0 rfl ?_
      refine c_ial hY hJ eX0_isBetterThan_27 (t := 22) (N := 4) (key := 31) (i := e) (x := κ 31 e 1) (by omega) rfl (by omega) rfl ?_
      refine z_aload hY eX0_isBetterThan_28 2 rfl ?_
      refine c_gf hY hJ eX0_isBetterThan_29 (t := 20) (i := o) (v := .ref (B 22 o)) (by omega) rfl rfl ?_
      refine z_iload hY eX0_isBetterThan_32 0 rfl ?_
      refine c_ial hY hJ eX0_isBetterThan_33 (t := 22) (N := 4) (key := 31) (i := o) (x := κ 31 o 1) (by omega) rfl (by omega) rfl ?_
      refine z_icmple hY eX0_isBetterThan_34 (by omega) (fun c34 => ?_) (fun c34 => ?_)
      · refine z_const hY eX0_isBetterThan_41 ?_
        exact z_zreturn hY eX0_isBetterThan_42 rfl (by omega) (by rw [hφ]; exact ⟨congrArg (fun q => some (z_i q)) (by unfold bI; (repeat' split) <;> omega), rfl⟩) ⟨Nat.zero_le _, Nat.zero_le _⟩
      · refine z_const hY eX0_isBetterThan_37 ?_
        refine z_goto hY eX0_isBetterThan_38 ?_
        exact z_zreturn hY eX0_isBetterThan_42 rfl (by omega) (by rw [hφ]; exact ⟨congrArg (fun q => some (z_i q)) (by unfold bI; (repeat' split) <;> omega), rfl⟩) ⟨Nat.zero_le _, Nat.zero_le _⟩
  · refine z_aload hY eX0_isBetterThan_22 1 rfl ?_
    refine c_gf hY hJ eX0_isBetterThan_23 (t := 20) (i := e) (v := .ref (B 22 e)) (by omega) rfl rfl ?_
    refine z_iload hY eX0_isBetterThan_26 0 rfl ?_
    refine c_ial hY hJ eX0_isBetterThan_27 (t := 22) (N := 4) (key := 31) (i := e) (x := κ 31 e 0) (by omega) rfl (by omega) rfl ?_
    refine z_aload hY eX0_isBetterThan_28 2 rfl ?_
    refine c_gf hY hJ eX0_isBetterThan_29 (t := 20) (i := o) (v := .ref (B 22 o)) (by omega) rfl rfl ?_
    refine z_iload hY eX0_isBetterThan_32 0 rfl ?_
    refine c_ial hY hJ eX0_isBetterThan_33 (t := 22) (N := 4) (key := 31) (i := o) (x := κ 31 o 0) (by omega) rfl (by omega) rfl ?_
    refine z_icmple hY eX0_isBetterThan_34 (by omega) (fun c34 => ?_) (fun c34 => ?_)
    · refine z_const hY eX0_isBetterThan_41 ?_
      exact z_zreturn hY eX0_isBetterThan_42 rfl (by omega) (by rw [hφ]; exact ⟨congrArg (fun q => some (z_i q)) (by unfold bI; (repeat' split) <;> omega), rfl⟩) ⟨Nat.zero_le _, Nat.zero_le _⟩
    · refine z_const hY eX0_isBetterThan_37 ?_
      refine z_goto hY eX0_isBetterThan_38 ?_
      exact z_zreturn hY eX0_isBetterThan_42 rfl (by omega) (by rw [hφ]; exact ⟨congrArg (fun q => some (z_i q)) (by unfold bI; (repeat' split) <;> omega), rfl⟩) ⟨Nat.zero_le _, Nat.zero_le _⟩
theorem e_isAlikeWith {G : z_G} {D : Nat} {B : Nat → Int → Nat} {κ : c_K} {h : z_H} (hG : z_OK G) (hJ : cJ B κ) (hB : cB κ) (hV : cV κ) {e o : Int} (he : -1 ≤ e ∧ e < κ 24 0 0) (ho : -1 ≤ o ∧ o < κ 24 0 0) : z_Tr G mX0_isAlikeWith [.ref (B 20 e), .ref (B 20 o)] (cH D B κ h) 1 (z_i (aI κ e o)) := by
  obtain ⟨hn, hsz, hrw, hcu, htl, hth⟩ := id hV
  have hs0 := hsz 0 (by omega) (by omega)
  have hs1 := hsz 1 (by omega) (by omega)
  have hs2 := hsz 2 (by omega) (by omega)
  have hs3 := hsz 3 (by omega) (by omega)
  refine z_T_of hG pX0_isAlikeWith (Nat.le_of_ble_eq_true rfl) (ls0 := [(0, .ref (B 20 e)), (1, .ref (B 20 o))]) rfl fun Y hY hg hmc hms hφ hψ => ?_
  subst hg
  refine z_aload hY eX0_isAlikeWith_0 0 rfl ?_
  refine z_aload hY eX0_isAlikeWith_1 1 rfl ?_
  refine z_callVr (As := [.ref (B 20 o)]) (rest := []) (r := z_i (bI κ e o)) hY eX0_isAlikeWith_2 (e_isBetterThan hG hJ hB hV (by omega) (by omega)) (cH_at (t := 20) (i := e) hJ (by omega)) (by decide) (Nat.le_of_ble_eq_true rfl) ⟨Nat.zero_le _, Nat.zero_le _⟩ ?_
  have hc1 := bI_b κ e o
  refine z_ifne hY eX0_isAlikeWith_5 (by omega) (fun c5 => ?_) (fun c5 => ?_)
  · refine z_const hY eX0_isAlikeWith_20 ?_
    exact z_zreturn hY eX0_isAlikeWith_21 rfl (by omega) (by rw [hφ]; exact ⟨congrArg (fun q => some (z_i q)) (by unfold aI; split <;> omega), rfl⟩) ⟨Nat.zero_le _, Nat.zero_le _⟩
  · refine z_aload hY eX0_isAlikeWith_8 1 rfl ?_
    refine z_aload hY eX0_isAlikeWith_9 0 rfl ?_
    refine z_callVr (As := [.ref (B 20 e)]) (rest := []) (r := z_i (bI κ o e)) hY eX0_isAlikeWith_10 (e_isBetterThan hG hJ hB hV (by omega) (by omega)) (cH_at (t := 20) (i := o) hJ (by omega)) (by decide) (Nat.le_of_ble_eq_true rfl) ⟨Nat.zero_le _, Nat.zero_le _⟩ ?_
    have hc2 := bI_b κ o e
    refine z_ifne hY eX0_isAlikeWith_13 (by omega) (fun c13 => ?_) (fun c13 => ?_)
    · refine z_const hY eX0_isAlikeWith_20 ?_
      exact z_zreturn hY eX0_isAlikeWith_21 rfl (by omega) (by rw [hφ]; exact ⟨congrArg (fun q => some (z_i q)) (by unfold aI; split <;> omega), rfl⟩) ⟨Nat.zero_le _, Nat.zero_le _⟩
    · refine z_const hY eX0_isAlikeWith_16 ?_
      refine z_goto hY eX0_isAlikeWith_17 ?_
      exact z_zreturn hY eX0_isAlikeWith_21 rfl (by omega) (by rw [hφ]; exact ⟨congrArg (fun q => some (z_i q)) (by unfold aI; split <;> omega), rfl⟩) ⟨Nat.zero_le _, Nat.zero_le _⟩
theorem e_isAheadOf {G : z_G} {D : Nat} {B : Nat → Int → Nat} {κ : c_K} {h : z_H} (hG : z_OK G) (hJ : cJ B κ) (hB : cB κ) (hV : cV κ) {e o : Int} (he : -1 ≤ e ∧ e < κ 24 0 0) (ho : -1 ≤ o ∧ o < κ 24 0 0) : z_Tr G mX0_isAheadOf [.ref (B 20 e), .ref (B 20 o)] (cH D B κ h) 1 (z_i (hI κ e o)) := by
  obtain ⟨hn, hsz, hrw, hcu, htl, hth⟩ := id hV
  have hs0 := hsz 0 (by omega) (by omega)
  have hs1 := hsz 1 (by omega) (by omega)
  have hs2 := hsz 2 (by omega) (by omega)
  have hs3 := hsz 3 (by omega) (by omega)
  refine z_T_of hG pX0_isAheadOf (Nat.le_of_ble_eq_true rfl) (ls0 := [(0, .ref (B 20 e)), (1, .ref (B 20 o))]) rfl fun Y hY hg hmc hms hφ hψ => ?_
  subst hg
  refine z_aload hY eX0_isAheadOf_0 0 rfl ?_
  refine z_aload hY eX0_isAheadOf_1 1 rfl ?_
  refine z_callVr (As := [.ref (B 20 o)]) (rest := []) (r := z_i (bI κ e o)) hY eX0_isAheadOf_2 (e_isBetterThan hG hJ hB hV (by omega) (by omega)) (cH_at (t := 20) (i := e) hJ (by omega)) (by decide) (Nat.le_of_ble_eq_true rfl) ⟨Nat.zero_le _, Nat.zero_le _⟩ ?_
  have hc1 := bI_b κ e o
  refine z_ifne hY eX0_isAheadOf_5 (by omega) (fun c5 => ?_) (fun c5 => ?_)
  · refine z_const hY eX0_isAheadOf_27 ?_
    refine z_goto hY eX0_isAheadOf_28 ?_
    exact z_zreturn hY eX0_isAheadOf_32 rfl (by omega) (by rw [hφ]; exact ⟨congrArg (fun q => some (z_i q)) (by unfold hI; split <;> omega), rfl⟩) ⟨Nat.zero_le _, Nat.zero_le _⟩
  · refine z_aload hY eX0_isAheadOf_8 0 rfl ?_
    have hb2 := hB 34 e 0
    refine c_gf hY hJ eX0_isAheadOf_9 (t := 20) (i := e) (v := z_i (κ 34 e 0)) (by omega) rfl rfl ?_
    refine z_aload hY eX0_isAheadOf_12 1 rfl ?_
    have hb3 := hB 34 o 0
    refine c_gf hY hJ eX0_isAheadOf_13 (t := 20) (i := o) (v := z_i (κ 34 o 0)) (by omega) rfl rfl ?_
    refine z_icmpge hY eX0_isAheadOf_16 (by omega) (fun c16 => ?_) (fun c16 => ?_)
    · refine z_const hY eX0_isAheadOf_31 ?_
      exact z_zreturn hY eX0_isAheadOf_32 rfl (by omega) (by rw [hφ]; exact ⟨congrArg (fun q => some (z_i q)) (by unfold hI; split <;> omega), rfl⟩) ⟨Nat.zero_le _, Nat.zero_le _⟩
    · refine z_aload hY eX0_isAheadOf_19 1 rfl ?_
      refine z_aload hY eX0_isAheadOf_20 0 rfl ?_
      refine z_callVr (As := [.ref (B 20 e)]) (rest := []) (r := z_i (bI κ o e)) hY eX0_isAheadOf_21 (e_isBetterThan hG hJ hB hV (by omega) (by omega)) (cH_at (t := 20) (i := o) hJ (by omega)) (by decide) (Nat.le_of_ble_eq_true rfl) ⟨Nat.zero_le _, Nat.zero_le _⟩ ?_
      have hc4 := bI_b κ o e
      refine z_ifne hY eX0_isAheadOf_24 (by omega) (fun c24 => ?_) (fun c24 => ?_)
      · refine z_const hY eX0_isAheadOf_31 ?_
        exact z_zreturn hY eX0_isAheadOf_32 rfl (by omega) (by rw [hφ]; exact ⟨congrArg (fun q => some (z_i q)) (by unfold hI; split <;> omega), rfl⟩) ⟨Nat.zero_le _, Nat.zero_le _⟩
      · refine z_const hY eX0_isAheadOf_27 ?_
        refine z_goto hY eX0_isAheadOf_28 ?_
        exact z_zreturn hY eX0_isAheadOf_32 rfl (by omega) (by rw [hφ]; exact ⟨congrArg (fun q => some (z_i q)) (by unfold hI; split <;> omega), rfl⟩) ⟨Nat.zero_le _, Nat.zero_le _⟩
theorem p_countBelow {G : z_G} {D : Nat} {B : Nat → Int → Nat} {κ : c_K} {h : z_H} (hG : z_OK G) (hJ : cJ B κ) (hB : cB κ) (hV : cV κ) {p : Int} (hp : -2147483648 ≤ p ∧ p ≤ 2147483647) : z_Tr G mX4_countBelow [.ref (B 10 0), z_i p] (cH D B κ h) 3 (z_i (z_fw (fun i => κ 30 (κ 20 2 i) 0 < p) (κ 24 2 0))) := by
  obtain ⟨hn, hsz, hrw, hcu, htl, hth⟩ := id hV
  have hs0 := hsz 0 (by omega) (by omega)
  have hs1 := hsz 1 (by omega) (by omega)
  have hs2 := hsz 2 (by omega) (by omega)
  have hs3 := hsz 3 (by omega) (by omega)
  refine z_T_of hG pX4_countBelow (Nat.le_of_ble_eq_true rfl) (ls0 := [(0, .ref (B 10 0)), (1, z_i p)]) rfl fun Y hY hg hmc hms hφ hψ => ?_
  subst hg
  refine z_const hY eX4_countBelow_0 ?_
  refine z_istore hY eX4_countBelow_1 (ls' := [(2, z_i 0), (0, .ref (B 10 0)), (1, z_i p)]) rfl ?_
  refine z_const hY eX4_countBelow_2 ?_
  refine z_istore hY eX4_countBelow_3 (ls' := [(3, z_i 0), (2, z_i 0), (0, .ref (B 10 0)), (1, z_i p)]) rfl ?_
  refine z_sub [2, 3, 0, 1] (ls' := [(0, .ref (B 10 0)), (1, z_i p), (3, z_i 0), (2, z_i 0)]) rfl ?_
  have lp4 : ∀ (fu : Nat) (i : Int) (n : Int), (κ 24 2 0 - i).toNat < fu → (0 ≤ i ∧ i ≤ κ 24 2 0) → (n = i) → (z_fwL (fun i => κ 30 (κ 20 2 i) 0 < p) (κ 24 2 0 - i).toNat i = z_fw (fun i => κ 30 (κ 20 2 i) 0 < p) (κ 24 2 0)) → z_W Y 4 [(0, .ref (B 10 0)), (1, z_i p), (3, z_i i), (2, z_i n)] [] (cH D B κ h) 0 0 := by
    intro fu
    induction fu with
    | zero => intro i n hf; exact absurd hf (Nat.not_lt_zero _)
    | succ fu ih4 =>
      intro i n hf h0 hni hn
      refine z_iload hY eX4_countBelow_4 2 rfl ?_
      refine z_aload hY eX4_countBelow_5 0 rfl ?_
      refine c_gf hY hJ eX4_countBelow_6 (t := 10) (i := 0) (v := .ref (B 7 2)) (by omega) rfl rfl ?_
      refine z_callVr (As := []) (rest := [z_i i]) (r := z_i (κ 24 2 0)) hY eX4_countBelow_9 (c_size hG hJ hB hV (by omega)) (cH_at (t := 7) (i := 2) hJ (by omega)) (by decide) (Nat.le_of_ble_eq_true rfl) ⟨Nat.zero_le _, Nat.zero_le _⟩ ?_
      refine z_icmpge hY eX4_countBelow_12 (by omega) (fun c12 => ?_) (fun c12 => ?_)
      · refine z_iload hY eX4_countBelow_42 3 rfl ?_
        exact z_ireturn hY eX4_countBelow_43 rfl (by rw [hφ]; exact ⟨congrArg (fun q => some (z_i q)) (by rw [hni]; exact (z_fw_f (by omega)).symm.trans hn), rfl⟩) ⟨Nat.zero_le _, Nat.zero_le _⟩
      · refine z_aload hY eX4_countBelow_15 0 rfl ?_
        refine c_gf hY hJ eX4_countBelow_16 (t := 10) (i := 0) (v := .ref (B 7 2)) (by omega) rfl rfl ?_
        refine z_iload hY eX4_countBelow_19 2 rfl ?_
        refine z_callVr (As := [z_i i]) (rest := []) (r := .ref (B 20 (κ 20 2 i))) hY eX4_countBelow_20 (c_get hG hJ hB hV (by omega) (by omega)) (cH_at (t := 7) (i := 2) hJ (by omega)) (by decide) (Nat.le_of_ble_eq_true rfl) ⟨Nat.zero_le _, Nat.zero_le _⟩ ?_
        have hc1 := hrw 2 i (by omega) (by omega) (by omega) (by omega)
        refine z_cast hY eX4_countBelow_23 (ci := 0) (nm := "StandingsHall$Entrant") (T := TX0) (N := 11) rfl (cH_at (t := 20) (i := (κ 20 2 i)) hJ (by omega)) ?_
        refine z_callVr (As := []) (rest := []) (r := z_i (κ 30 (κ 20 2 i) 0)) hY eX4_countBelow_26 (e_points hG hJ hB hV (by omega)) (cH_at (t := 20) (i := (κ 20 2 i)) hJ (by omega)) (by decide) (Nat.le_of_ble_eq_true rfl) ⟨Nat.zero_le _, Nat.zero_le _⟩ ?_
        have hc2 := hB 30 (κ 20 2 i) 0
        refine z_iload hY eX4_countBelow_29 1 rfl ?_
        refine z_icmpge hY eX4_countBelow_30 (by omega) (fun c30 => ?_) (fun c30 => ?_)
        · refine z_iload hY eX4_countBelow_42 3 rfl ?_
          exact z_ireturn hY eX4_countBelow_43 rfl (by rw [hφ]; exact ⟨congrArg (fun q => some (z_i q)) (by rw [hni]; exact (z_fw_f (by omega)).symm.trans hn), rfl⟩) ⟨Nat.zero_le _, Nat.zero_le _⟩
        · refine z_iinc hY eX4_countBelow_33 3 rfl (ls' := [(2, z_i (n + 1)), (0, .ref (B 10 0)), (1, z_i p), (3, z_i i)]) rfl ?_
          refine z_iinc hY eX4_countBelow_36 3 rfl (ls' := [(3, z_i (i + 1)), (2, z_i (n + 1)), (0, .ref (B 10 0)), (1, z_i p)]) rfl ?_
          refine z_goto hY eX4_countBelow_39 ?_
          refine z_sub [2, 3, 0, 1] (ls' := [(0, .ref (B 10 0)), (1, z_i p), (3, z_i (i + 1)), (2, z_i (n + 1))]) rfl ?_
          exact ih4 (i + 1) (n + 1) (by omega) (by omega) (by omega) ((z_fw_t (by omega) (by omega)).symm.trans hn)
  exact lp4 _ 0 0 (Nat.lt_succ_self _) (by omega) rfl rfl
theorem p_countUpTo {G : z_G} {D : Nat} {B : Nat → Int → Nat} {κ : c_K} {h : z_H} (hG : z_OK G) (hJ : cJ B κ) (hB : cB κ) (hV : cV κ) {p : Int} (hp : -2147483648 ≤ p ∧ p ≤ 2147483647) : z_Tr G mX4_countUpTo [.ref (B 10 0), z_i p] (cH D B κ h) 3 (z_i (z_fw (fun i => κ 30 (κ 20 2 i) 0 ≤ p) (κ 24 2 0))) := by
  obtain ⟨hn, hsz, hrw, hcu, htl, hth⟩ := id hV
  have hs0 := hsz 0 (by omega) (by omega)
  have hs1 := hsz 1 (by omega) (by omega)
  have hs2 := hsz 2 (by omega) (by omega)
  have hs3 := hsz 3 (by omega) (by omega)
  refine z_T_of hG pX4_countUpTo (Nat.le_of_ble_eq_true rfl) (ls0 := [(0, .ref (B 10 0)), (1, z_i p)]) rfl fun Y hY hg hmc hms hφ hψ => ?_
  subst hg
  refine z_const hY eX4_countUpTo_0 ?_
  refine z_istore hY eX4_countUpTo_1 (ls' := [(2, z_i 0), (0, .ref (B 10 0)), (1, z_i p)]) rfl ?_
  refine z_const hY eX4_countUpTo_2 ?_
  refine z_istore hY eX4_countUpTo_3 (ls' := [(3, z_i 0), (2, z_i 0), (0, .ref (B 10 0)), (1, z_i p)]) rfl ?_
  refine z_sub [2, 3, 0, 1] (ls' := [(0, .ref (B 10 0)), (1, z_i p), (3, z_i 0), (2, z_i 0)]) rfl ?_
  have lp4 : ∀ (fu : Nat) (i : Int) (n : Int), (κ 24 2 0 - i).toNat < fu → (0 ≤ i ∧ i ≤ κ 24 2 0) → (n = i) → (z_fwL (fun i => κ 30 (κ 20 2 i) 0 ≤ p) (κ 24 2 0 - i).toNat i = z_fw (fun i => κ 30 (κ 20 2 i) 0 ≤ p) (κ 24 2 0)) → z_W Y 4 [(0, .ref (B 10 0)), (1, z_i p), (3, z_i i), (2, z_i n)] [] (cH D B κ h) 0 0 := by
    intro fu
    induction fu with
    | zero => intro i n hf; exact absurd hf (Nat.not_lt_zero _)
    | succ fu ih4 =>
      intro i n hf h0 hni hn
      refine z_iload hY eX4_countUpTo_4 2 rfl ?_
      refine z_aload hY eX4_countUpTo_5 0 rfl ?_
      refine c_gf hY hJ eX4_countUpTo_6 (t := 10) (i := 0) (v := .ref (B 7 2)) (by omega) rfl rfl ?_
      refine z_callVr (As := []) (rest := [z_i i]) (r := z_i (κ 24 2 0)) hY eX4_countUpTo_9 (c_size hG hJ hB hV (by omega)) (cH_at (t := 7) (i := 2) hJ (by omega)) (by decide) (Nat.le_of_ble_eq_true rfl) ⟨Nat.zero_le _, Nat.zero_le _⟩ ?_
      refine z_icmpge hY eX4_countUpTo_12 (by omega) (fun c12 => ?_) (fun c12 => ?_)
      · refine z_iload hY eX4_countUpTo_42 3 rfl ?_
        exact z_ireturn hY eX4_countUpTo_43 rfl (by rw [hφ]; exact ⟨congrArg (fun q => some (z_i q)) (by rw [hni]; exact (z_fw_f (by omega)).symm.trans hn), rfl⟩) ⟨Nat.zero_le _, Nat.zero_le _⟩
      · refine z_aload hY eX4_countUpTo_15 0 rfl ?_
        refine c_gf hY hJ eX4_countUpTo_16 (t := 10) (i := 0) (v := .ref (B 7 2)) (by omega) rfl rfl ?_
        refine z_iload hY eX4_countUpTo_19 2 rfl ?_
        refine z_callVr (As := [z_i i]) (rest := []) (r := .ref (B 20 (κ 20 2 i))) hY eX4_countUpTo_20 (c_get hG hJ hB hV (by omega) (by omega)) (cH_at (t := 7) (i := 2) hJ (by omega)) (by decide) (Nat.le_of_ble_eq_true rfl) ⟨Nat.zero_le _, Nat.zero_le _⟩ ?_
        have hc1 := hrw 2 i (by omega) (by omega) (by omega) (by omega)
        refine z_cast hY eX4_countUpTo_23 (ci := 0) (nm := "StandingsHall$Entrant") (T := TX0) (N := 11) rfl (cH_at (t := 20) (i := (κ 20 2 i)) hJ (by omega)) ?_
        refine z_callVr (As := []) (rest := []) (r := z_i (κ 30 (κ 20 2 i) 0)) hY eX4_countUpTo_26 (e_points hG hJ hB hV (by omega)) (cH_at (t := 20) (i := (κ 20 2 i)) hJ (by omega)) (by decide) (Nat.le_of_ble_eq_true rfl) ⟨Nat.zero_le _, Nat.zero_le _⟩ ?_
        have hc2 := hB 30 (κ 20 2 i) 0
        refine z_iload hY eX4_countUpTo_29 1 rfl ?_
        refine z_icmpgt hY eX4_countUpTo_30 (by omega) (fun c30 => ?_) (fun c30 => ?_)
        · refine z_iload hY eX4_countUpTo_42 3 rfl ?_
          exact z_ireturn hY eX4_countUpTo_43 rfl (by rw [hφ]; exact ⟨congrArg (fun q => some (z_i q)) (by rw [hni]; exact (z_fw_f (by omega)).symm.trans hn), rfl⟩) ⟨Nat.zero_le _, Nat.zero_le _⟩
        · refine z_iinc hY eX4_countUpTo_33 3 rfl (ls' := [(2, z_i (n + 1)), (0, .ref (B 10 0)), (1, z_i p), (3, z_i i)]) rfl ?_
          refine z_iinc hY eX4_countUpTo_36 3 rfl (ls' := [(3, z_i (i + 1)), (2, z_i (n + 1)), (0, .ref (B 10 0)), (1, z_i p)]) rfl ?_
          refine z_goto hY eX4_countUpTo_39 ?_
          refine z_sub [2, 3, 0, 1] (ls' := [(0, .ref (B 10 0)), (1, z_i p), (3, z_i (i + 1)), (2, z_i (n + 1))]) rfl ?_
          exact ih4 (i + 1) (n + 1) (by omega) (by omega) (by omega) ((z_fw_t (by omega) (by omega)).symm.trans hn)
  exact lp4 _ 0 0 (Nat.lt_succ_self _) (by omega) rfl rfl
theorem p_pointsAt {G : z_G} {D : Nat} {B : Nat → Int → Nat} {κ : c_K} {h : z_H} (hG : z_OK G) (hJ : cJ B κ) (hB : cB κ) (hV : cV κ) {p : Int} (hp : -2147483648 ≤ p ∧ p ≤ 2147483647) : z_Tr G mX4_pointsAt [.ref (B 10 0), z_i p] (cH D B κ h) 3 (z_i (if 1 ≤ p ∧ p ≤ κ 24 2 0 then κ 30 (κ 20 2 (p - 1)) 0 else 0)) := by
  obtain ⟨hn, hsz, hrw, hcu, htl, hth⟩ := id hV
  have hs0 := hsz 0 (by omega) (by omega)
  have hs1 := hsz 1 (by omega) (by omega)
  have hs2 := hsz 2 (by omega) (by omega)
  have hs3 := hsz 3 (by omega) (by omega)
  refine z_T_of hG pX4_pointsAt (Nat.le_of_ble_eq_true rfl) (ls0 := [(0, .ref (B 10 0)), (1, z_i p)]) rfl fun Y hY hg hmc hms hφ hψ => ?_
  subst hg
  refine z_iload hY eX4_pointsAt_0 1 rfl ?_
  refine z_const hY eX4_pointsAt_1 ?_
  refine z_icmplt hY eX4_pointsAt_2 (by omega) (fun c2 => ?_) (fun c2 => ?_)
  · refine z_const hY eX4_pointsAt_35 ?_
    exact z_ireturn hY eX4_pointsAt_36 rfl (by rw [hφ]; exact ⟨congrArg (fun q => some (z_i q)) (by split <;> omega), rfl⟩) ⟨Nat.zero_le _, Nat.zero_le _⟩
  · refine z_iload hY eX4_pointsAt_5 1 rfl ?_
    refine z_aload hY eX4_pointsAt_6 0 rfl ?_
    refine c_gf hY hJ eX4_pointsAt_7 (t := 10) (i := 0) (v := .ref (B 7 2)) (by omega) rfl rfl ?_
    refine z_callVr (As := []) (rest := [z_i p]) (r := z_i (κ 24 2 0)) hY eX4_pointsAt_10 (c_size hG hJ hB hV (by omega)) (cH_at (t := 7) (i := 2) hJ (by omega)) (by decide) (Nat.le_of_ble_eq_true rfl) ⟨Nat.zero_le _, Nat.zero_le _⟩ ?_
    refine z_icmpgt hY eX4_pointsAt_13 (by omega) (fun c13 => ?_) (fun c13 => ?_)
    · refine z_const hY eX4_pointsAt_35 ?_
      exact z_ireturn hY eX4_pointsAt_36 rfl (by rw [hφ]; exact ⟨congrArg (fun q => some (z_i q)) (by split <;> omega), rfl⟩) ⟨Nat.zero_le _, Nat.zero_le _⟩
    · refine z_aload hY eX4_pointsAt_16 0 rfl ?_
      refine c_gf hY hJ eX4_pointsAt_17 (t := 10) (i := 0) (v := .ref (B 7 2)) (by omega) rfl rfl ?_
      refine z_iload hY eX4_pointsAt_20 1 rfl ?_
      refine z_const hY eX4_pointsAt_21 ?_
      refine z_isub hY eX4_pointsAt_22 ?_
      refine z_callVr (As := [z_i (p - 1)]) (rest := []) (r := .ref (B 20 (κ 20 2 (p - 1)))) hY eX4_pointsAt_23 (c_get hG hJ hB hV (by omega) (by omega)) (cH_at (t := 7) (i := 2) hJ (by omega)) (by decide) (Nat.le_of_ble_eq_true rfl) ⟨Nat.zero_le _, Nat.zero_le _⟩ ?_
      have hc1 := hrw 2 (p - 1) (by omega) (by omega) (by omega) (by omega)
      refine z_cast hY eX4_pointsAt_26 (ci := 0) (nm := "StandingsHall$Entrant") (T := TX0) (N := 11) rfl (cH_at (t := 20) (i := (κ 20 2 (p - 1))) hJ (by omega)) ?_
      refine z_callVr (As := []) (rest := []) (r := z_i (κ 30 (κ 20 2 (p - 1)) 0)) hY eX4_pointsAt_29 (e_points hG hJ hB hV (by omega)) (cH_at (t := 20) (i := (κ 20 2 (p - 1))) hJ (by omega)) (by decide) (Nat.le_of_ble_eq_true rfl) ⟨Nat.zero_le _, Nat.zero_le _⟩ ?_
      have hc2 := hB 30 (κ 20 2 (p - 1)) 0
      refine z_goto hY eX4_pointsAt_32 ?_
      exact z_ireturn hY eX4_pointsAt_36 rfl (by rw [hφ]; exact ⟨congrArg (fun q => some (z_i q)) (by split <;> omega), rfl⟩) ⟨Nat.zero_le _, Nat.zero_le _⟩
theorem s_sharedRank {G : z_G} {D : Nat} {B : Nat → Int → Nat} {κ : c_K} {h : z_H} (hG : z_OK G) (hJ : cJ B κ) (hB : cB κ) (hV : cV κ) {e : Int} (he : -1 ≤ e ∧ e < κ 24 0 0) : z_Tr G mX5_sharedRank [.ref (B 9 0), .ref (B 20 e)] (cH D B κ h) 3 (z_i (sRk κ e)) := by
  obtain ⟨hn, hsz, hrw, hcu, htl, hth⟩ := id hV
  have hs0 := hsz 0 (by omega) (by omega)
  have hs1 := hsz 1 (by omega) (by omega)
  have hs2 := hsz 2 (by omega) (by omega)
  have hs3 := hsz 3 (by omega) (by omega)
  refine z_T_of hG pX5_sharedRank (Nat.le_of_ble_eq_true rfl) (ls0 := [(0, .ref (B 9 0)), (1, .ref (B 20 e))]) rfl fun Y hY hg hmc hms hφ hψ => ?_
  subst hg
  refine z_const hY eX5_sharedRank_0 ?_
  refine z_istore hY eX5_sharedRank_1 (ls' := [(2, z_i 0), (0, .ref (B 9 0)), (1, .ref (B 20 e))]) rfl ?_
  refine z_const hY eX5_sharedRank_2 ?_
  refine z_istore hY eX5_sharedRank_3 (ls' := [(3, z_i 0), (2, z_i 0), (0, .ref (B 9 0)), (1, .ref (B 20 e))]) rfl ?_
  refine z_sub [2, 3, 0, 1] (ls' := [(0, .ref (B 9 0)), (1, .ref (B 20 e)), (3, z_i 0), (2, z_i 0)]) rfl ?_
  have lp4 : ∀ (fu : Nat) (i : Int) (n : Int), (κ 24 1 0 - i).toNat < fu → (0 ≤ i ∧ i ≤ κ 24 1 0) → (n = z_sm (fun i => if κ 34 (κ 20 1 i) 0 ≠ κ 34 e 0 ∧ bI κ (κ 20 1 i) e ≠ 0 then (1 : Int) else 0) i) → (0 ≤ n ∧ n ≤ i) → z_W Y 4 [(0, .ref (B 9 0)), (1, .ref (B 20 e)), (3, z_i i), (2, z_i n)] [] (cH D B κ h) 0 0 := by
    intro fu
    induction fu with
    | zero => intro i n hf; exact absurd hf (Nat.not_lt_zero _)
    | succ fu ih4 =>
      intro i n hf h0 hn hnb
      refine z_iload hY eX5_sharedRank_4 2 rfl ?_
      refine z_aload hY eX5_sharedRank_5 0 rfl ?_
      refine c_gf hY hJ eX5_sharedRank_6 (t := 9) (i := 0) (v := .ref (B 7 1)) (by omega) rfl rfl ?_
      refine z_callVr (As := []) (rest := [z_i i]) (r := z_i (κ 24 1 0)) hY eX5_sharedRank_9 (c_size hG hJ hB hV (by omega)) (cH_at (t := 7) (i := 1) hJ (by omega)) (by decide) (Nat.le_of_ble_eq_true rfl) ⟨Nat.zero_le _, Nat.zero_le _⟩ ?_
      refine z_icmpge hY eX5_sharedRank_12 (by omega) (fun c12 => ?_) (fun c12 => ?_)
      · refine z_iload hY eX5_sharedRank_63 3 rfl ?_
        refine z_const hY eX5_sharedRank_64 ?_
        refine z_iadd hY eX5_sharedRank_65 ?_
        exact z_ireturn hY eX5_sharedRank_66 rfl (by rw [hφ]; exact ⟨congrArg (fun q => some (z_i q)) (by unfold sRk; rw [show κ 24 1 0 = i by omega, ← hn]), rfl⟩) ⟨Nat.zero_le _, Nat.zero_le _⟩
      · refine z_aload hY eX5_sharedRank_15 0 rfl ?_
        refine c_gf hY hJ eX5_sharedRank_16 (t := 9) (i := 0) (v := .ref (B 7 1)) (by omega) rfl rfl ?_
        refine z_iload hY eX5_sharedRank_19 2 rfl ?_
        refine z_callVr (As := [z_i i]) (rest := []) (r := .ref (B 20 (κ 20 1 i))) hY eX5_sharedRank_20 (c_get hG hJ hB hV (by omega) (by omega)) (cH_at (t := 7) (i := 1) hJ (by omega)) (by decide) (Nat.le_of_ble_eq_true rfl) ⟨Nat.zero_le _, Nat.zero_le _⟩ ?_
        have hc1 := hrw 1 i (by omega) (by omega) (by omega) (by omega)
        refine z_cast hY eX5_sharedRank_23 (ci := 0) (nm := "StandingsHall$Entrant") (T := TX0) (N := 11) rfl (cH_at (t := 20) (i := (κ 20 1 i)) hJ (by omega)) ?_
        refine z_astore hY eX5_sharedRank_26 (ls' := [(4, .ref (B 20 (κ 20 1 i))), (0, .ref (B 9 0)), (1, .ref (B 20 e)), (3, z_i i), (2, z_i n)]) rfl ?_
        refine z_iload hY eX5_sharedRank_28 4 rfl ?_
        refine z_aload hY eX5_sharedRank_29 0 rfl ?_
        have hb2 := hB 34 (κ 20 1 i) 0
        refine c_gf hY hJ eX5_sharedRank_31 (t := 20) (i := (κ 20 1 i)) (v := z_i (κ 34 (κ 20 1 i) 0)) (by omega) rfl rfl ?_
        refine z_aload hY eX5_sharedRank_34 2 rfl ?_
        have hb3 := hB 34 e 0
        refine c_gf hY hJ eX5_sharedRank_35 (t := 20) (i := e) (v := z_i (κ 34 e 0)) (by omega) rfl rfl ?_
        refine z_icmpeq hY eX5_sharedRank_38 (by omega) (fun c38 => ?_) (fun c38 => ?_)
        · refine z_const hY eX5_sharedRank_54 ?_
          refine z_iadd hY eX5_sharedRank_55 ?_
          refine z_top (b := n) (by omega) ?_
          refine z_istore hY eX5_sharedRank_56 (ls' := [(2, z_i n), (4, .ref (B 20 (κ 20 1 i))), (0, .ref (B 9 0)), (1, .ref (B 20 e)), (3, z_i i)]) rfl ?_
          refine z_iinc hY eX5_sharedRank_57 4 rfl (ls' := [(3, z_i (i + 1)), (2, z_i n), (4, .ref (B 20 (κ 20 1 i))), (0, .ref (B 9 0)), (1, .ref (B 20 e))]) rfl ?_
          refine z_goto hY eX5_sharedRank_60 ?_
          refine z_sub [3, 4, 0, 1] (ls' := [(0, .ref (B 9 0)), (1, .ref (B 20 e)), (3, z_i (i + 1)), (2, z_i n)]) rfl ?_
          exact ih4 (i + 1) n (by omega) (by omega) (by rw [z_smS (by omega), ← hn]; split <;> omega) (by omega)
        · refine z_aload hY eX5_sharedRank_41 0 rfl ?_
          refine z_aload hY eX5_sharedRank_43 2 rfl ?_
          refine z_callVr (As := [.ref (B 20 e)]) (rest := [z_i n]) (r := z_i (bI κ (κ 20 1 i) e)) hY eX5_sharedRank_44 (e_isBetterThan hG hJ hB hV (by omega) (by omega)) (cH_at (t := 20) (i := (κ 20 1 i)) hJ (by omega)) (by decide) (Nat.le_of_ble_eq_true rfl) ⟨Nat.zero_le _, Nat.zero_le _⟩ ?_
          have hc4 := bI_b κ (κ 20 1 i) e
          refine z_ifeq hY eX5_sharedRank_47 (by omega) (fun c47 => ?_) (fun c47 => ?_)
          · refine z_const hY eX5_sharedRank_54 ?_
            refine z_iadd hY eX5_sharedRank_55 ?_
            refine z_top (b := n) (by omega) ?_
            refine z_istore hY eX5_sharedRank_56 (ls' := [(2, z_i n), (4, .ref (B 20 (κ 20 1 i))), (0, .ref (B 9 0)), (1, .ref (B 20 e)), (3, z_i i)]) rfl ?_
            refine z_iinc hY eX5_sharedRank_57 4 rfl (ls' := [(3, z_i (i + 1)), (2, z_i n), (4, .ref (B 20 (κ 20 1 i))), (0, .ref (B 9 0)), (1, .ref (B 20 e))]) rfl ?_
            refine z_goto hY eX5_sharedRank_60 ?_
            refine z_sub [3, 4, 0, 1] (ls' := [(0, .ref (B 9 0)), (1, .ref (B 20 e)), (3, z_i (i + 1)), (2, z_i n)]) rfl ?_
            exact ih4 (i + 1) n (by omega) (by omega) (by rw [z_smS (by omega), ← hn]; split <;> omega) (by omega)
          · refine z_const hY eX5_sharedRank_50 ?_
            refine z_goto hY eX5_sharedRank_51 ?_
            refine z_iadd hY eX5_sharedRank_55 ?_
            refine z_istore hY eX5_sharedRank_56 (ls' := [(2, z_i (n + 1)), (4, .ref (B 20 (κ 20 1 i))), (0, .ref (B 9 0)), (1, .ref (B 20 e)), (3, z_i i)]) rfl ?_
            refine z_iinc hY eX5_sharedRank_57 4 rfl (ls' := [(3, z_i (i + 1)), (2, z_i (n + 1)), (4, .ref (B 20 (κ 20 1 i))), (0, .ref (B 9 0)), (1, .ref (B 20 e))]) rfl ?_
            refine z_goto hY eX5_sharedRank_60 ?_
            refine z_sub [3, 4, 0, 1] (ls' := [(0, .ref (B 9 0)), (1, .ref (B 20 e)), (3, z_i (i + 1)), (2, z_i (n + 1))]) rfl ?_
            exact ih4 (i + 1) (n + 1) (by omega) (by omega) (by rw [z_smS (by omega), ← hn]; split <;> omega) (by omega)
  exact lp4 _ 0 0 (Nat.lt_succ_self _) (by omega) (z_sm0 (by omega)).symm (by omega)
theorem s_countAhead {G : z_G} {D : Nat} {B : Nat → Int → Nat} {κ : c_K} {h : z_H} (hG : z_OK G) (hJ : cJ B κ) (hB : cB κ) (hV : cV κ) {e : Int} (he : -1 ≤ e ∧ e < κ 24 0 0) : z_Tr G mX5_countAhead [.ref (B 9 0), .ref (B 20 e)] (cH D B κ h) 3 (z_i (cAh κ e)) := by
  obtain ⟨hn, hsz, hrw, hcu, htl, hth⟩ := id hV
  have hs0 := hsz 0 (by omega) (by omega)
  have hs1 := hsz 1 (by omega) (by omega)
  have hs2 := hsz 2 (by omega) (by omega)
  have hs3 := hsz 3 (by omega) (by omega)
  refine z_T_of hG pX5_countAhead (Nat.le_of_ble_eq_true rfl) (ls0 := [(0, .ref (B 9 0)), (1, .ref (B 20 e))]) rfl fun Y hY hg hmc hms hφ hψ => ?_
  subst hg
  refine z_const hY eX5_countAhead_0 ?_
  refine z_istore hY eX5_countAhead_1 (ls' := [(2, z_i 0), (0, .ref (B 9 0)), (1, .ref (B 20 e))]) rfl ?_
  refine z_const hY eX5_countAhead_2 ?_
  refine z_istore hY eX5_countAhead_3 (ls' := [(3, z_i 0), (2, z_i 0), (0, .ref (B 9 0)), (1, .ref (B 20 e))]) rfl ?_
  refine z_sub [2, 3, 0, 1] (ls' := [(0, .ref (B 9 0)), (1, .ref (B 20 e)), (3, z_i 0), (2, z_i 0)]) rfl ?_
  have lp4 : ∀ (fu : Nat) (i : Int) (n : Int), (κ 24 1 0 - i).toNat < fu → (0 ≤ i ∧ i ≤ κ 24 1 0) → (n = z_sm (fun i => if κ 34 (κ 20 1 i) 0 ≠ κ 34 e 0 ∧ hI κ (κ 20 1 i) e ≠ 0 then (1 : Int) else 0) i) → (0 ≤ n ∧ n ≤ i) → z_W Y 4 [(0, .ref (B 9 0)), (1, .ref (B 20 e)), (3, z_i i), (2, z_i n)] [] (cH D B κ h) 0 0 := by
    intro fu
    induction fu with
    | zero => intro i n hf; exact absurd hf (Nat.not_lt_zero _)
    | succ fu ih4 =>
      intro i n hf h0 hn hnb
      refine z_iload hY eX5_countAhead_4 2 rfl ?_
      refine z_aload hY eX5_countAhead_5 0 rfl ?_
      refine c_gf hY hJ eX5_countAhead_6 (t := 9) (i := 0) (v := .ref (B 7 1)) (by omega) rfl rfl ?_
      refine z_callVr (As := []) (rest := [z_i i]) (r := z_i (κ 24 1 0)) hY eX5_countAhead_9 (c_size hG hJ hB hV (by omega)) (cH_at (t := 7) (i := 1) hJ (by omega)) (by decide) (Nat.le_of_ble_eq_true rfl) ⟨Nat.zero_le _, Nat.zero_le _⟩ ?_
      refine z_icmpge hY eX5_countAhead_12 (by omega) (fun c12 => ?_) (fun c12 => ?_)
      · refine z_iload hY eX5_countAhead_63 3 rfl ?_
        exact z_ireturn hY eX5_countAhead_64 rfl (by rw [hφ]; exact ⟨congrArg (fun q => some (z_i q)) (by unfold cAh; rw [show κ 24 1 0 = i by omega, ← hn]), rfl⟩) ⟨Nat.zero_le _, Nat.zero_le _⟩
      · refine z_aload hY eX5_countAhead_15 0 rfl ?_
        refine c_gf hY hJ eX5_countAhead_16 (t := 9) (i := 0) (v := .ref (B 7 1)) (by omega) rfl rfl ?_
        refine z_iload hY eX5_countAhead_19 2 rfl ?_
        refine z_callVr (As := [z_i i]) (rest := []) (r := .ref (B 20 (κ 20 1 i))) hY eX5_countAhead_20 (c_get hG hJ hB hV (by omega) (by omega)) (cH_at (t := 7) (i := 1) hJ (by omega)) (by decide) (Nat.le_of_ble_eq_true rfl) ⟨Nat.zero_le _, Nat.zero_le _⟩ ?_
        have hc1 := hrw 1 i (by omega) (by omega) (by omega) (by omega)
        refine z_cast hY eX5_countAhead_23 (ci := 0) (nm := "StandingsHall$Entrant") (T := TX0) (N := 11) rfl (cH_at (t := 20) (i := (κ 20 1 i)) hJ (by omega)) ?_
        refine z_astore hY eX5_countAhead_26 (ls' := [(4, .ref (B 20 (κ 20 1 i))), (0, .ref (B 9 0)), (1, .ref (B 20 e)), (3, z_i i), (2, z_i n)]) rfl ?_
        refine z_iload hY eX5_countAhead_28 4 rfl ?_
        refine z_aload hY eX5_countAhead_29 0 rfl ?_
        have hb2 := hB 34 (κ 20 1 i) 0
        refine c_gf hY hJ eX5_countAhead_31 (t := 20) (i := (κ 20 1 i)) (v := z_i (κ 34 (κ 20 1 i) 0)) (by omega) rfl rfl ?_
        refine z_aload hY eX5_countAhead_34 2 rfl ?_
        have hb3 := hB 34 e 0
        refine c_gf hY hJ eX5_countAhead_35 (t := 20) (i := e) (v := z_i (κ 34 e 0)) (by omega) rfl rfl ?_
        refine z_icmpeq hY eX5_countAhead_38 (by omega) (fun c38 => ?_) (fun c38 => ?_)
        · refine z_const hY eX5_countAhead_54 ?_
          refine z_iadd hY eX5_countAhead_55 ?_
          refine z_top (b := n) (by omega) ?_
          refine z_istore hY eX5_countAhead_56 (ls' := [(2, z_i n), (4, .ref (B 20 (κ 20 1 i))), (0, .ref (B 9 0)), (1, .ref (B 20 e)), (3, z_i i)]) rfl ?_
          refine z_iinc hY eX5_countAhead_57 4 rfl (ls' := [(3, z_i (i + 1)), (2, z_i n), (4, .ref (B 20 (κ 20 1 i))), (0, .ref (B 9 0)), (1, .ref (B 20 e))]) rfl ?_
          refine z_goto hY eX5_countAhead_60 ?_
          refine z_sub [3, 4, 0, 1] (ls' := [(0, .ref (B 9 0)), (1, .ref (B 20 e)), (3, z_i (i + 1)), (2, z_i n)]) rfl ?_
          exact ih4 (i + 1) n (by omega) (by omega) (by rw [z_smS (by omega), ← hn]; split <;> omega) (by omega)
        · refine z_aload hY eX5_countAhead_41 0 rfl ?_
          refine z_aload hY eX5_countAhead_43 2 rfl ?_
          refine z_callVr (As := [.ref (B 20 e)]) (rest := [z_i n]) (r := z_i (hI κ (κ 20 1 i) e)) hY eX5_countAhead_44 (e_isAheadOf hG hJ hB hV (by omega) (by omega)) (cH_at (t := 20) (i := (κ 20 1 i)) hJ (by omega)) (by decide) (Nat.le_of_ble_eq_true rfl) ⟨Nat.zero_le _, Nat.zero_le _⟩ ?_
          have hc4 := hI_b κ (κ 20 1 i) e
          refine z_ifeq hY eX5_countAhead_47 (by omega) (fun c47 => ?_) (fun c47 => ?_)
          · refine z_const hY eX5_countAhead_54 ?_
            refine z_iadd hY eX5_countAhead_55 ?_
            refine z_top (b := n) (by omega) ?_
            refine z_istore hY eX5_countAhead_56 (ls' := [(2, z_i n), (4, .ref (B 20 (κ 20 1 i))), (0, .ref (B 9 0)), (1, .ref (B 20 e)), (3, z_i i)]) rfl ?_
            refine z_iinc hY eX5_countAhead_57 4 rfl (ls' := [(3, z_i (i + 1)), (2, z_i n), (4, .ref (B 20 (κ 20 1 i))), (0, .ref (B 9 0)), (1, .ref (B 20 e))]) rfl ?_
            refine z_goto hY eX5_countAhead_60 ?_
            refine z_sub [3, 4, 0, 1] (ls' := [(0, .ref (B 9 0)), (1, .ref (B 20 e)), (3, z_i (i + 1)), (2, z_i n)]) rfl ?_
            exact ih4 (i + 1) n (by omega) (by omega) (by rw [z_smS (by omega), ← hn]; split <;> omega) (by omega)
          · refine z_const hY eX5_countAhead_50 ?_
            refine z_goto hY eX5_countAhead_51 ?_
            refine z_iadd hY eX5_countAhead_55 ?_
            refine z_istore hY eX5_countAhead_56 (ls' := [(2, z_i (n + 1)), (4, .ref (B 20 (κ 20 1 i))), (0, .ref (B 9 0)), (1, .ref (B 20 e)), (3, z_i i)]) rfl ?_
            refine z_iinc hY eX5_countAhead_57 4 rfl (ls' := [(3, z_i (i + 1)), (2, z_i (n + 1)), (4, .ref (B 20 (κ 20 1 i))), (0, .ref (B 9 0)), (1, .ref (B 20 e))]) rfl ?_
            refine z_goto hY eX5_countAhead_60 ?_
            refine z_sub [3, 4, 0, 1] (ls' := [(0, .ref (B 9 0)), (1, .ref (B 20 e)), (3, z_i (i + 1)), (2, z_i (n + 1))]) rfl ?_
            exact ih4 (i + 1) (n + 1) (by omega) (by omega) (by rw [z_smS (by omega), ← hn]; split <;> omega) (by omega)
  exact lp4 _ 0 0 (Nat.lt_succ_self _) (by omega) (z_sm0 (by omega)).symm (by omega)
theorem s_countAlike {G : z_G} {D : Nat} {B : Nat → Int → Nat} {κ : c_K} {h : z_H} (hG : z_OK G) (hJ : cJ B κ) (hB : cB κ) (hV : cV κ) {e : Int} (he : -1 ≤ e ∧ e < κ 24 0 0) : z_Tr G mX5_countAlike [.ref (B 9 0), .ref (B 20 e)] (cH D B κ h) 3 (z_i (cAl κ e)) := by
  obtain ⟨hn, hsz, hrw, hcu, htl, hth⟩ := id hV
  have hs0 := hsz 0 (by omega) (by omega)
  have hs1 := hsz 1 (by omega) (by omega)
  have hs2 := hsz 2 (by omega) (by omega)
  have hs3 := hsz 3 (by omega) (by omega)
  refine z_T_of hG pX5_countAlike (Nat.le_of_ble_eq_true rfl) (ls0 := [(0, .ref (B 9 0)), (1, .ref (B 20 e))]) rfl fun Y hY hg hmc hms hφ hψ => ?_
  subst hg
  refine z_const hY eX5_countAlike_0 ?_
  refine z_istore hY eX5_countAlike_1 (ls' := [(2, z_i 0), (0, .ref (B 9 0)), (1, .ref (B 20 e))]) rfl ?_
  refine z_const hY eX5_countAlike_2 ?_
  refine z_istore hY eX5_countAlike_3 (ls' := [(3, z_i 0), (2, z_i 0), (0, .ref (B 9 0)), (1, .ref (B 20 e))]) rfl ?_
  refine z_sub [2, 3, 0, 1] (ls' := [(0, .ref (B 9 0)), (1, .ref (B 20 e)), (3, z_i 0), (2, z_i 0)]) rfl ?_
  have lp4 : ∀ (fu : Nat) (i : Int) (n : Int), (κ 24 1 0 - i).toNat < fu → (0 ≤ i ∧ i ≤ κ 24 1 0) → (n = z_sm (fun i => if aI κ (κ 20 1 i) e ≠ 0 then (1 : Int) else 0) i) → (0 ≤ n ∧ n ≤ i) → z_W Y 4 [(0, .ref (B 9 0)), (1, .ref (B 20 e)), (3, z_i i), (2, z_i n)] [] (cH D B κ h) 0 0 := by
    intro fu
    induction fu with
    | zero => intro i n hf; exact absurd hf (Nat.not_lt_zero _)
    | succ fu ih4 =>
      intro i n hf h0 hn hnb
      refine z_iload hY eX5_countAlike_4 2 rfl ?_
      refine z_aload hY eX5_countAlike_5 0 rfl ?_
      refine c_gf hY hJ eX5_countAlike_6 (t := 9) (i := 0) (v := .ref (B 7 1)) (by omega) rfl rfl ?_
      refine z_callVr (As := []) (rest := [z_i i]) (r := z_i (κ 24 1 0)) hY eX5_countAlike_9 (c_size hG hJ hB hV (by omega)) (cH_at (t := 7) (i := 1) hJ (by omega)) (by decide) (Nat.le_of_ble_eq_true rfl) ⟨Nat.zero_le _, Nat.zero_le _⟩ ?_
      refine z_icmpge hY eX5_countAlike_12 (by omega) (fun c12 => ?_) (fun c12 => ?_)
      · refine z_iload hY eX5_countAlike_47 3 rfl ?_
        exact z_ireturn hY eX5_countAlike_48 rfl (by rw [hφ]; exact ⟨congrArg (fun q => some (z_i q)) (by unfold cAl; rw [show κ 24 1 0 = i by omega, ← hn]), rfl⟩) ⟨Nat.zero_le _, Nat.zero_le _⟩
      · refine z_iload hY eX5_countAlike_15 3 rfl ?_
        refine z_aload hY eX5_countAlike_16 0 rfl ?_
        refine c_gf hY hJ eX5_countAlike_17 (t := 9) (i := 0) (v := .ref (B 7 1)) (by omega) rfl rfl ?_
        refine z_iload hY eX5_countAlike_20 2 rfl ?_
        refine z_callVr (As := [z_i i]) (rest := [z_i n]) (r := .ref (B 20 (κ 20 1 i))) hY eX5_countAlike_21 (c_get hG hJ hB hV (by omega) (by omega)) (cH_at (t := 7) (i := 1) hJ (by omega)) (by decide) (Nat.le_of_ble_eq_true rfl) ⟨Nat.zero_le _, Nat.zero_le _⟩ ?_
        have hc1 := hrw 1 i (by omega) (by omega) (by omega) (by omega)
        refine z_cast hY eX5_countAlike_24 (ci := 0) (nm := "StandingsHall$Entrant") (T := TX0) (N := 11) rfl (cH_at (t := 20) (i := (κ 20 1 i)) hJ (by omega)) ?_
        refine z_aload hY eX5_countAlike_27 1 rfl ?_
        refine z_callVr (As := [.ref (B 20 e)]) (rest := [z_i n]) (r := z_i (aI κ (κ 20 1 i) e)) hY eX5_countAlike_28 (e_isAlikeWith hG hJ hB hV (by omega) (by omega)) (cH_at (t := 20) (i := (κ 20 1 i)) hJ (by omega)) (by decide) (Nat.le_of_ble_eq_true rfl) ⟨Nat.zero_le _, Nat.zero_le _⟩ ?_
        have hc2 := aI_b κ (κ 20 1 i) e
        refine z_ifeq hY eX5_countAlike_31 (by omega) (fun c31 => ?_) (fun c31 => ?_)
        · refine z_const hY eX5_countAlike_38 ?_
          refine z_iadd hY eX5_countAlike_39 ?_
          refine z_top (b := n) (by omega) ?_
          refine z_istore hY eX5_countAlike_40 (ls' := [(2, z_i n), (0, .ref (B 9 0)), (1, .ref (B 20 e)), (3, z_i i)]) rfl ?_
          refine z_iinc hY eX5_countAlike_41 3 rfl (ls' := [(3, z_i (i + 1)), (2, z_i n), (0, .ref (B 9 0)), (1, .ref (B 20 e))]) rfl ?_
          refine z_goto hY eX5_countAlike_44 ?_
          refine z_sub [2, 3, 0, 1] (ls' := [(0, .ref (B 9 0)), (1, .ref (B 20 e)), (3, z_i (i + 1)), (2, z_i n)]) rfl ?_
          exact ih4 (i + 1) n (by omega) (by omega) (by rw [z_smS (by omega), ← hn]; split <;> omega) (by omega)
        · refine z_const hY eX5_countAlike_34 ?_
          refine z_goto hY eX5_countAlike_35 ?_
          refine z_iadd hY eX5_countAlike_39 ?_
          refine z_istore hY eX5_countAlike_40 (ls' := [(2, z_i (n + 1)), (0, .ref (B 9 0)), (1, .ref (B 20 e)), (3, z_i i)]) rfl ?_
          refine z_iinc hY eX5_countAlike_41 3 rfl (ls' := [(3, z_i (i + 1)), (2, z_i (n + 1)), (0, .ref (B 9 0)), (1, .ref (B 20 e))]) rfl ?_
          refine z_goto hY eX5_countAlike_44 ?_
          refine z_sub [2, 3, 0, 1] (ls' := [(0, .ref (B 9 0)), (1, .ref (B 20 e)), (3, z_i (i + 1)), (2, z_i (n + 1))]) rfl ?_
          exact ih4 (i + 1) (n + 1) (by omega) (by omega) (by rw [z_smS (by omega), ← hn]; split <;> omega) (by omega)
  exact lp4 _ 0 0 (Nat.lt_succ_self _) (by omega) (z_sm0 (by omega)).symm (by omega)
theorem s_twiceMeanRank {G : z_G} {D : Nat} {B : Nat → Int → Nat} {κ : c_K} {h : z_H} (hG : z_OK G) (hJ : cJ B κ) (hB : cB κ) (hV : cV κ) {e : Int} (he : -1 ≤ e ∧ e < κ 24 0 0) : z_Tr G mX5_twiceMeanRank [.ref (B 9 0), .ref (B 20 e)] (cH D B κ h) 4 (z_i (2 * sRk κ e + cAl κ e - 1)) := by
  obtain ⟨hn, hsz, hrw, hcu, htl, hth⟩ := id hV
  have hs0 := hsz 0 (by omega) (by omega)
  have hs1 := hsz 1 (by omega) (by omega)
  have hs2 := hsz 2 (by omega) (by omega)
  have hs3 := hsz 3 (by omega) (by omega)
  refine z_T_of hG pX5_twiceMeanRank (Nat.le_of_ble_eq_true rfl) (ls0 := [(0, .ref (B 9 0)), (1, .ref (B 20 e))]) rfl fun Y hY hg hmc hms hφ hψ => ?_
  subst hg
  refine z_const hY eX5_twiceMeanRank_0 ?_
  refine z_aload hY eX5_twiceMeanRank_1 0 rfl ?_
  refine z_aload hY eX5_twiceMeanRank_2 1 rfl ?_
  refine z_callVr (As := [.ref (B 20 e)]) (rest := [z_i 2]) (r := z_i (sRk κ e)) hY eX5_twiceMeanRank_3 (s_sharedRank hG hJ hB hV (by omega)) (cH_at (t := 9) (i := 0) hJ (by omega)) (by decide) (Nat.le_of_ble_eq_true rfl) ⟨Nat.zero_le _, Nat.zero_le _⟩ ?_
  have hc1 := sRk_b hV e
  refine z_imul hY eX5_twiceMeanRank_6 ?_
  refine z_aload hY eX5_twiceMeanRank_7 0 rfl ?_
  refine z_aload hY eX5_twiceMeanRank_8 1 rfl ?_
  refine z_callVr (As := [.ref (B 20 e)]) (rest := [z_i (2 * (sRk κ e))]) (r := z_i (cAl κ e)) hY eX5_twiceMeanRank_9 (s_countAlike hG hJ hB hV (by omega)) (cH_at (t := 9) (i := 0) hJ (by omega)) (by decide) (Nat.le_of_ble_eq_true rfl) ⟨Nat.zero_le _, Nat.zero_le _⟩ ?_
  have hc2 := cAl_b hV e
  refine z_iadd hY eX5_twiceMeanRank_12 ?_
  refine z_const hY eX5_twiceMeanRank_13 ?_
  refine z_isub hY eX5_twiceMeanRank_14 ?_
  exact z_ireturn hY eX5_twiceMeanRank_15 rfl (by rw [hφ]; exact ⟨congrArg (fun q => some (z_i q)) (by first | rfl | omega | (simp only [z_bl]; split <;> omega)), rfl⟩) ⟨Nat.zero_le _, Nat.zero_le _⟩
theorem s_beginsResult {G : z_G} {D : Nat} {B : Nat → Int → Nat} {κ : c_K} {h : z_H} (hG : z_OK G) (hJ : cJ B κ) (hB : cB κ) (hV : cV κ) {i : Int} (hi : 0 ≤ i ∧ i < κ 24 1 0) : z_Tr G mX5_beginsResult [.ref (B 9 0), z_i i] (cH D B κ h) 3 (z_i (gI κ i)) := by
  obtain ⟨hn, hsz, hrw, hcu, htl, hth⟩ := id hV
  have hs0 := hsz 0 (by omega) (by omega)
  have hs1 := hsz 1 (by omega) (by omega)
  have hs2 := hsz 2 (by omega) (by omega)
  have hs3 := hsz 3 (by omega) (by omega)
  refine z_T_of hG pX5_beginsResult (Nat.le_of_ble_eq_true rfl) (ls0 := [(0, .ref (B 9 0)), (1, z_i i)]) rfl fun Y hY hg hmc hms hφ hψ => ?_
  subst hg
  refine z_iload hY eX5_beginsResult_0 1 rfl ?_
  refine z_const hY eX5_beginsResult_1 ?_
  refine z_icmplt hY eX5_beginsResult_2 (by omega) (fun c2 => ?_) (fun c2 => ?_)
  · refine z_iload hY eX5_beginsResult_16 1 rfl ?_
    refine z_ifne hY eX5_beginsResult_17 (by omega) (fun c17 => ?_) (fun c17 => ?_)
    · refine z_const hY eX5_beginsResult_24 ?_
      exact z_zreturn hY eX5_beginsResult_25 rfl (by omega) (by rw [hφ]; exact ⟨congrArg (fun q => some (z_i q)) (by unfold gI; (repeat' split) <;> omega), rfl⟩) ⟨Nat.zero_le _, Nat.zero_le _⟩
    · refine z_const hY eX5_beginsResult_20 ?_
      refine z_goto hY eX5_beginsResult_21 ?_
      exact z_zreturn hY eX5_beginsResult_25 rfl (by omega) (by rw [hφ]; exact ⟨congrArg (fun q => some (z_i q)) (by unfold gI; (repeat' split) <;> omega), rfl⟩) ⟨Nat.zero_le _, Nat.zero_le _⟩
  · refine z_iload hY eX5_beginsResult_5 1 rfl ?_
    refine z_aload hY eX5_beginsResult_6 0 rfl ?_
    refine c_gf hY hJ eX5_beginsResult_7 (t := 9) (i := 0) (v := .ref (B 7 1)) (by omega) rfl rfl ?_
    refine z_callVr (As := []) (rest := [z_i i]) (r := z_i (κ 24 1 0)) hY eX5_beginsResult_10 (c_size hG hJ hB hV (by omega)) (cH_at (t := 7) (i := 1) hJ (by omega)) (by decide) (Nat.le_of_ble_eq_true rfl) ⟨Nat.zero_le _, Nat.zero_le _⟩ ?_
    refine z_icmplt hY eX5_beginsResult_13 (by omega) (fun c13 => ?_) (fun c13 => ?_)
    · refine z_aload hY eX5_beginsResult_26 0 rfl ?_
      refine c_gf hY hJ eX5_beginsResult_27 (t := 9) (i := 0) (v := .ref (B 7 1)) (by omega) rfl rfl ?_
      refine z_iload hY eX5_beginsResult_30 1 rfl ?_
      refine z_callVr (As := [z_i i]) (rest := []) (r := .ref (B 20 (κ 20 1 i))) hY eX5_beginsResult_31 (c_get hG hJ hB hV (by omega) (by omega)) (cH_at (t := 7) (i := 1) hJ (by omega)) (by decide) (Nat.le_of_ble_eq_true rfl) ⟨Nat.zero_le _, Nat.zero_le _⟩ ?_
      have hc1 := hrw 1 i (by omega) (by omega) (by omega) (by omega)
      refine z_cast hY eX5_beginsResult_34 (ci := 0) (nm := "StandingsHall$Entrant") (T := TX0) (N := 11) rfl (cH_at (t := 20) (i := (κ 20 1 i)) hJ (by omega)) ?_
      refine z_aload hY eX5_beginsResult_37 0 rfl ?_
      refine c_gf hY hJ eX5_beginsResult_38 (t := 9) (i := 0) (v := .ref (B 7 1)) (by omega) rfl rfl ?_
      refine z_iload hY eX5_beginsResult_41 1 rfl ?_
      refine z_const hY eX5_beginsResult_42 ?_
      refine z_isub hY eX5_beginsResult_43 ?_
      refine z_callVr (As := [z_i (i - 1)]) (rest := [.ref (B 20 (κ 20 1 i))]) (r := .ref (B 20 (κ 20 1 (i - 1)))) hY eX5_beginsResult_44 (c_get hG hJ hB hV (by omega) (by omega)) (cH_at (t := 7) (i := 1) hJ (by omega)) (by decide) (Nat.le_of_ble_eq_true rfl) ⟨Nat.zero_le _, Nat.zero_le _⟩ ?_
      have hc2 := hrw 1 (i - 1) (by omega) (by omega) (by omega) (by omega)
      refine z_cast hY eX5_beginsResult_47 (ci := 0) (nm := "StandingsHall$Entrant") (T := TX0) (N := 11) rfl (cH_at (t := 20) (i := (κ 20 1 (i - 1))) hJ (by omega)) ?_
      refine z_callVr (As := [.ref (B 20 (κ 20 1 (i - 1)))]) (rest := []) (r := z_i (aI κ (κ 20 1 i) (κ 20 1 (i - 1)))) hY eX5_beginsResult_50 (e_isAlikeWith hG hJ hB hV (by omega) (by omega)) (cH_at (t := 20) (i := (κ 20 1 i)) hJ (by omega)) (by decide) (Nat.le_of_ble_eq_true rfl) ⟨Nat.zero_le _, Nat.zero_le _⟩ ?_
      have hc3 := aI_b κ (κ 20 1 i) (κ 20 1 (i - 1))
      refine z_ifne hY eX5_beginsResult_53 (by omega) (fun c53 => ?_) (fun c53 => ?_)
      · refine z_const hY eX5_beginsResult_60 ?_
        exact z_zreturn hY eX5_beginsResult_61 rfl (by omega) (by rw [hφ]; exact ⟨congrArg (fun q => some (z_i q)) (by unfold gI; (repeat' split) <;> omega), rfl⟩) ⟨Nat.zero_le _, Nat.zero_le _⟩
      · refine z_const hY eX5_beginsResult_56 ?_
        refine z_goto hY eX5_beginsResult_57 ?_
        exact z_zreturn hY eX5_beginsResult_61 rfl (by omega) (by rw [hφ]; exact ⟨congrArg (fun q => some (z_i q)) (by unfold gI; (repeat' split) <;> omega), rfl⟩) ⟨Nat.zero_le _, Nat.zero_le _⟩
    · refine z_iload hY eX5_beginsResult_16 1 rfl ?_
      refine z_ifne hY eX5_beginsResult_17 (by omega) (fun c17 => ?_) (fun c17 => ?_)
      · refine z_const hY eX5_beginsResult_24 ?_
        exact z_zreturn hY eX5_beginsResult_25 rfl (by omega) (by rw [hφ]; exact ⟨congrArg (fun q => some (z_i q)) (by unfold gI; (repeat' split) <;> omega), rfl⟩) ⟨Nat.zero_le _, Nat.zero_le _⟩
      · refine z_const hY eX5_beginsResult_20 ?_
        refine z_goto hY eX5_beginsResult_21 ?_
        exact z_zreturn hY eX5_beginsResult_25 rfl (by omega) (by rw [hφ]; exact ⟨congrArg (fun q => some (z_i q)) (by unfold gI; (repeat' split) <;> omega), rfl⟩) ⟨Nat.zero_le _, Nat.zero_le _⟩
theorem s_countResults {G : z_G} {D : Nat} {B : Nat → Int → Nat} {κ : c_K} {h : z_H} (hG : z_OK G) (hJ : cJ B κ) (hB : cB κ) (hV : cV κ)  : z_Tr G mX5_countResults [.ref (B 9 0)] (cH D B κ h) 4 (z_i (cRe κ)) := by
  obtain ⟨hn, hsz, hrw, hcu, htl, hth⟩ := id hV
  have hs0 := hsz 0 (by omega) (by omega)
  have hs1 := hsz 1 (by omega) (by omega)
  have hs2 := hsz 2 (by omega) (by omega)
  have hs3 := hsz 3 (by omega) (by omega)
  refine z_T_of hG pX5_countResults (Nat.le_of_ble_eq_true rfl) (ls0 := [(0, .ref (B 9 0))]) rfl fun Y hY hg hmc hms hφ hψ => ?_
  subst hg
  refine z_const hY eX5_countResults_0 ?_
  refine z_istore hY eX5_countResults_1 (ls' := [(1, z_i 0), (0, .ref (B 9 0))]) rfl ?_
  refine z_const hY eX5_countResults_2 ?_
  refine z_istore hY eX5_countResults_3 (ls' := [(2, z_i 0), (1, z_i 0), (0, .ref (B 9 0))]) rfl ?_
  refine z_sub [2, 0, 1] (ls' := [(0, .ref (B 9 0)), (2, z_i 0), (1, z_i 0)]) rfl ?_
  have lp4 : ∀ (fu : Nat) (i : Int) (n : Int), (κ 24 1 0 - i).toNat < fu → (0 ≤ i ∧ i ≤ κ 24 1 0) → (n = z_sm (fun i => if gI κ i ≠ 0 then (1 : Int) else 0) i) → (0 ≤ n ∧ n ≤ i) → z_W Y 4 [(0, .ref (B 9 0)), (2, z_i i), (1, z_i n)] [] (cH D B κ h) 0 0 := by
    intro fu
    induction fu with
    | zero => intro i n hf; exact absurd hf (Nat.not_lt_zero _)
    | succ fu ih4 =>
      intro i n hf h0 hn hnb
      refine z_iload hY eX5_countResults_4 1 rfl ?_
      refine z_aload hY eX5_countResults_5 0 rfl ?_
      refine c_gf hY hJ eX5_countResults_6 (t := 9) (i := 0) (v := .ref (B 7 1)) (by omega) rfl rfl ?_
      refine z_callVr (As := []) (rest := [z_i i]) (r := z_i (κ 24 1 0)) hY eX5_countResults_9 (c_size hG hJ hB hV (by omega)) (cH_at (t := 7) (i := 1) hJ (by omega)) (by decide) (Nat.le_of_ble_eq_true rfl) ⟨Nat.zero_le _, Nat.zero_le _⟩ ?_
      refine z_icmpge hY eX5_countResults_12 (by omega) (fun c12 => ?_) (fun c12 => ?_)
      · refine z_iload hY eX5_countResults_37 2 rfl ?_
        exact z_ireturn hY eX5_countResults_38 rfl (by rw [hφ]; exact ⟨congrArg (fun q => some (z_i q)) (by unfold cRe; rw [show κ 24 1 0 = i by omega, ← hn]), rfl⟩) ⟨Nat.zero_le _, Nat.zero_le _⟩
      · refine z_iload hY eX5_countResults_15 2 rfl ?_
        refine z_aload hY eX5_countResults_16 0 rfl ?_
        refine z_iload hY eX5_countResults_17 1 rfl ?_
        refine z_callVr (As := [z_i i]) (rest := [z_i n]) (r := z_i (gI κ i)) hY eX5_countResults_18 (s_beginsResult hG hJ hB hV (by omega)) (cH_at (t := 9) (i := 0) hJ (by omega)) (by decide) (Nat.le_of_ble_eq_true rfl) ⟨Nat.zero_le _, Nat.zero_le _⟩ ?_
        have hc1 := gI_b κ i
        refine z_ifeq hY eX5_countResults_21 (by omega) (fun c21 => ?_) (fun c21 => ?_)
        · refine z_const hY eX5_countResults_28 ?_
          refine z_iadd hY eX5_countResults_29 ?_
          refine z_top (b := n) (by omega) ?_
          refine z_istore hY eX5_countResults_30 (ls' := [(1, z_i n), (0, .ref (B 9 0)), (2, z_i i)]) rfl ?_
          refine z_iinc hY eX5_countResults_31 2 rfl (ls' := [(2, z_i (i + 1)), (1, z_i n), (0, .ref (B 9 0))]) rfl ?_
          refine z_goto hY eX5_countResults_34 ?_
          refine z_sub [2, 0, 1] (ls' := [(0, .ref (B 9 0)), (2, z_i (i + 1)), (1, z_i n)]) rfl ?_
          exact ih4 (i + 1) n (by omega) (by omega) (by rw [z_smS (by omega), ← hn]; split <;> omega) (by omega)
        · refine z_const hY eX5_countResults_24 ?_
          refine z_goto hY eX5_countResults_25 ?_
          refine z_iadd hY eX5_countResults_29 ?_
          refine z_istore hY eX5_countResults_30 (ls' := [(1, z_i (n + 1)), (0, .ref (B 9 0)), (2, z_i i)]) rfl ?_
          refine z_iinc hY eX5_countResults_31 2 rfl (ls' := [(2, z_i (i + 1)), (1, z_i (n + 1)), (0, .ref (B 9 0))]) rfl ?_
          refine z_goto hY eX5_countResults_34 ?_
          refine z_sub [2, 0, 1] (ls' := [(0, .ref (B 9 0)), (2, z_i (i + 1)), (1, z_i (n + 1))]) rfl ?_
          exact ih4 (i + 1) (n + 1) (by omega) (by omega) (by rw [z_smS (by omega), ← hn]; split <;> omega) (by omega)
  exact lp4 _ 0 0 (Nat.lt_succ_self _) (by omega) (z_sm0 (by omega)).symm (by omega)
theorem s_denseRank {G : z_G} {D : Nat} {B : Nat → Int → Nat} {κ : c_K} {h : z_H} (hG : z_OK G) (hJ : cJ B κ) (hB : cB κ) (hV : cV κ) {e : Int} (he : -1 ≤ e ∧ e < κ 24 0 0) : z_Tr G mX5_denseRank [.ref (B 9 0), .ref (B 20 e)] (cH D B κ h) 4 (z_i (cDn κ e)) := by
  obtain ⟨hn, hsz, hrw, hcu, htl, hth⟩ := id hV
  have hs0 := hsz 0 (by omega) (by omega)
  have hs1 := hsz 1 (by omega) (by omega)
  have hs2 := hsz 2 (by omega) (by omega)
  have hs3 := hsz 3 (by omega) (by omega)
  refine z_T_of hG pX5_denseRank (Nat.le_of_ble_eq_true rfl) (ls0 := [(0, .ref (B 9 0)), (1, .ref (B 20 e))]) rfl fun Y hY hg hmc hms hφ hψ => ?_
  subst hg
  refine z_const hY eX5_denseRank_0 ?_
  refine z_istore hY eX5_denseRank_1 (ls' := [(2, z_i 0), (0, .ref (B 9 0)), (1, .ref (B 20 e))]) rfl ?_
  refine z_const hY eX5_denseRank_2 ?_
  refine z_istore hY eX5_denseRank_3 (ls' := [(3, z_i 0), (2, z_i 0), (0, .ref (B 9 0)), (1, .ref (B 20 e))]) rfl ?_
  refine z_sub [2, 3, 0, 1] (ls' := [(0, .ref (B 9 0)), (1, .ref (B 20 e)), (3, z_i 0), (2, z_i 0)]) rfl ?_
  have lp4 : ∀ (fu : Nat) (i : Int) (n : Int), (κ 24 1 0 - i).toNat < fu → (0 ≤ i ∧ i ≤ κ 24 1 0) → (n = z_sm (fun i => if gI κ i ≠ 0 then (1 : Int) else 0) i) → (0 ≤ n ∧ n ≤ i) → (z_fwL (fun i => bI κ (κ 20 1 i) e ≠ 0) (κ 24 1 0 - i).toNat i = z_fw (fun i => bI κ (κ 20 1 i) e ≠ 0) (κ 24 1 0)) → z_W Y 4 [(0, .ref (B 9 0)), (1, .ref (B 20 e)), (3, z_i i), (2, z_i n)] [] (cH D B κ h) 0 0 := by
    intro fu
    induction fu with
    | zero => intro i n hf; exact absurd hf (Nat.not_lt_zero _)
    | succ fu ih4 =>
      intro i n hf h0 hn hnb hw
      refine z_iload hY eX5_denseRank_4 2 rfl ?_
      refine z_aload hY eX5_denseRank_5 0 rfl ?_
      refine c_gf hY hJ eX5_denseRank_6 (t := 9) (i := 0) (v := .ref (B 7 1)) (by omega) rfl rfl ?_
      refine z_callVr (As := []) (rest := [z_i i]) (r := z_i (κ 24 1 0)) hY eX5_denseRank_9 (c_size hG hJ hB hV (by omega)) (cH_at (t := 7) (i := 1) hJ (by omega)) (by decide) (Nat.le_of_ble_eq_true rfl) ⟨Nat.zero_le _, Nat.zero_le _⟩ ?_
      refine z_icmpge hY eX5_denseRank_12 (by omega) (fun c12 => ?_) (fun c12 => ?_)
      · refine z_iload hY eX5_denseRank_55 3 rfl ?_
        refine z_const hY eX5_denseRank_56 ?_
        refine z_iadd hY eX5_denseRank_57 ?_
        exact z_ireturn hY eX5_denseRank_58 rfl (by rw [hφ]; exact ⟨congrArg (fun q => some (z_i q)) (by unfold cDn; rw [← hw, z_fw_f (by omega), ← hn]), rfl⟩) ⟨Nat.zero_le _, Nat.zero_le _⟩
      · refine z_aload hY eX5_denseRank_15 0 rfl ?_
        refine c_gf hY hJ eX5_denseRank_16 (t := 9) (i := 0) (v := .ref (B 7 1)) (by omega) rfl rfl ?_
        refine z_iload hY eX5_denseRank_19 2 rfl ?_
        refine z_callVr (As := [z_i i]) (rest := []) (r := .ref (B 20 (κ 20 1 i))) hY eX5_denseRank_20 (c_get hG hJ hB hV (by omega) (by omega)) (cH_at (t := 7) (i := 1) hJ (by omega)) (by decide) (Nat.le_of_ble_eq_true rfl) ⟨Nat.zero_le _, Nat.zero_le _⟩ ?_
        have hc1 := hrw 1 i (by omega) (by omega) (by omega) (by omega)
        refine z_cast hY eX5_denseRank_23 (ci := 0) (nm := "StandingsHall$Entrant") (T := TX0) (N := 11) rfl (cH_at (t := 20) (i := (κ 20 1 i)) hJ (by omega)) ?_
        refine z_aload hY eX5_denseRank_26 1 rfl ?_
        refine z_callVr (As := [.ref (B 20 e)]) (rest := []) (r := z_i (bI κ (κ 20 1 i) e)) hY eX5_denseRank_27 (e_isBetterThan hG hJ hB hV (by omega) (by omega)) (cH_at (t := 20) (i := (κ 20 1 i)) hJ (by omega)) (by decide) (Nat.le_of_ble_eq_true rfl) ⟨Nat.zero_le _, Nat.zero_le _⟩ ?_
        have hc2 := bI_b κ (κ 20 1 i) e
        refine z_ifeq hY eX5_denseRank_30 (by omega) (fun c30 => ?_) (fun c30 => ?_)
        · refine z_iload hY eX5_denseRank_55 3 rfl ?_
          refine z_const hY eX5_denseRank_56 ?_
          refine z_iadd hY eX5_denseRank_57 ?_
          exact z_ireturn hY eX5_denseRank_58 rfl (by rw [hφ]; exact ⟨congrArg (fun q => some (z_i q)) (by unfold cDn; rw [← hw, z_fw_f (by omega), ← hn]), rfl⟩) ⟨Nat.zero_le _, Nat.zero_le _⟩
        · refine z_iload hY eX5_denseRank_33 3 rfl ?_
          refine z_aload hY eX5_denseRank_34 0 rfl ?_
          refine z_iload hY eX5_denseRank_35 2 rfl ?_
          refine z_callVr (As := [z_i i]) (rest := [z_i n]) (r := z_i (gI κ i)) hY eX5_denseRank_36 (s_beginsResult hG hJ hB hV (by omega)) (cH_at (t := 9) (i := 0) hJ (by omega)) (by decide) (Nat.le_of_ble_eq_true rfl) ⟨Nat.zero_le _, Nat.zero_le _⟩ ?_
          have hc3 := gI_b κ i
          refine z_ifeq hY eX5_denseRank_39 (by omega) (fun c39 => ?_) (fun c39 => ?_)
          · refine z_const hY eX5_denseRank_46 ?_
            refine z_iadd hY eX5_denseRank_47 ?_
            refine z_top (b := n) (by omega) ?_
            refine z_istore hY eX5_denseRank_48 (ls' := [(2, z_i n), (0, .ref (B 9 0)), (1, .ref (B 20 e)), (3, z_i i)]) rfl ?_
            refine z_iinc hY eX5_denseRank_49 3 rfl (ls' := [(3, z_i (i + 1)), (2, z_i n), (0, .ref (B 9 0)), (1, .ref (B 20 e))]) rfl ?_
            refine z_goto hY eX5_denseRank_52 ?_
            refine z_sub [2, 3, 0, 1] (ls' := [(0, .ref (B 9 0)), (1, .ref (B 20 e)), (3, z_i (i + 1)), (2, z_i n)]) rfl ?_
            exact ih4 (i + 1) n (by omega) (by omega) (by rw [z_smS (by omega), ← hn]; split <;> omega) (by omega) ((z_fw_t (by omega) (by omega)).symm.trans hw)
          · refine z_const hY eX5_denseRank_42 ?_
            refine z_goto hY eX5_denseRank_43 ?_
            refine z_iadd hY eX5_denseRank_47 ?_
            refine z_istore hY eX5_denseRank_48 (ls' := [(2, z_i (n + 1)), (0, .ref (B 9 0)), (1, .ref (B 20 e)), (3, z_i i)]) rfl ?_
            refine z_iinc hY eX5_denseRank_49 3 rfl (ls' := [(3, z_i (i + 1)), (2, z_i (n + 1)), (0, .ref (B 9 0)), (1, .ref (B 20 e))]) rfl ?_
            refine z_goto hY eX5_denseRank_52 ?_
            refine z_sub [2, 3, 0, 1] (ls' := [(0, .ref (B 9 0)), (1, .ref (B 20 e)), (3, z_i (i + 1)), (2, z_i (n + 1))]) rfl ?_
            exact ih4 (i + 1) (n + 1) (by omega) (by omega) (by rw [z_smS (by omega), ← hn]; split <;> omega) (by omega) ((z_fw_t (by omega) (by omega)).symm.trans hw)
  exact lp4 _ 0 0 (Nat.lt_succ_self _) (by omega) (z_sm0 (by omega)).symm (by omega) rfl
theorem s_countOf {G : z_G} {D : Nat} {B : Nat → Int → Nat} {κ : c_K} {h : z_H} (hG : z_OK G) (hJ : cJ B κ) (hB : cB κ) (hV : cV κ) {g : Int} (hg : -2147483648 ≤ g ∧ g ≤ 2147483647) : z_Tr G mX5_countOf [.ref (B 9 0), z_i g] (cH D B κ h) 3 (z_i (cOf κ g)) := by
  obtain ⟨hn, hsz, hrw, hcu, htl, hth⟩ := id hV
  have hs0 := hsz 0 (by omega) (by omega)
  have hs1 := hsz 1 (by omega) (by omega)
  have hs2 := hsz 2 (by omega) (by omega)
  have hs3 := hsz 3 (by omega) (by omega)
  refine z_T_of hG pX5_countOf (Nat.le_of_ble_eq_true rfl) (ls0 := [(0, .ref (B 9 0)), (1, z_i g)]) rfl fun Y hY hg hmc hms hφ hψ => ?_
  subst hg
  refine z_const hY eX5_countOf_0 ?_
  refine z_istore hY eX5_countOf_1 (ls' := [(2, z_i 0), (0, .ref (B 9 0)), (1, z_i g)]) rfl ?_
  refine z_const hY eX5_countOf_2 ?_
  refine z_istore hY eX5_countOf_3 (ls' := [(3, z_i 0), (2, z_i 0), (0, .ref (B 9 0)), (1, z_i g)]) rfl ?_
  refine z_sub [2, 3, 0, 1] (ls' := [(0, .ref (B 9 0)), (1, z_i g), (3, z_i 0), (2, z_i 0)]) rfl ?_
  have lp4 : ∀ (fu : Nat) (i : Int) (n : Int), (κ 24 1 0 - i).toNat < fu → (0 ≤ i ∧ i ≤ κ 24 1 0) → (n = z_sm (fun i => if κ 35 (κ 20 1 i) 0 = g then (1 : Int) else 0) i) → (0 ≤ n ∧ n ≤ i) → z_W Y 4 [(0, .ref (B 9 0)), (1, z_i g), (3, z_i i), (2, z_i n)] [] (cH D B κ h) 0 0 := by
    intro fu
    induction fu with
    | zero => intro i n hf; exact absurd hf (Nat.not_lt_zero _)
    | succ fu ih4 =>
      intro i n hf h0 hn hnb
      refine z_iload hY eX5_countOf_4 2 rfl ?_
      refine z_aload hY eX5_countOf_5 0 rfl ?_
      refine c_gf hY hJ eX5_countOf_6 (t := 9) (i := 0) (v := .ref (B 7 1)) (by omega) rfl rfl ?_
      refine z_callVr (As := []) (rest := [z_i i]) (r := z_i (κ 24 1 0)) hY eX5_countOf_9 (c_size hG hJ hB hV (by omega)) (cH_at (t := 7) (i := 1) hJ (by omega)) (by decide) (Nat.le_of_ble_eq_true rfl) ⟨Nat.zero_le _, Nat.zero_le _⟩ ?_
      refine z_icmpge hY eX5_countOf_12 (by omega) (fun c12 => ?_) (fun c12 => ?_)
      · refine z_iload hY eX5_countOf_47 3 rfl ?_
        exact z_ireturn hY eX5_countOf_48 rfl (by rw [hφ]; exact ⟨congrArg (fun q => some (z_i q)) (by unfold cOf; rw [show κ 24 1 0 = i by omega, ← hn]), rfl⟩) ⟨Nat.zero_le _, Nat.zero_le _⟩
      · refine z_iload hY eX5_countOf_15 3 rfl ?_
        refine z_aload hY eX5_countOf_16 0 rfl ?_
        refine c_gf hY hJ eX5_countOf_17 (t := 9) (i := 0) (v := .ref (B 7 1)) (by omega) rfl rfl ?_
        refine z_iload hY eX5_countOf_20 2 rfl ?_
        refine z_callVr (As := [z_i i]) (rest := [z_i n]) (r := .ref (B 20 (κ 20 1 i))) hY eX5_countOf_21 (c_get hG hJ hB hV (by omega) (by omega)) (cH_at (t := 7) (i := 1) hJ (by omega)) (by decide) (Nat.le_of_ble_eq_true rfl) ⟨Nat.zero_le _, Nat.zero_le _⟩ ?_
        have hc1 := hrw 1 i (by omega) (by omega) (by omega) (by omega)
        refine z_cast hY eX5_countOf_24 (ci := 0) (nm := "StandingsHall$Entrant") (T := TX0) (N := 11) rfl (cH_at (t := 20) (i := (κ 20 1 i)) hJ (by omega)) ?_
        have hb2 := hB 35 (κ 20 1 i) 0
        refine c_gfN hY hJ eX5_countOf_27 (t := 20) (i := (κ 20 1 i)) (v := z_i (κ 35 (κ 20 1 i) 0)) (by omega) rfl rfl ?_
        refine z_iload hY eX5_countOf_30 1 rfl ?_
        refine z_icmpne hY eX5_countOf_31 (by omega) (fun c31 => ?_) (fun c31 => ?_)
        · refine z_const hY eX5_countOf_38 ?_
          refine z_iadd hY eX5_countOf_39 ?_
          refine z_top (b := n) (by omega) ?_
          refine z_istore hY eX5_countOf_40 (ls' := [(2, z_i n), (0, .ref (B 9 0)), (1, z_i g), (3, z_i i)]) rfl ?_
          refine z_iinc hY eX5_countOf_41 3 rfl (ls' := [(3, z_i (i + 1)), (2, z_i n), (0, .ref (B 9 0)), (1, z_i g)]) rfl ?_
          refine z_goto hY eX5_countOf_44 ?_
          refine z_sub [2, 3, 0, 1] (ls' := [(0, .ref (B 9 0)), (1, z_i g), (3, z_i (i + 1)), (2, z_i n)]) rfl ?_
          exact ih4 (i + 1) n (by omega) (by omega) (by rw [z_smS (by omega), ← hn]; split <;> omega) (by omega)
        · refine z_const hY eX5_countOf_34 ?_
          refine z_goto hY eX5_countOf_35 ?_
          refine z_iadd hY eX5_countOf_39 ?_
          refine z_istore hY eX5_countOf_40 (ls' := [(2, z_i (n + 1)), (0, .ref (B 9 0)), (1, z_i g), (3, z_i i)]) rfl ?_
          refine z_iinc hY eX5_countOf_41 3 rfl (ls' := [(3, z_i (i + 1)), (2, z_i (n + 1)), (0, .ref (B 9 0)), (1, z_i g)]) rfl ?_
          refine z_goto hY eX5_countOf_44 ?_
          refine z_sub [2, 3, 0, 1] (ls' := [(0, .ref (B 9 0)), (1, z_i g), (3, z_i (i + 1)), (2, z_i (n + 1))]) rfl ?_
          exact ih4 (i + 1) (n + 1) (by omega) (by omega) (by rw [z_smS (by omega), ← hn]; split <;> omega) (by omega)
  exact lp4 _ 0 0 (Nat.lt_succ_self _) (by omega) (z_sm0 (by omega)).symm (by omega)
theorem s_firstPlaceOf {G : z_G} {D : Nat} {B : Nat → Int → Nat} {κ : c_K} {h : z_H} (hG : z_OK G) (hJ : cJ B κ) (hB : cB κ) (hV : cV κ) {g : Int} (hg : -2147483648 ≤ g ∧ g ≤ 2147483647) : z_Tr G mX5_firstPlaceOf [.ref (B 9 0), z_i g] (cH D B κ h) 3 (z_i (cFi κ g)) := by
  obtain ⟨hn, hsz, hrw, hcu, htl, hth⟩ := id hV
  have hs0 := hsz 0 (by omega) (by omega)
  have hs1 := hsz 1 (by omega) (by omega)
  have hs2 := hsz 2 (by omega) (by omega)
  have hs3 := hsz 3 (by omega) (by omega)
  refine z_T_of hG pX5_firstPlaceOf (Nat.le_of_ble_eq_true rfl) (ls0 := [(0, .ref (B 9 0)), (1, z_i g)]) rfl fun Y hY hg hmc hms hφ hψ => ?_
  subst hg
  refine z_const hY eX5_firstPlaceOf_0 ?_
  refine z_istore hY eX5_firstPlaceOf_1 (ls' := [(2, z_i 0), (0, .ref (B 9 0)), (1, z_i g)]) rfl ?_
  refine z_sub [1, 2, 0] (ls' := [(0, .ref (B 9 0)), (1, z_i g), (2, z_i 0)]) rfl ?_
  have lp2 : ∀ (fu : Nat) (i : Int), (κ 24 1 0 - i).toNat < fu → (0 ≤ i ∧ i ≤ κ 24 1 0) → (z_fi (fun i => κ 35 (κ 20 1 i) 0 = g) (κ 24 1 0 - i).toNat i = z_ff (fun i => κ 35 (κ 20 1 i) 0 = g) (κ 24 1 0)) → z_W Y 2 [(0, .ref (B 9 0)), (1, z_i g), (2, z_i i)] [] (cH D B κ h) 0 0 := by
    intro fu
    induction fu with
    | zero => intro i hf; exact absurd hf (Nat.not_lt_zero _)
    | succ fu ih2 =>
      intro i hf h0 hn
      refine z_iload hY eX5_firstPlaceOf_2 2 rfl ?_
      refine z_aload hY eX5_firstPlaceOf_3 0 rfl ?_
      refine c_gf hY hJ eX5_firstPlaceOf_4 (t := 9) (i := 0) (v := .ref (B 7 1)) (by omega) rfl rfl ?_
      refine z_callVr (As := []) (rest := [z_i i]) (r := z_i (κ 24 1 0)) hY eX5_firstPlaceOf_7 (c_size hG hJ hB hV (by omega)) (cH_at (t := 7) (i := 1) hJ (by omega)) (by decide) (Nat.le_of_ble_eq_true rfl) ⟨Nat.zero_le _, Nat.zero_le _⟩ ?_
      refine z_icmpge hY eX5_firstPlaceOf_10 (by omega) (fun c10 => ?_) (fun c10 => ?_)
      · refine z_const hY eX5_firstPlaceOf_41 ?_
        exact z_ireturn hY eX5_firstPlaceOf_42 rfl (by rw [hφ]; exact ⟨congrArg (fun q => some (z_i q)) (by have h1 := (z_fi_e (P := fun i => κ 35 (κ 20 1 i) 0 = g) (n := κ 24 1 0) (i := i) (by omega)).symm.trans hn; unfold cFi; rw [← h1, if_pos rfl]), rfl⟩) ⟨Nat.zero_le _, Nat.zero_le _⟩
      · refine z_aload hY eX5_firstPlaceOf_13 0 rfl ?_
        refine c_gf hY hJ eX5_firstPlaceOf_14 (t := 9) (i := 0) (v := .ref (B 7 1)) (by omega) rfl rfl ?_
        refine z_iload hY eX5_firstPlaceOf_17 2 rfl ?_
        refine z_callVr (As := [z_i i]) (rest := []) (r := .ref (B 20 (κ 20 1 i))) hY eX5_firstPlaceOf_18 (c_get hG hJ hB hV (by omega) (by omega)) (cH_at (t := 7) (i := 1) hJ (by omega)) (by decide) (Nat.le_of_ble_eq_true rfl) ⟨Nat.zero_le _, Nat.zero_le _⟩ ?_
        have hc1 := hrw 1 i (by omega) (by omega) (by omega) (by omega)
        refine z_cast hY eX5_firstPlaceOf_21 (ci := 0) (nm := "StandingsHall$Entrant") (T := TX0) (N := 11) rfl (cH_at (t := 20) (i := (κ 20 1 i)) hJ (by omega)) ?_
        have hb2 := hB 35 (κ 20 1 i) 0
        refine c_gfN hY hJ eX5_firstPlaceOf_24 (t := 20) (i := (κ 20 1 i)) (v := z_i (κ 35 (κ 20 1 i) 0)) (by omega) rfl rfl ?_
        refine z_iload hY eX5_firstPlaceOf_27 1 rfl ?_
        refine z_icmpne hY eX5_firstPlaceOf_28 (by omega) (fun c28 => ?_) (fun c28 => ?_)
        · refine z_iinc hY eX5_firstPlaceOf_35 2 rfl (ls' := [(2, z_i (i + 1)), (0, .ref (B 9 0)), (1, z_i g)]) rfl ?_
          refine z_goto hY eX5_firstPlaceOf_38 ?_
          refine z_sub [1, 2, 0] (ls' := [(0, .ref (B 9 0)), (1, z_i g), (2, z_i (i + 1))]) rfl ?_
          exact ih2 (i + 1) (by omega) (by omega) ((z_fi_f (by omega) (by omega)).symm.trans hn)
        · refine z_iload hY eX5_firstPlaceOf_31 2 rfl ?_
          refine z_const hY eX5_firstPlaceOf_32 ?_
          refine z_iadd hY eX5_firstPlaceOf_33 ?_
          exact z_ireturn hY eX5_firstPlaceOf_34 rfl (by rw [hφ]; exact ⟨congrArg (fun q => some (z_i q)) (by have h1 := (z_fi_t (P := fun i => κ 35 (κ 20 1 i) 0 = g) (n := κ 24 1 0) (i := i) (by omega) (by omega)).symm.trans hn; unfold cFi; rw [← h1, if_neg (by omega)]), rfl⟩) ⟨Nat.zero_le _, Nat.zero_le _⟩
  exact lp2 _ 0 (Nat.lt_succ_self _) (by omega) rfl
theorem l_placeIn {G : z_G} {D : Nat} {B : Nat → Int → Nat} {κ : c_K} {h : z_H} (hG : z_OK G) (hJ : cJ B κ) (hB : cB κ) (hV : cV κ) {e : Int} (he : -1 ≤ e ∧ e < κ 24 0 0) : z_Tr G mX1_placeIn [.ref (B 11 0), .ref (B 20 e)] (cH D B κ h) 3 (z_i (cLp κ e)) := by
  obtain ⟨hn, hsz, hrw, hcu, htl, hth⟩ := id hV
  have hs0 := hsz 0 (by omega) (by omega)
  have hs1 := hsz 1 (by omega) (by omega)
  have hs2 := hsz 2 (by omega) (by omega)
  have hs3 := hsz 3 (by omega) (by omega)
  refine z_T_of hG pX1_placeIn (Nat.le_of_ble_eq_true rfl) (ls0 := [(0, .ref (B 11 0)), (1, .ref (B 20 e))]) rfl fun Y hY hg hmc hms hφ hψ => ?_
  subst hg
  refine z_const hY eX1_placeIn_0 ?_
  refine z_istore hY eX1_placeIn_1 (ls' := [(2, z_i 0), (0, .ref (B 11 0)), (1, .ref (B 20 e))]) rfl ?_
  refine z_sub [1, 2, 0] (ls' := [(0, .ref (B 11 0)), (1, .ref (B 20 e)), (2, z_i 0)]) rfl ?_
  have lp2 : ∀ (fu : Nat) (i : Int), (κ 24 3 0 - i).toNat < fu → (0 ≤ i ∧ i ≤ κ 24 3 0) → (z_fi (fun i => κ 20 3 i = e) (κ 24 3 0 - i).toNat i = z_ff (fun i => κ 20 3 i = e) (κ 24 3 0)) → z_W Y 2 [(0, .ref (B 11 0)), (1, .ref (B 20 e)), (2, z_i i)] [] (cH D B κ h) 0 0 := by
    intro fu
    induction fu with
    | zero => intro i hf; exact absurd hf (Nat.not_lt_zero _)
    | succ fu ih2 =>
      intro i hf h0 hn
      refine z_iload hY eX1_placeIn_2 2 rfl ?_
      refine z_aload hY eX1_placeIn_3 0 rfl ?_
      refine c_gf hY hJ eX1_placeIn_4 (t := 11) (i := 0) (v := .ref (B 7 3)) (by omega) rfl rfl ?_
      refine z_callVr (As := []) (rest := [z_i i]) (r := z_i (κ 24 3 0)) hY eX1_placeIn_7 (c_size hG hJ hB hV (by omega)) (cH_at (t := 7) (i := 3) hJ (by omega)) (by decide) (Nat.le_of_ble_eq_true rfl) ⟨Nat.zero_le _, Nat.zero_le _⟩ ?_
      refine z_icmpge hY eX1_placeIn_10 (by omega) (fun c10 => ?_) (fun c10 => ?_)
      · refine z_const hY eX1_placeIn_35 ?_
        exact z_ireturn hY eX1_placeIn_36 rfl (by rw [hφ]; exact ⟨congrArg (fun q => some (z_i q)) (by have h1 := (z_fi_e (P := fun i => κ 20 3 i = e) (n := κ 24 3 0) (i := i) (by omega)).symm.trans hn; unfold cLp; rw [← h1, if_pos rfl]), rfl⟩) ⟨Nat.zero_le _, Nat.zero_le _⟩
      · refine z_aload hY eX1_placeIn_13 0 rfl ?_
        refine c_gf hY hJ eX1_placeIn_14 (t := 11) (i := 0) (v := .ref (B 7 3)) (by omega) rfl rfl ?_
        refine z_iload hY eX1_placeIn_17 2 rfl ?_
        refine z_callVr (As := [z_i i]) (rest := []) (r := .ref (B 20 (κ 20 3 i))) hY eX1_placeIn_18 (c_get hG hJ hB hV (by omega) (by omega)) (cH_at (t := 7) (i := 3) hJ (by omega)) (by decide) (Nat.le_of_ble_eq_true rfl) ⟨Nat.zero_le _, Nat.zero_le _⟩ ?_
        have hc1 := hrw 3 i (by omega) (by omega) (by omega) (by omega)
        refine z_aload hY eX1_placeIn_21 1 rfl ?_
        refine z_acmpne hY eX1_placeIn_22 (fun c22 => ?_) (fun c22 => ?_)
        · have cc22 : κ 20 3 i ≠ e := fun q => c22 (by rw [q])
          refine z_iinc hY eX1_placeIn_29 2 rfl (ls' := [(2, z_i (i + 1)), (0, .ref (B 11 0)), (1, .ref (B 20 e))]) rfl ?_
          refine z_goto hY eX1_placeIn_32 ?_
          refine z_sub [1, 2, 0] (ls' := [(0, .ref (B 11 0)), (1, .ref (B 20 e)), (2, z_i (i + 1))]) rfl ?_
          exact ih2 (i + 1) (by omega) (by omega) ((z_fi_f (by omega) (by omega)).symm.trans hn)
        · have cc22 : κ 20 3 i = e := (hJ _ _ _ _ (by omega) (by omega) c22).2
          refine z_iload hY eX1_placeIn_25 2 rfl ?_
          refine z_const hY eX1_placeIn_26 ?_
          refine z_iadd hY eX1_placeIn_27 ?_
          exact z_ireturn hY eX1_placeIn_28 rfl (by rw [hφ]; exact ⟨congrArg (fun q => some (z_i q)) (by have h1 := (z_fi_t (P := fun i => κ 20 3 i = e) (n := κ 24 3 0) (i := i) (by omega) (by omega)).symm.trans hn; unfold cLp; rw [← h1, if_neg (by omega)]), rfl⟩) ⟨Nat.zero_le _, Nat.zero_le _⟩
  exact lp2 _ 0 (Nat.lt_succ_self _) (by omega) rfl
theorem s_teamSum {G : z_G} {D : Nat} {B : Nat → Int → Nat} {κ : c_K} {h : z_H} (hG : z_OK G) (hJ : cJ B κ) (hB : cB κ) (hV : cV κ) {g : Int} (hg : -2147483648 ≤ g ∧ g ≤ 2147483647) : z_Tr G mX5_teamSum [.ref (B 9 0), z_i g] (cH D B κ h) 3 (z_i (cTs κ g)) := by
  obtain ⟨hn, hsz, hrw, hcu, htl, hth⟩ := id hV
  have hs0 := hsz 0 (by omega) (by omega)
  have hs1 := hsz 1 (by omega) (by omega)
  have hs2 := hsz 2 (by omega) (by omega)
  have hs3 := hsz 3 (by omega) (by omega)
  refine z_T_of hG pX5_teamSum (Nat.le_of_ble_eq_true rfl) (ls0 := [(0, .ref (B 9 0)), (1, z_i g)]) rfl fun Y hY hg hmc hms hφ hψ => ?_
  subst hg
  refine z_const hY eX5_teamSum_0 ?_
  refine z_istore hY eX5_teamSum_1 (ls' := [(2, z_i 0), (0, .ref (B 9 0)), (1, z_i g)]) rfl ?_
  refine z_const hY eX5_teamSum_2 ?_
  refine z_istore hY eX5_teamSum_3 (ls' := [(3, z_i 0), (2, z_i 0), (0, .ref (B 9 0)), (1, z_i g)]) rfl ?_
  refine z_const hY eX5_teamSum_4 ?_
  refine z_istore hY eX5_teamSum_5 (ls' := [(4, z_i 0), (3, z_i 0), (2, z_i 0), (0, .ref (B 9 0)), (1, z_i g)]) rfl ?_
  refine z_sub [3, 4, 0, 2, 1] (ls' := [(0, .ref (B 9 0)), (1, z_i g), (4, z_i 0), (2, z_i 0), (3, z_i 0)]) rfl ?_
  have lp7 : ∀ (fu : Nat) (i : Int) (c : Int) (t : Int), (κ 24 1 0 - i).toNat < fu → (0 ≤ i ∧ i ≤ κ 24 1 0 ∧ 0 ≤ c ∧ c ≤ 3) → (tsL κ g (κ 24 1 0 - i).toNat i c t = cTs κ g) → z_W Y 7 [(0, .ref (B 9 0)), (1, z_i g), (4, z_i i), (2, z_i c), (3, z_i t)] [] (cH D B κ h) 0 0 := by
    intro fu
    induction fu with
    | zero => intro i c t hf; exact absurd hf (Nat.not_lt_zero _)
    | succ fu ih7 =>
      intro i c t hf h0 hn
      refine z_iload hY eX5_teamSum_7 2 rfl ?_
      refine z_aload hY eX5_teamSum_9 0 rfl ?_
      refine c_gf hY hJ eX5_teamSum_10 (t := 9) (i := 0) (v := .ref (B 7 1)) (by omega) rfl rfl ?_
      refine z_callVr (As := []) (rest := [z_i i]) (r := z_i (κ 24 1 0)) hY eX5_teamSum_13 (c_size hG hJ hB hV (by omega)) (cH_at (t := 7) (i := 1) hJ (by omega)) (by decide) (Nat.le_of_ble_eq_true rfl) ⟨Nat.zero_le _, Nat.zero_le _⟩ ?_
      refine z_icmpge hY eX5_teamSum_16 (by omega) (fun c16 => ?_) (fun c16 => ?_)
      · refine z_iload hY eX5_teamSum_59 3 rfl ?_
        refine z_const hY eX5_teamSum_60 ?_
        refine z_icmpne hY eX5_teamSum_61 (by omega) (fun c61 => ?_) (fun c61 => ?_)
        · refine z_const hY eX5_teamSum_68 ?_
          exact z_ireturn hY eX5_teamSum_69 rfl (by rw [hφ]; exact ⟨congrArg (fun q => some (z_i q)) (by rw [← hn, ts_e (by omega)]; split <;> omega), rfl⟩) ⟨Nat.zero_le _, Nat.zero_le _⟩
        · refine z_iload hY eX5_teamSum_64 4 rfl ?_
          refine z_goto hY eX5_teamSum_65 ?_
          exact z_ireturn hY eX5_teamSum_69 rfl (by rw [hφ]; exact ⟨congrArg (fun q => some (z_i q)) (by rw [← hn, ts_e (by omega)]; split <;> omega), rfl⟩) ⟨Nat.zero_le _, Nat.zero_le _⟩
      · refine z_iload hY eX5_teamSum_19 3 rfl ?_
        refine z_const hY eX5_teamSum_20 ?_
        refine z_icmpge hY eX5_teamSum_21 (by omega) (fun c21 => ?_) (fun c21 => ?_)
        · refine z_iload hY eX5_teamSum_59 3 rfl ?_
          refine z_const hY eX5_teamSum_60 ?_
          refine z_icmpne hY eX5_teamSum_61 (by omega) (fun c61 => ?_) (fun c61 => ?_)
          · refine z_const hY eX5_teamSum_68 ?_
            exact z_ireturn hY eX5_teamSum_69 rfl (by rw [hφ]; exact ⟨congrArg (fun q => some (z_i q)) (by rw [← hn, ts_e (by omega)]; split <;> omega), rfl⟩) ⟨Nat.zero_le _, Nat.zero_le _⟩
          · refine z_iload hY eX5_teamSum_64 4 rfl ?_
            refine z_goto hY eX5_teamSum_65 ?_
            exact z_ireturn hY eX5_teamSum_69 rfl (by rw [hφ]; exact ⟨congrArg (fun q => some (z_i q)) (by rw [← hn, ts_e (by omega)]; split <;> omega), rfl⟩) ⟨Nat.zero_le _, Nat.zero_le _⟩
        · refine z_aload hY eX5_teamSum_24 0 rfl ?_
          refine c_gf hY hJ eX5_teamSum_25 (t := 9) (i := 0) (v := .ref (B 7 1)) (by omega) rfl rfl ?_
          refine z_iload hY eX5_teamSum_28 2 rfl ?_
          refine z_callVr (As := [z_i i]) (rest := []) (r := .ref (B 20 (κ 20 1 i))) hY eX5_teamSum_30 (c_get hG hJ hB hV (by omega) (by omega)) (cH_at (t := 7) (i := 1) hJ (by omega)) (by decide) (Nat.le_of_ble_eq_true rfl) ⟨Nat.zero_le _, Nat.zero_le _⟩ ?_
          have hc1 := hrw 1 i (by omega) (by omega) (by omega) (by omega)
          refine z_cast hY eX5_teamSum_33 (ci := 0) (nm := "StandingsHall$Entrant") (T := TX0) (N := 11) rfl (cH_at (t := 20) (i := (κ 20 1 i)) hJ (by omega)) ?_
          have hb2 := hB 35 (κ 20 1 i) 0
          refine c_gfN hY hJ eX5_teamSum_36 (t := 20) (i := (κ 20 1 i)) (v := z_i (κ 35 (κ 20 1 i) 0)) (by omega) rfl rfl ?_
          refine z_iload hY eX5_teamSum_39 1 rfl ?_
          refine z_icmpne hY eX5_teamSum_40 (by omega) (fun c40 => ?_) (fun c40 => ?_)
          · refine z_iinc hY eX5_teamSum_53 2 rfl (ls' := [(4, z_i (i + 1)), (0, .ref (B 9 0)), (1, z_i g), (2, z_i c), (3, z_i t)]) rfl ?_
            refine z_goto hY eX5_teamSum_56 ?_
            refine z_sub [1, 2, 0, 3, 4] (ls' := [(0, .ref (B 9 0)), (1, z_i g), (4, z_i (i + 1)), (2, z_i c), (3, z_i t)]) rfl ?_
            exact ih7 (i + 1) c t (by omega) (by omega) (by first | exact (ts_y (by omega) (by omega) (by omega)).symm.trans hn | exact (ts_n (by omega) (by omega) (by omega)).symm.trans hn)
          · refine z_iinc hY eX5_teamSum_43 3 rfl (ls' := [(2, z_i (c + 1)), (0, .ref (B 9 0)), (1, z_i g), (4, z_i i), (3, z_i t)]) rfl ?_
            refine z_iload hY eX5_teamSum_46 4 rfl ?_
            refine z_iload hY eX5_teamSum_47 3 rfl ?_
            refine z_const hY eX5_teamSum_49 ?_
            refine z_iadd hY eX5_teamSum_50 ?_
            refine z_iadd hY eX5_teamSum_51 ?_
            refine z_top (b := t + i + 1) (by omega) ?_
            refine z_istore hY eX5_teamSum_52 (ls' := [(3, z_i (t + i + 1)), (2, z_i (c + 1)), (0, .ref (B 9 0)), (1, z_i g), (4, z_i i)]) rfl ?_
            refine z_iinc hY eX5_teamSum_53 4 rfl (ls' := [(4, z_i (i + 1)), (3, z_i (t + i + 1)), (2, z_i (c + 1)), (0, .ref (B 9 0)), (1, z_i g)]) rfl ?_
            refine z_goto hY eX5_teamSum_56 ?_
            refine z_sub [3, 4, 0, 2, 1] (ls' := [(0, .ref (B 9 0)), (1, z_i g), (4, z_i (i + 1)), (2, z_i (c + 1)), (3, z_i (t + i + 1))]) rfl ?_
            exact ih7 (i + 1) (c + 1) (t + i + 1) (by omega) (by omega) (by first | exact (ts_y (by omega) (by omega) (by omega)).symm.trans hn | exact (ts_n (by omega) (by omega) (by omega)).symm.trans hn)
  exact lp7 _ 0 0 0 (Nat.lt_succ_self _) (by omega) rfl

end C1
