/-! The hall: forms, and standings that are apart (laid by wip/whole/gen/gm35.py). -/
section D4
theorem z_upb {f : Int → Int} {k v a b : Int} (hf : ∀ j, a ≤ f j ∧ f j ≤ b) (hv : a ≤ v ∧ v ≤ b) : ∀ j, a ≤ z_up f k v j ∧ z_up f k v j ≤ b := by
  intro j
  unfold z_up
  split
  · exact hv
  · exact hf j
theorem k_r_up {κ : c_K} {k : Nat} {i j v : Int} {f : Int → Int} : k_u (k_r κ k i f) k i j v = k_r κ k i (z_up f j v) := by
  refine k_r_u (if_pos rfl) fun q hq => if_neg hq
theorem k_r_r {κ : c_K} {k : Nat} {i : Int} {f g : Int → Int} : k_r (k_r κ k i f) k i g = k_r κ k i g := by
  funext k' i'
  unfold k_r
  (repeat' split) <;> rfl
/-- what a round that lies i rounds back gained -/
def cGn (κ : c_K) (e i : Int) : Int := if κ 1 0 0 - i - 1 < 0 then 0 else κ 32 e ((κ 1 0 0 - i - 1) % 10)
theorem cGn_b {κ : c_K} (hS : cS κ) (e i : Int) : -200000 ≤ cGn κ e i ∧ cGn κ e i ≤ 200000 := by
  have := hS.s32 e ((κ 1 0 0 - i - 1) % 10)
  unfold cGn
  split <;> omega
theorem cGn_up {κ : c_K} {e i : Int} (hi : 0 ≤ i) : z_up (fun j => if 0 ≤ j ∧ j < i then cGn κ e j else κ 2 0 j) i (if κ 1 0 0 - i - 1 < 0 then 0 else κ 32 e ((κ 1 0 0 - i - 1) % 10)) = fun j => if 0 ≤ j ∧ j < i + 1 then cGn κ e j else κ 2 0 j := by
  funext q
  by_cases hq : q = i
  · subst hq
    unfold z_up cGn
    dsimp only
    rw [if_pos rfl, if_pos (show 0 ≤ q ∧ q < q + 1 by omega)]
  · unfold z_up
    dsimp only
    rw [if_neg hq]
    (repeat' split) <;> first | rfl | (exfalso; omega)
def gsL (R : Int → Int) : Nat → Int → Int → Int
  | 0, _, g => g
  | f + 1, j, g => if R g < R j then gsL R f (j + 1) j else gsL R f (j + 1) g
theorem gs_e {R : Int → Int} {n j g : Int} (h : n ≤ j) : gsL R (n - j).toNat j g = g := by
  rw [show (n - j).toNat = 0 by omega]; rfl
theorem gs_y {R : Int → Int} {n j g : Int} (h : j < n) (hc : R g < R j) : gsL R (n - j).toNat j g = gsL R (n - (j + 1)).toNat (j + 1) j := by
  rw [show (n - j).toNat = (n - (j + 1)).toNat + 1 by omega]
  exact if_pos hc
theorem gs_n {R : Int → Int} {n j g : Int} (h : j < n) (hc : ¬ R g < R j) : gsL R (n - j).toNat j g = gsL R (n - (j + 1)).toNat (j + 1) g := by
  rw [show (n - j).toNat = (n - (j + 1)).toNat + 1 by omega]
  exact if_neg hc
theorem gs_b {R : Int → Int} : ∀ (f : Nat) (j g : Int), (gsL R f j g = g ∨ (j ≤ gsL R f j g ∧ gsL R f j g < j + f)) := by
  intro f
  induction f with
  | zero => intro j g; exact Or.inl rfl
  | succ f ih =>
    intro j g
    unfold gsL
    split
    · rcases ih (j + 1) j with h | h <;> omega
    · rcases ih (j + 1) g with h | h <;> omega
theorem gs_congr {R S : Int → Int} {n : Int} (h : ∀ j, 0 ≤ j → j < n → R j = S j) : ∀ (f : Nat) (j g : Int), 0 ≤ j → j + f ≤ n → 0 ≤ g → g < n → gsL R f j g = gsL S f j g := by
  intro f
  induction f with
  | zero => intro j g _ _ _ _; rfl
  | succ f ih =>
    intro j g h1 h2 h3 h4
    unfold gsL
    rw [h g h3 h4, h j h1 (by omega), ih (j + 1) j (by omega) (by omega) h1 (by omega), ih (j + 1) g (by omega) (by omega) h3 h4]
def slL (n : Int) : Nat → (Int → Int) → Int → Int → Int
  | 0, _, _, t => t
  | f + 1, R, i, t => slL n f (z_up R (gsL R (n - (i + 1)).toNat (i + 1) i) (R i)) (i + 1) (t + R (gsL R (n - (i + 1)).toNat (i + 1) i))
theorem sl_e {n k i t : Int} {R : Int → Int} (h : k ≤ i) : slL n (k - i).toNat R i t = t := by
  rw [show (k - i).toNat = 0 by omega]; rfl
theorem sl_s {n k i t : Int} {R : Int → Int} (h : i < k) : slL n (k - i).toNat R i t = slL n (k - (i + 1)).toNat (z_up R (gsL R (n - (i + 1)).toNat (i + 1) i) (R i)) (i + 1) (t + R (gsL R (n - (i + 1)).toNat (i + 1) i)) := by
  rw [show (k - i).toNat = (k - (i + 1)).toNat + 1 by omega]
  rfl
theorem sl_congr {n : Int} : ∀ (f : Nat) (R S : Int → Int) (i t : Int), (∀ j, 0 ≤ j → j < n → R j = S j) → 0 ≤ i → i + f ≤ n → slL n f R i t = slL n f S i t := by
  intro f
  induction f with
  | zero => intro R S i t _ _ _; rfl
  | succ f ih =>
    intro R S i t h h1 h2
    have e1 := gs_congr h (n - (i + 1)).toNat (i + 1) i (by omega) (by omega) h1 (by omega)
    have e2 := gs_b (R := S) (n - (i + 1)).toNat (i + 1) i
    unfold slL
    rw [e1, h i h1 (by omega), h _ (by omega) (by omega)]
    refine ih _ _ _ _ (fun j hj1 hj2 => ?_) (by omega) (by omega)
    unfold z_up
    rw [h j hj1 hj2]
/-- the sum of the k greatest of the latest n gains -/
def cFo (κ : c_K) (e k n : Int) : Int := slL n (k - 0).toNat (fun j => if 0 ≤ j ∧ j < n then cGn κ e j else 0) 0 0
theorem sl_b {n : Int} : ∀ (f : Nat) (R : Int → Int) (i t : Int), (∀ j, -200000 ≤ R j ∧ R j ≤ 200000) → t - 200000 * f ≤ slL n f R i t ∧ slL n f R i t ≤ t + 200000 * f := by
  intro f
  induction f with
  | zero => intro R i t _; exact ⟨by show t - 200000 * ((0 : Nat) : Int) ≤ t; omega, by show t ≤ t + 200000 * ((0 : Nat) : Int); omega⟩
  | succ f ih =>
    intro R i t h
    have h1 := h (gsL R (n - (i + 1)).toNat (i + 1) i)
    have h2 := ih (z_up R (gsL R (n - (i + 1)).toNat (i + 1) i) (R i)) (i + 1) (t + R (gsL R (n - (i + 1)).toNat (i + 1) i)) (z_upb h (h i))
    unfold slL
    omega
theorem cFo_b {κ : c_K} (hS : cS κ) (e k n : Int) (hk : 1 ≤ k ∧ k ≤ 10) : -2000000 ≤ cFo κ e k n ∧ cFo κ e k n ≤ 2000000 := by
  have h1 := sl_b (n := n) (k - 0).toNat (fun j => if 0 ≤ j ∧ j < n then cGn κ e j else 0) 0 0 (fun j => by
    have := cGn_b hS e j
    split <;> omega)
  unfold cFo
  omega
/-- the one that is best in form: from the place i on -/
def cIfL (κ : c_K) (k n : Int) : Nat → Int → Int → Int → Int
  | 0, _, t, _ => t
  | f + 1, i, t, g => if t = -1 ∨ g < cFo κ (κ 20 1 i) k n then cIfL κ k n f (i + 1) (κ 34 (κ 20 1 i) 0) (cFo κ (κ 20 1 i) k n) else cIfL κ k n f (i + 1) t g
theorem cIf_e {κ : c_K} {k n m i t g : Int} (h : m ≤ i) : cIfL κ k n (m - i).toNat i t g = t := by
  rw [show (m - i).toNat = 0 by omega]; rfl
theorem cIf_y {κ : c_K} {k n m i t g : Int} (h : i < m) (hc : t = -1 ∨ g < cFo κ (κ 20 1 i) k n) : cIfL κ k n (m - i).toNat i t g = cIfL κ k n (m - (i + 1)).toNat (i + 1) (κ 34 (κ 20 1 i) 0) (cFo κ (κ 20 1 i) k n) := by
  rw [show (m - i).toNat = (m - (i + 1)).toNat + 1 by omega]
  exact if_pos hc
theorem cIf_n {κ : c_K} {k n m i t g : Int} (h : i < m) (hc : ¬ (t = -1 ∨ g < cFo κ (κ 20 1 i) k n)) : cIfL κ k n (m - i).toNat i t g = cIfL κ k n (m - (i + 1)).toNat (i + 1) t g := by
  rw [show (m - i).toNat = (m - (i + 1)).toNat + 1 by omega]
  exact if_neg hc
def cIf (κ : c_K) (k n : Int) : Int := cIfL κ k n (κ 24 1 0 - 0).toNat 0 (-1) 0
/-- the slots when the places of the first i entrants are put -/
def luF (κ : c_K) (r o : Int) : Nat → (Int → Int)
  | 0 => fun j => if 0 ≤ j ∧ j < 30 then -1 else κ 3 0 j
  | i + 1 => if 1 ≤ cPa κ r i ∧ cPa κ r i ≤ 30 ∧ cPa κ o i ≠ -1 then z_up (luF κ r o i) (cPa κ r i - 1) (cPa κ o i) else luF κ r o i
theorem lu_y {κ : c_K} {r o i : Int} (h : 0 ≤ i) (hc : 1 ≤ cPa κ r i ∧ cPa κ r i ≤ 30 ∧ cPa κ o i ≠ -1) : luF κ r o (i + 1).toNat = z_up (luF κ r o i.toNat) (cPa κ r i - 1) (cPa κ o i) := by
  rw [show (i + 1).toNat = i.toNat + 1 by omega]
  have e : ((i.toNat : Nat) : Int) = i := by omega
  show ite _ _ _ = _
  rw [e]
  exact if_pos hc
theorem lu_n {κ : c_K} {r o i : Int} (h : 0 ≤ i) (hc : ¬ (1 ≤ cPa κ r i ∧ cPa κ r i ≤ 30 ∧ cPa κ o i ≠ -1)) : luF κ r o (i + 1).toNat = luF κ r o i.toNat := by
  rw [show (i + 1).toNat = i.toNat + 1 by omega]
  have e : ((i.toNat : Nat) : Int) = i := by omega
  show ite _ _ _ = _
  rw [e]
  exact if_neg hc
/-- the slots when those that are empty are taken out -/
def cmL : Nat → (Int → Int) → Int → Int → (Int → Int) × Int
  | 0, R, _, c => (R, c)
  | f + 1, R, i, c => if R i ≠ -1 then cmL f (z_up R c (R i)) (i + 1) (c + 1) else cmL f R (i + 1) c
theorem cq_e {R : Int → Int} {i c : Int} (h : 30 ≤ i) : cmL (30 - i).toNat R i c = (R, c) := by
  rw [show (30 - i).toNat = 0 by omega]; rfl
theorem cq_y {R : Int → Int} {i c : Int} (h : i < 30) (hc : R i ≠ -1) : cmL (30 - i).toNat R i c = cmL (30 - (i + 1)).toNat (z_up R c (R i)) (i + 1) (c + 1) := by
  rw [show (30 - i).toNat = (30 - (i + 1)).toNat + 1 by omega]
  exact if_pos hc
theorem cq_n {R : Int → Int} {i c : Int} (h : i < 30) (hc : ¬ R i ≠ -1) : cmL (30 - i).toNat R i c = cmL (30 - (i + 1)).toNat R (i + 1) c := by
  rw [show (30 - i).toNat = (30 - (i + 1)).toNat + 1 by omega]
  exact if_neg hc
def cLu (κ : c_K) (r o : Int) : (Int → Int) × Int := cmL ((30 : Int) - 0).toNat (luF κ r o (κ 24 0 0).toNat) 0 0
/-- one pass over neighbours -/
def swL : Nat → (Int → Int) → Int → Int → (Int → Int) × Int
  | 0, R, _, m => (R, m)
  | f + 1, R, i, m => if R (i + 1) < R i then swL f (z_up (z_up R i (R (i + 1))) (i + 1) (R i)) (i + 1) (m + 1) else swL f R (i + 1) m
theorem sw_e {R : Int → Int} {n i m : Int} (h : n ≤ i + 1) : swL (n - 1 - i).toNat R i m = (R, m) := by
  rw [show (n - 1 - i).toNat = 0 by omega]; rfl
theorem sw_y {R : Int → Int} {n i m : Int} (h : i + 1 < n) (hc : R (i + 1) < R i) : swL (n - 1 - i).toNat R i m = swL (n - 1 - (i + 1)).toNat (z_up (z_up R i (R (i + 1))) (i + 1) (R i)) (i + 1) (m + 1) := by
  rw [show (n - 1 - i).toNat = (n - 1 - (i + 1)).toNat + 1 by omega]
  exact if_pos hc
theorem sw_n {R : Int → Int} {n i m : Int} (h : i + 1 < n) (hc : ¬ R (i + 1) < R i) : swL (n - 1 - i).toNat R i m = swL (n - 1 - (i + 1)).toNat R (i + 1) m := by
  rw [show (n - 1 - i).toNat = (n - 1 - (i + 1)).toNat + 1 by omega]
  exact if_neg hc
def swN (R : Int → Int) (n : Int) : (Int → Int) × Int := swL (n - 1 - 0).toNat R 0 0
/-- all passes -/
def swP (n : Int) : Nat → (Int → Int) → Int → Int
  | 0, _, m => m
  | f + 1, R, m => swP n f (swN R n).1 (m + (swN R n).2)
theorem sp_e {R : Int → Int} {n i m : Int} (h : n ≤ i) : swP n (n - i).toNat R m = m := by
  rw [show (n - i).toNat = 0 by omega]; rfl
theorem sp_s {R : Int → Int} {n i m : Int} (h : i < n) : swP n (n - i).toNat R m = swP n (n - (i + 1)).toNat (swN R n).1 (m + (swN R n).2) := by
  rw [show (n - i).toNat = (n - (i + 1)).toNat + 1 by omega]
  rfl
theorem sw_b {a b n : Int} : ∀ (f : Nat) (R : Int → Int) (i m : Int), (∀ j, a ≤ R j ∧ R j ≤ b) → 0 ≤ m → m ≤ i → i + f ≤ n → (∀ j, a ≤ (swL f R i m).1 j ∧ (swL f R i m).1 j ≤ b) ∧ 0 ≤ (swL f R i m).2 ∧ (swL f R i m).2 ≤ n := by
  intro f
  induction f with
  | zero => intro R i m h h1 h2 h3; exact ⟨h, h1, by show m ≤ n; omega⟩
  | succ f ih =>
    intro R i m h h1 h2 h3
    unfold swL
    split
    · exact ih _ _ _ (z_upb (z_upb h (h _)) (h _)) (by omega) (by omega) (by omega)
    · exact ih _ _ _ h (by omega) (by omega) (by omega)
theorem z_sm_zero {f : Int → Int} {n : Int} (h : ∀ j, 0 ≤ j → j < n → f j = 0) : z_sm f n = 0 := by
  by_cases hn : n ≤ 0
  · exact z_sm0 hn
  · have h1 : ∀ m : Nat, (m : Int) ≤ n → z_sm f m = 0 := by
      intro m
      induction m with
      | zero => intro _; exact z_sm0 (by omega)
      | succ m ih =>
        intro hm
        rw [show ((m + 1 : Nat) : Int) = (m : Int) + 1 by omega, z_smS (by omega), ih (by omega), h m (by omega) (by omega)]
        rfl
    have := h1 n.toNat (by omega)
    rw [show ((n.toNat : Nat) : Int) = n by omega] at this
    exact this
/-- how many pairs of a row stand the wrong way round -/
def cPr (R : Int → Int) (n : Int) : Int := z_sm (fun i => z_sm (fun j => if i < j ∧ R j < R i then (1 : Int) else 0) n) n
theorem swN_b {a b n : Int} {R : Int → Int} (hn : 0 ≤ n ∧ n ≤ 30) (hR : ∀ j, a ≤ R j ∧ R j ≤ b) : 0 ≤ (swN R n).2 ∧ (swN R n).2 ≤ 30 := by
  have h1 := (sw_b (n := n) (n - 1 - 0).toNat R 0 0 hR (by omega) (by omega)) 
  unfold swN
  by_cases h : n ≤ 0
  · rw [sw_e (by omega)]; exact ⟨by show (0 : Int) ≤ 0; omega, by show (0 : Int) ≤ 30; omega⟩
  · have := h1 (by omega)
    omega

theorem c_formBy {G : z_G} {D : Nat} {B : Nat → Int → Nat} {κ : c_K} {h : z_H} (hG : z_OK G) (hJ : cJ B κ) (hB : cB κ) (hV : cV κ) (hS : cS κ) {e k n : Int} (he : 0 ≤ e ∧ e < κ 24 0 0) (hkn : 1 ≤ n ∧ n ≤ 10 ∧ 1 ≤ k ∧ k ≤ n) : z_T G mX7_formBy [.ref (B 0 0), .ref (B 20 e), z_i k, z_i n] (cH D B κ h) 2 0 0 (fun v h' => v = some (z_i (cFo κ e k n)) ∧ ∃ R : Int → Int, (∀ j, -200000 ≤ R j ∧ R j ≤ 200000) ∧ h' = cH D B (k_r κ 2 0 R) h) (z_no) := by
  obtain ⟨hn, hsz, hrw, hcu, htl, hth⟩ := id hV
  have hs0 := hsz 0 (by omega) (by omega)
  have hs1 := hsz 1 (by omega) (by omega)
  have hs2 := hsz 2 (by omega) (by omega)
  have hs3 := hsz 3 (by omega) (by omega)
  refine z_T_of hG pX7_formBy (Nat.le_of_ble_eq_true rfl) (ls0 := [(0, .ref (B 0 0)), (1, .ref (B 20 e)), (2, z_i k), (3, z_i n)]) rfl fun Y hY hg hmc hms hφ hψ => ?_
  subst hg
  have hRb : ∀ i j : Int, -200000 ≤ (fun j => if 0 ≤ j ∧ j < i then cGn κ e j else κ 2 0 j) j ∧ (fun j => if 0 ≤ j ∧ j < i then cGn κ e j else κ 2 0 j) j ≤ 200000 := fun i j => by have := cGn_b hS e j; have := hS.s2 0 j; dsimp only; split <;> omega
  refine z_iload hY eX7_formBy_0 3 rfl ?_
  refine z_const hY eX7_formBy_1 ?_
  refine z_callSr (As := [z_i n, z_i 10]) (rest := []) (r := z_i n) hY eX7_formBy_3 ((show (if (10 : Int) < n then 10 else n) = n from if_neg (by omega)) ▸ ma_min hG (x := n) (y := 10) (by omega)) (by decide) (Nat.le_of_ble_eq_true rfl) ⟨Nat.zero_le _, Nat.zero_le _⟩ ?_
  refine z_istore hY eX7_formBy_6 (ls' := [(4, z_i n), (0, .ref (B 0 0)), (1, .ref (B 20 e)), (2, z_i k), (3, z_i n)]) rfl ?_
  refine z_const hY eX7_formBy_8 ?_
  refine z_istore hY eX7_formBy_9 (ls' := [(5, z_i 0), (4, z_i n), (0, .ref (B 0 0)), (1, .ref (B 20 e)), (2, z_i k), (3, z_i n)]) rfl ?_
  refine z_sub [2, 3, 4, 5, 1, 0] (ls' := [(0, .ref (B 0 0)), (1, .ref (B 20 e)), (2, z_i k), (3, z_i n), (4, z_i n), (5, z_i 0)]) rfl ?_
  refine z_heq (congrArg (fun q => cH D B q h) (show κ = k_r κ 2 0 (fun j => if 0 ≤ j ∧ j < 0 then cGn κ e j else κ 2 0 j) from k_r_id fun j => if_neg (by omega))) ?_
  have lp11 : ∀ (fu : Nat) (i : Int), (n - i).toNat < fu → (0 ≤ i ∧ i ≤ n) → z_W Y 11 [(0, .ref (B 0 0)), (1, .ref (B 20 e)), (2, z_i k), (3, z_i n), (4, z_i n), (5, z_i i)] [] (cH D B (k_r κ 2 0 (fun j => if 0 ≤ j ∧ j < i then cGn κ e j else κ 2 0 j)) h) 0 0 := by
    intro fu
    induction fu with
    | zero => intro i hf; exact absurd hf (Nat.not_lt_zero _)
    | succ fu ih =>
      intro i hf h0
      refine z_iload hY eX7_formBy_11 5 rfl ?_
      refine z_iload hY eX7_formBy_13 4 rfl ?_
      refine z_icmpge hY eX7_formBy_15 (by omega) (fun c15 => ?_) (fun c15 => ?_)
      · have hin : i = n := by omega
        refine z_heq (congrArg (fun q => cH D B q h) (show k_r κ 2 0 (fun j => if 0 ≤ j ∧ j < i then cGn κ e j else κ 2 0 j) = k_r κ 2 0 (fun j => if 0 ≤ j ∧ j < n then cGn κ e j else κ 2 0 j) from by rw [hin])) ?_
        refine z_const hY eX7_formBy_44 ?_
        refine z_istore hY eX7_formBy_45 (ls' := [(5, z_i 0), (0, .ref (B 0 0)), (1, .ref (B 20 e)), (2, z_i k), (3, z_i n), (4, z_i n)]) rfl ?_
        refine z_const hY eX7_formBy_47 ?_
        refine z_istore hY eX7_formBy_48 (ls' := [(6, z_i 0), (5, z_i 0), (0, .ref (B 0 0)), (1, .ref (B 20 e)), (2, z_i k), (3, z_i n), (4, z_i n)]) rfl ?_
        refine z_sub [2, 3, 4, 5, 6, 0, 1] (ls' := [(0, .ref (B 0 0)), (1, .ref (B 20 e)), (2, z_i k), (3, z_i n), (4, z_i n), (6, z_i 0), (5, z_i 0)]) rfl ?_
        have lp50 : ∀ (fu : Nat) (i : Int) (t : Int) (R : Int → Int), (k - i).toNat < fu → (∀ j, -200000 ≤ R j ∧ R j ≤ 200000) → (0 ≤ i ∧ i ≤ k) → (-200000 * i ≤ t ∧ t ≤ 200000 * i) → (slL n (k - i).toNat R i t = cFo κ e k n) → z_W Y 50 [(0, .ref (B 0 0)), (1, .ref (B 20 e)), (2, z_i k), (3, z_i n), (4, z_i n), (6, z_i i), (5, z_i t)] [] (cH D B (k_r κ 2 0 (R)) h) 0 0 := by
          intro fu
          induction fu with
          | zero => intro i t R hf; exact absurd hf (Nat.not_lt_zero _)
          | succ fu ih50 =>
            intro i t R hf hR h0 ht hn
            refine z_iload hY eX7_formBy_50 5 rfl ?_
            refine z_iload hY eX7_formBy_52 2 rfl ?_
            refine z_icmpge hY eX7_formBy_53 (by omega) (fun c53 => ?_) (fun c53 => ?_)
            · refine z_iload hY eX7_formBy_139 6 rfl ?_
              exact z_ireturn hY eX7_formBy_141 rfl (by rw [hφ]; exact ⟨congrArg (fun q => some (z_i q)) (by rw [← hn, sl_e (by omega)]), _, hR, rfl⟩) ⟨Nat.zero_le _, Nat.zero_le _⟩
            · refine z_iload hY eX7_formBy_56 5 rfl ?_
              refine z_iload hY eX7_formBy_58 4 rfl ?_
              refine z_icmpge hY eX7_formBy_60 (by omega) (fun c => by exfalso; omega) (fun c60 => ?_)
              refine z_iload hY eX7_formBy_63 5 rfl ?_
              refine z_istore hY eX7_formBy_65 (ls' := [(7, z_i i), (0, .ref (B 0 0)), (1, .ref (B 20 e)), (2, z_i k), (3, z_i n), (4, z_i n), (6, z_i i), (5, z_i t)]) rfl ?_
              refine z_iload hY eX7_formBy_67 6 rfl ?_
              refine z_const hY eX7_formBy_69 ?_
              refine z_iadd hY eX7_formBy_70 ?_
              refine z_istore hY eX7_formBy_71 (ls' := [(8, z_i (i + 1)), (7, z_i i), (0, .ref (B 0 0)), (1, .ref (B 20 e)), (2, z_i k), (3, z_i n), (4, z_i n), (6, z_i i), (5, z_i t)]) rfl ?_
              refine z_sub [2, 3, 4, 5, 6, 8, 7, 0, 1] (ls' := [(0, .ref (B 0 0)), (1, .ref (B 20 e)), (2, z_i k), (3, z_i n), (4, z_i n), (5, z_i t), (6, z_i i), (8, z_i (i + 1)), (7, z_i i)]) rfl ?_
              have lp73 : ∀ (fu : Nat) (j : Int) (g : Int), (n - j).toNat < fu → (i + 1 ≤ j ∧ j ≤ n ∧ 0 ≤ g ∧ g < n) → (gsL R (n - j).toNat j g = gsL R (n - (i + 1)).toNat (i + 1) i) → z_W Y 73 [(0, .ref (B 0 0)), (1, .ref (B 20 e)), (2, z_i k), (3, z_i n), (4, z_i n), (5, z_i t), (6, z_i i), (8, z_i j), (7, z_i g)] [] (cH D B (k_r κ 2 0 (R)) h) 0 0 := by
                intro fu
                induction fu with
                | zero => intro j g hf; exact absurd hf (Nat.not_lt_zero _)
                | succ fu ih73 =>
                  intro j g hf h1 hg
                  refine z_iload hY eX7_formBy_73 7 rfl ?_
                  refine z_iload hY eX7_formBy_75 4 rfl ?_
                  refine z_icmpge hY eX7_formBy_77 (by omega) (fun c77 => ?_) (fun c77 => ?_)
                  · refine z_iload hY eX7_formBy_107 5 rfl ?_
                    refine z_aload hY eX7_formBy_109 0 rfl ?_
                    refine c_gf hY (cJ_r (by decide) hJ) eX7_formBy_110 (t := 0) (i := 0) (v := .ref (B 12 0)) ((cL_r (by decide) _ _).mpr (by omega)) rfl rfl ?_
                    refine z_iload hY eX7_formBy_113 8 rfl ?_
                    have hb1 := hR g
                    refine c_ial hY (cJ_r (by decide) hJ) eX7_formBy_115 (t := 12) (N := 10) (key := 2) (i := 0) (x := R g) ((cL_r (by decide) _ _).mpr (by omega)) rfl (by omega) (congrFun k_r_eq _) ?_
                    refine z_iadd hY eX7_formBy_116 ?_
                    refine z_istore hY eX7_formBy_117 (ls' := [(5, z_i (t + (R g))), (0, .ref (B 0 0)), (1, .ref (B 20 e)), (2, z_i k), (3, z_i n), (4, z_i n), (6, z_i i), (8, z_i j), (7, z_i g)]) rfl ?_
                    refine z_aload hY eX7_formBy_119 1 rfl ?_
                    refine c_gf hY (cJ_r (by decide) hJ) eX7_formBy_120 (t := 0) (i := 0) (v := .ref (B 12 0)) ((cL_r (by decide) _ _).mpr (by omega)) rfl rfl ?_
                    refine z_iload hY eX7_formBy_123 8 rfl ?_
                    refine z_aload hY eX7_formBy_125 1 rfl ?_
                    refine c_gf hY (cJ_r (by decide) hJ) eX7_formBy_126 (t := 0) (i := 0) (v := .ref (B 12 0)) ((cL_r (by decide) _ _).mpr (by omega)) rfl rfl ?_
                    refine z_iload hY eX7_formBy_129 6 rfl ?_
                    have hb2 := hR i
                    refine c_ial hY (cJ_r (by decide) hJ) eX7_formBy_131 (t := 12) (N := 10) (key := 2) (i := 0) (x := R i) ((cL_r (by decide) _ _).mpr (by omega)) rfl (by omega) (congrFun k_r_eq _) ?_
                    refine c_ias hY (cJ_r (by decide) hJ) eX7_formBy_132 (t := 12) (N := 10) (key := 2) (i := 0) (by decide) rfl ((cL_r (by decide) _ _).mpr (by omega)) (fun _ => rfl) (by omega) ?_
                    refine z_heq (congrArg (fun q => cH D B q h) k_r_up) ?_
                    refine z_iinc hY eX7_formBy_133 6 rfl (ls' := [(6, z_i (i + 1)), (5, z_i (t + (R g))), (0, .ref (B 0 0)), (1, .ref (B 20 e)), (2, z_i k), (3, z_i n), (4, z_i n), (8, z_i j), (7, z_i g)]) rfl ?_
                    refine z_goto hY eX7_formBy_136 ?_
                    refine z_sub [2, 3, 4, 5, 6, 0, 1] (ls' := [(0, .ref (B 0 0)), (1, .ref (B 20 e)), (2, z_i k), (3, z_i n), (4, z_i n), (6, z_i (i + 1)), (5, z_i (t + (R g)))]) rfl ?_
                    exact ih50 (i + 1) (t + (R g)) (z_up R g (R i)) (by omega) (z_upb hR (by omega)) (by omega) (by omega) (by rw [gs_e (by omega)] at hg; rw [← hn, sl_s (i := i) (by omega), ← hg])
                  · refine z_aload hY eX7_formBy_80 0 rfl ?_
                    refine c_gf hY (cJ_r (by decide) hJ) eX7_formBy_81 (t := 0) (i := 0) (v := .ref (B 12 0)) ((cL_r (by decide) _ _).mpr (by omega)) rfl rfl ?_
                    refine z_iload hY eX7_formBy_84 7 rfl ?_
                    have hb3 := hR j
                    refine c_ial hY (cJ_r (by decide) hJ) eX7_formBy_86 (t := 12) (N := 10) (key := 2) (i := 0) (x := R j) ((cL_r (by decide) _ _).mpr (by omega)) rfl (by omega) (congrFun k_r_eq _) ?_
                    refine z_aload hY eX7_formBy_87 0 rfl ?_
                    refine c_gf hY (cJ_r (by decide) hJ) eX7_formBy_88 (t := 0) (i := 0) (v := .ref (B 12 0)) ((cL_r (by decide) _ _).mpr (by omega)) rfl rfl ?_
                    refine z_iload hY eX7_formBy_91 8 rfl ?_
                    have hb4 := hR g
                    refine c_ial hY (cJ_r (by decide) hJ) eX7_formBy_93 (t := 12) (N := 10) (key := 2) (i := 0) (x := R g) ((cL_r (by decide) _ _).mpr (by omega)) rfl (by omega) (congrFun k_r_eq _) ?_
                    refine z_icmple hY eX7_formBy_94 (by omega) (fun c94 => ?_) (fun c94 => ?_)
                    · refine z_iinc hY eX7_formBy_101 7 rfl (ls' := [(8, z_i (j + 1)), (0, .ref (B 0 0)), (1, .ref (B 20 e)), (2, z_i k), (3, z_i n), (4, z_i n), (5, z_i t), (6, z_i i), (7, z_i g)]) rfl ?_
                      refine z_goto hY eX7_formBy_104 ?_
                      refine z_sub [1, 2, 3, 4, 5, 6, 7, 0, 8] (ls' := [(0, .ref (B 0 0)), (1, .ref (B 20 e)), (2, z_i k), (3, z_i n), (4, z_i n), (5, z_i t), (6, z_i i), (8, z_i (j + 1)), (7, z_i g)]) rfl ?_
                      exact ih73 (j + 1) g (by omega) (by omega) (by first | exact (gs_y (by omega) (by omega)).symm.trans hg | exact (gs_n (by omega) (by omega)).symm.trans hg)
                    · refine z_iload hY eX7_formBy_97 7 rfl ?_
                      refine z_istore hY eX7_formBy_99 (ls' := [(7, z_i j), (0, .ref (B 0 0)), (1, .ref (B 20 e)), (2, z_i k), (3, z_i n), (4, z_i n), (5, z_i t), (6, z_i i), (8, z_i j)]) rfl ?_
                      refine z_iinc hY eX7_formBy_101 8 rfl (ls' := [(8, z_i (j + 1)), (7, z_i j), (0, .ref (B 0 0)), (1, .ref (B 20 e)), (2, z_i k), (3, z_i n), (4, z_i n), (5, z_i t), (6, z_i i)]) rfl ?_
                      refine z_goto hY eX7_formBy_104 ?_
                      refine z_sub [2, 3, 4, 5, 6, 7, 8, 0, 1] (ls' := [(0, .ref (B 0 0)), (1, .ref (B 20 e)), (2, z_i k), (3, z_i n), (4, z_i n), (5, z_i t), (6, z_i i), (8, z_i (j + 1)), (7, z_i j)]) rfl ?_
                      exact ih73 (j + 1) j (by omega) (by omega) (by first | exact (gs_y (by omega) (by omega)).symm.trans hg | exact (gs_n (by omega) (by omega)).symm.trans hg)
              exact lp73 _ (i + 1) i (Nat.lt_succ_self _) (by omega) rfl
        exact lp50 _ 0 0 (fun j => if 0 ≤ j ∧ j < n then cGn κ e j else κ 2 0 j) (Nat.lt_succ_self _) (hRb n) (by omega) (by omega) (sl_congr _ _ _ _ _ (fun j h1 h2 => by rw [if_pos ⟨h1, h2⟩, if_pos ⟨h1, h2⟩]) (by omega) (by omega))
      · refine z_aload hY eX7_formBy_18 0 rfl ?_
        refine c_gf hY (cJ_r (by decide) hJ) eX7_formBy_19 (t := 0) (i := 0) (v := .ref (B 12 0)) ((cL_r (by decide) _ _).mpr (by omega)) rfl rfl ?_
        refine z_iload hY eX7_formBy_22 5 rfl ?_
        refine z_aload hY eX7_formBy_24 1 rfl ?_
        refine z_aload hY eX7_formBy_25 0 rfl ?_
        have hb5 := hS.s1 0 0
        refine c_gf hY (cJ_r (by decide) hJ) eX7_formBy_26 (t := 0) (i := 0) (v := z_i (κ 1 0 0)) ((cL_r (by decide) _ _).mpr (by omega)) rfl (by simp [k_u, k_r]) ?_
        refine z_const hY eX7_formBy_29 ?_
        refine z_isub hY eX7_formBy_30 ?_
        refine z_iload hY eX7_formBy_31 5 rfl ?_
        refine z_isub hY eX7_formBy_33 ?_
        refine z_top (b := (κ 1 0 0) - i - 1) (by omega) ?_
        refine z_callVr (As := [z_i ((κ 1 0 0) - i - 1)]) (rest := [z_i i, .ref (B 12 0)]) (r := z_i (if ((κ 1 0 0) - i - 1) < 0 then 0 else κ 32 e (((κ 1 0 0) - i - 1) % 10))) hY eX7_formBy_34 (e_gainIn (κ := k_r κ 2 0 (fun j => if 0 ≤ j ∧ j < i then cGn κ e j else κ 2 0 j)) hG (cJ_r (by decide) hJ) (cS_r hS (by decide) (hRb i)).b (cV_r hV (by decide)) (show -1 ≤ e ∧ e < κ 24 0 0 by omega) (by omega)) (cH_at (t := 20) (i := e) (cJ_r (by decide) hJ) ((cL_r (by decide) _ _).mpr (by omega))) (by decide) (Nat.le_of_ble_eq_true rfl) ⟨Nat.zero_le _, Nat.zero_le _⟩ ?_
        have hc6 := hS.s32 e (((κ 1 0 0) - i - 1) % 10)
        refine c_ias hY (cJ_r (by decide) hJ) eX7_formBy_37 (t := 12) (N := 10) (key := 2) (i := 0) (by decide) rfl ((cL_r (by decide) _ _).mpr (by omega)) (fun _ => rfl) (by omega) ?_
        refine z_heq (congrArg (fun q => cH D B q h) k_r_up) ?_
        refine z_iinc hY eX7_formBy_38 5 rfl (ls' := [(5, z_i (i + 1)), (0, .ref (B 0 0)), (1, .ref (B 20 e)), (2, z_i k), (3, z_i n), (4, z_i n)]) rfl ?_
        refine z_goto hY eX7_formBy_41 ?_
        refine z_sub [1, 2, 3, 4, 5, 0] (ls' := [(0, .ref (B 0 0)), (1, .ref (B 20 e)), (2, z_i k), (3, z_i n), (4, z_i n), (5, z_i (i + 1))]) rfl ?_
        refine z_heq (congrArg (fun q => cH D B q h) (show k_r κ 2 0 (z_up (fun j => if 0 ≤ j ∧ j < i then cGn κ e j else κ 2 0 j) i (if ((κ 1 0 0) - i - 1) < 0 then 0 else κ 32 e (((κ 1 0 0) - i - 1) % 10))) = k_r κ 2 0 (fun j => if 0 ≤ j ∧ j < (i + 1) then cGn κ e j else κ 2 0 j) from congrArg (k_r κ 2 0) (cGn_up (by omega)))) ?_
        exact ih (i + 1) (by omega) (by omega)
  exact lp11 _ 0 (Nat.lt_succ_self _) (by omega)
theorem c_formByX {G : z_G} {D : Nat} {B : Nat → Int → Nat} {κ : c_K} {h : z_H} (hG : z_OK G) (hJ : cJ B κ) (hV : cV κ) (hS : cS κ) {R : Int → Int} (hR : ∀ j, -200000 ≤ R j ∧ R j ≤ 200000) {e k n : Int} (he : 0 ≤ e ∧ e < κ 24 0 0) (hkn : 1 ≤ n ∧ n ≤ 10 ∧ 1 ≤ k ∧ k ≤ n) : z_T G mX7_formBy [.ref (B 0 0), .ref (B 20 e), z_i k, z_i n] (cH D B (k_r κ 2 0 R) h) 2 0 0 (fun v h' => v = some (z_i (cFo κ e k n)) ∧ ∃ R : Int → Int, (∀ j, -200000 ≤ R j ∧ R j ≤ 200000) ∧ h' = cH D B (k_r κ 2 0 R) h) z_no := by
  have h1 := c_formBy (D := D) (h := h) (κ := k_r κ 2 0 R) hG (cJ_r (by decide) hJ) (cS_r hS (by decide) hR).b (cV_r hV (by decide)) (cS_r hS (by decide) hR) (e := e) (k := k) (n := n) he hkn
  refine z_T.mono h1 (fun v h' q => ?_) (fun _ _ q => q)
  obtain ⟨h2, R2, h3, h4⟩ := q
  exact ⟨h2, R2, h3, by rw [h4, k_r_r]⟩
theorem q_form {G : z_G} {D : Nat} {B : Nat → Int → Nat} {κ : c_K} {h : z_H} (hG : z_OK G) (hJ : cJ B κ) (hB : cB κ) (hV : cV κ) (hS : cS κ) {e k n : Int} (hre : -2147483648 ≤ e ∧ e ≤ 2147483647) (hrk : -2147483648 ≤ k ∧ k ≤ 2147483647) (hrn : -2147483648 ≤ n ∧ n ≤ 2147483647) : z_T G mX7_form [.ref (B 0 0), z_i e, z_i k, z_i n] (cH D B κ h) 5 2 12 (fun v h' => ((0 ≤ e ∧ e < κ 24 0 0 ∧ κ 36 e 0 ≠ 0) ∧ 1 ≤ n ∧ n ≤ 10 ∧ 1 ≤ k ∧ k ≤ n) ∧ v = some (z_i (cFo κ e k n)) ∧ ∃ R : Int → Int, (∀ j, -200000 ≤ R j ∧ R j ≤ 200000) ∧ h' = cH D B (k_r κ 2 0 R) h) (fun E h' => h' = cH D B κ h ∧ ((E = "java/lang/IndexOutOfBoundsException" ∧ ¬ (0 ≤ e ∧ e < κ 24 0 0 ∧ κ 36 e 0 ≠ 0)) ∨ (E = "java/lang/IllegalArgumentException" ∧ (0 ≤ e ∧ e < κ 24 0 0 ∧ κ 36 e 0 ≠ 0) ∧ ¬ (1 ≤ n ∧ n ≤ 10 ∧ 1 ≤ k ∧ k ≤ n)))) := by
  obtain ⟨hn, hsz, hrw, hcu, htl, hth⟩ := id hV
  have hs0 := hsz 0 (by omega) (by omega)
  have hs1 := hsz 1 (by omega) (by omega)
  have hs2 := hsz 2 (by omega) (by omega)
  have hs3 := hsz 3 (by omega) (by omega)
  refine z_T_of hG pX7_form (Nat.le_of_ble_eq_true rfl) (ls0 := [(0, .ref (B 0 0)), (1, z_i e), (2, z_i k), (3, z_i n)]) rfl fun Y hY hg hmc hms hφ hψ => ?_
  subst hg
  refine z_aload hY eX7_form_0 0 rfl ?_
  refine z_iload hY eX7_form_1 1 rfl ?_
  refine z_callV (As := [z_i e]) (rest := []) hY eX7_form_2 (c_presentOne hG hJ hB hV hS (by omega)) (cH_at (t := 0) (i := 0) hJ (by omega)) (by decide) (Nat.le_of_ble_eq_true rfl) (by rw [hmc, hms]; omega) (fun E' h1 q => by obtain ⟨rfl, q⟩ := q; rw [hψ]; refine ⟨rfl, ?_⟩; obtain ⟨rfl, q⟩ := q <;> (first | exact ⟨rfl, by omega⟩ | exact Or.inl ⟨rfl, by omega⟩ | exact Or.inr ⟨rfl, by omega⟩ | exact Or.inr (Or.inl ⟨rfl, by omega⟩) | exact Or.inr (Or.inr ⟨rfl, by omega⟩))) (fun vv1 hh1 q1 => ?_)
  obtain ⟨hq1, rfl, rfl⟩ := q1
  refine z_astore hY eX7_form_5 (ls' := [(4, .ref (B 20 e)), (0, .ref (B 0 0)), (1, z_i e), (2, z_i k), (3, z_i n)]) rfl ?_
  refine z_aload hY eX7_form_7 1 rfl ?_
  refine z_iload hY eX7_form_8 3 rfl ?_
  refine z_iload hY eX7_form_9 4 rfl ?_
  refine z_callV (As := [z_i k, z_i n]) (rest := []) hY eX7_form_10 (c_checkForm hG hJ hB hV hS (by omega) (by omega)) (cH_at (t := 0) (i := 0) hJ (by omega)) (by decide) (Nat.le_of_ble_eq_true rfl) (by rw [hmc, hms]; omega) (fun E' h1 q => by obtain ⟨rfl, q⟩ := q; rw [hψ]; refine ⟨rfl, ?_⟩; obtain ⟨rfl, q⟩ := q <;> (first | exact ⟨rfl, by omega⟩ | exact Or.inl ⟨rfl, by omega⟩ | exact Or.inr ⟨rfl, by omega⟩ | exact Or.inr (Or.inl ⟨rfl, by omega⟩) | exact Or.inr (Or.inr ⟨rfl, by omega⟩))) (fun vv2 hh2 q2 => ?_)
  obtain ⟨hq2, rfl, rfl⟩ := q2
  refine z_aload hY eX7_form_13 1 rfl ?_
  refine z_aload hY eX7_form_14 0 rfl ?_
  refine z_iload hY eX7_form_16 3 rfl ?_
  refine z_iload hY eX7_form_17 4 rfl ?_
  refine z_heq (congrArg (fun q => cH D B q h) (show κ = k_r κ 2 0 (κ 2 0) from k_r_id fun _ => rfl)) ?_
  refine z_callV (As := [.ref (B 20 e), z_i k, z_i n]) (rest := []) hY eX7_form_18 (c_formByX hG hJ hV hS (hS.s2 0) (show 0 ≤ e ∧ e < κ 24 0 0 by omega) (by omega)) (cH_at (t := 0) (i := 0) (cJ_r (by decide) hJ) ((cL_r (by decide) _ _).mpr (by omega))) (by decide) (Nat.le_of_ble_eq_true rfl) (by rw [hmc, hms]; omega) (fun _ _ q => q.elim) (fun vv3 hh3 q3 => ?_)
  obtain ⟨rfl, R3, hR3, rfl⟩ := q3
  have hfb4 := cFo_b hS e k n (by omega)
  exact z_ireturn hY eX7_form_21 rfl (by rw [hφ]; first | (exfalso; omega) | exact ⟨by omega, congrArg (fun q => some (z_i q)) (by first | rfl | omega), _, hR3, rfl⟩) (by rw [hmc, hms]; omega)
theorem q_inForm {G : z_G} {D : Nat} {B : Nat → Int → Nat} {κ : c_K} {h : z_H} (hG : z_OK G) (hJ : cJ B κ) (hB : cB κ) (hV : cV κ) (hS : cS κ) {k n : Int} (hrk : -2147483648 ≤ k ∧ k ≤ 2147483647) (hrn : -2147483648 ≤ n ∧ n ≤ 2147483647) : z_T G mX7_inForm [.ref (B 0 0), z_i k, z_i n] (cH D B κ h) 4 2 12 (fun v h' => ((1 ≤ n ∧ n ≤ 10 ∧ 1 ≤ k ∧ k ≤ n) ∧ 0 < κ 24 1 0) ∧ v = some (z_i (cIf κ k n)) ∧ ∃ R : Int → Int, (∀ j, -200000 ≤ R j ∧ R j ≤ 200000) ∧ h' = cH D B (k_r κ 2 0 R) h) (fun E h' => h' = cH D B κ h ∧ ((E = "java/lang/IllegalArgumentException" ∧ ¬ (1 ≤ n ∧ n ≤ 10 ∧ 1 ≤ k ∧ k ≤ n)) ∨ (E = "java/util/NoSuchElementException" ∧ (1 ≤ n ∧ n ≤ 10 ∧ 1 ≤ k ∧ k ≤ n) ∧ ¬ 0 < κ 24 1 0))) := by
  obtain ⟨hn, hsz, hrw, hcu, htl, hth⟩ := id hV
  have hs0 := hsz 0 (by omega) (by omega)
  have hs1 := hsz 1 (by omega) (by omega)
  have hs2 := hsz 2 (by omega) (by omega)
  have hs3 := hsz 3 (by omega) (by omega)
  refine z_T_of hG pX7_inForm (Nat.le_of_ble_eq_true rfl) (ls0 := [(0, .ref (B 0 0)), (1, z_i k), (2, z_i n)]) rfl fun Y hY hg hmc hms hφ hψ => ?_
  subst hg
  refine z_aload hY eX7_inForm_0 0 rfl ?_
  refine z_iload hY eX7_inForm_1 1 rfl ?_
  refine z_iload hY eX7_inForm_2 2 rfl ?_
  refine z_callV (As := [z_i k, z_i n]) (rest := []) hY eX7_inForm_3 (c_checkForm hG hJ hB hV hS (by omega) (by omega)) (cH_at (t := 0) (i := 0) hJ (by omega)) (by decide) (Nat.le_of_ble_eq_true rfl) (by rw [hmc, hms]; omega) (fun E' h1 q => by obtain ⟨rfl, q⟩ := q; rw [hψ]; refine ⟨rfl, ?_⟩; obtain ⟨rfl, q⟩ := q <;> (first | exact ⟨rfl, by omega⟩ | exact Or.inl ⟨rfl, by omega⟩ | exact Or.inr ⟨rfl, by omega⟩ | exact Or.inr (Or.inl ⟨rfl, by omega⟩) | exact Or.inr (Or.inr ⟨rfl, by omega⟩))) (fun vv1 hh1 q1 => ?_)
  obtain ⟨hq1, rfl, rfl⟩ := q1
  refine z_aload hY eX7_inForm_6 0 rfl ?_
  refine z_callV (As := []) (rest := []) hY eX7_inForm_7 (c_checkSomebodyIsThere hG hJ hB hV hS ) (cH_at (t := 0) (i := 0) hJ (by omega)) (by decide) (Nat.le_of_ble_eq_true rfl) (by rw [hmc, hms]; omega) (fun E' h1 q => by obtain ⟨rfl, q⟩ := q; rw [hψ]; refine ⟨rfl, ?_⟩; obtain ⟨rfl, q⟩ := q <;> (first | exact ⟨rfl, by omega⟩ | exact Or.inl ⟨rfl, by omega⟩ | exact Or.inr ⟨rfl, by omega⟩ | exact Or.inr (Or.inl ⟨rfl, by omega⟩) | exact Or.inr (Or.inr ⟨rfl, by omega⟩))) (fun vv2 hh2 q2 => ?_)
  obtain ⟨hq2, rfl, rfl⟩ := q2
  refine z_const hY eX7_inForm_10 ?_
  refine z_istore hY eX7_inForm_11 (ls' := [(3, z_i (-1)), (0, .ref (B 0 0)), (1, z_i k), (2, z_i n)]) rfl ?_
  refine z_const hY eX7_inForm_12 ?_
  refine z_istore hY eX7_inForm_13 (ls' := [(4, z_i 0), (3, z_i (-1)), (0, .ref (B 0 0)), (1, z_i k), (2, z_i n)]) rfl ?_
  refine z_const hY eX7_inForm_15 ?_
  refine z_istore hY eX7_inForm_16 (ls' := [(5, z_i 0), (4, z_i 0), (3, z_i (-1)), (0, .ref (B 0 0)), (1, z_i k), (2, z_i n)]) rfl ?_
  refine z_sub [3, 4, 5, 0, 2, 1] (ls' := [(0, .ref (B 0 0)), (1, z_i k), (2, z_i n), (5, z_i 0), (3, z_i (-1)), (4, z_i 0)]) rfl ?_
  refine z_heq (congrArg (fun q => cH D B q h) (show κ = k_r κ 2 0 (κ 2 0) from k_r_id fun _ => rfl)) ?_
  have lp18 : ∀ (fu : Nat) (i : Int) (t : Int) (g : Int) (R : Int → Int), (κ 24 1 0 - i).toNat < fu → (∀ j, -200000 ≤ R j ∧ R j ≤ 200000) → (0 ≤ i ∧ i ≤ κ 24 1 0 ∧ -1 ≤ t ∧ t ≤ 29 ∧ -2000000 ≤ g ∧ g ≤ 2000000) → (cIfL κ k n (κ 24 1 0 - i).toNat i t g = cIf κ k n) → z_W Y 18 [(0, .ref (B 0 0)), (1, z_i k), (2, z_i n), (5, z_i i), (3, z_i t), (4, z_i g)] [] (cH D B (k_r κ 2 0 (R)) h) (0 + 1 + 1) (0 + 6 + 6) := by
    intro fu
    induction fu with
    | zero => intro i t g R hf; exact absurd hf (Nat.not_lt_zero _)
    | succ fu ih18 =>
      intro i t g R hf hR h0 hn
      refine z_iload hY eX7_inForm_18 3 rfl ?_
      refine z_aload hY eX7_inForm_20 0 rfl ?_
      refine c_gf hY (cJ_r (by decide) hJ) eX7_inForm_21 (t := 0) (i := 0) (v := .ref (B 9 0)) ((cL_r (by decide) _ _).mpr (by omega)) rfl rfl ?_
      refine c_gfN hY (cJ_r (by decide) hJ) eX7_inForm_24 (t := 9) (i := 0) (v := .ref (B 7 1)) ((cL_r (by decide) _ _).mpr (by omega)) rfl rfl ?_
      refine z_callVr (As := []) (rest := [z_i i]) (r := z_i (κ 24 1 0)) hY eX7_inForm_27 (c_size (κ := k_r κ 2 0 (R)) hG (cJ_r (by decide) hJ) (cS_r hS (by decide) hR).b (cV_r hV (by decide)) (by omega)) (cH_at (t := 7) (i := 1) (cJ_r (by decide) hJ) ((cL_r (by decide) _ _).mpr (by omega))) (by decide) (Nat.le_of_ble_eq_true rfl) (by rw [hmc, hms]; omega) ?_
      refine z_icmpge hY eX7_inForm_30 (by omega) (fun c30 => ?_) (fun c30 => ?_)
      · refine z_iload hY eX7_inForm_88 4 rfl ?_
        exact z_ireturn hY eX7_inForm_89 rfl (by rw [hφ]; first | (exfalso; omega) | exact ⟨by omega, congrArg (fun q => some (z_i q)) (by rw [← hn, cIf_e (by omega)]), _, hR, rfl⟩) (by rw [hmc, hms]; omega)
      · refine z_aload hY eX7_inForm_33 0 rfl ?_
        refine c_gf hY (cJ_r (by decide) hJ) eX7_inForm_34 (t := 0) (i := 0) (v := .ref (B 9 0)) ((cL_r (by decide) _ _).mpr (by omega)) rfl rfl ?_
        refine c_gfN hY (cJ_r (by decide) hJ) eX7_inForm_37 (t := 9) (i := 0) (v := .ref (B 7 1)) ((cL_r (by decide) _ _).mpr (by omega)) rfl rfl ?_
        refine z_iload hY eX7_inForm_40 3 rfl ?_
        refine z_callVr (As := [z_i i]) (rest := []) (r := .ref (B 20 (κ 20 1 i))) hY eX7_inForm_42 (c_get (κ := k_r κ 2 0 (R)) hG (cJ_r (by decide) hJ) (cS_r hS (by decide) hR).b (cV_r hV (by decide)) (r := 1) (by omega) (show 0 ≤ i ∧ i < κ 24 1 0 by omega)) (cH_at (t := 7) (i := 1) (cJ_r (by decide) hJ) ((cL_r (by decide) _ _).mpr (by omega))) (by decide) (Nat.le_of_ble_eq_true rfl) (by rw [hmc, hms]; omega) ?_
        have hc3 := hrw 1 i (by omega) (by omega) (by omega) (by omega)
        refine z_cast hY eX7_inForm_45 (ci := 0) (nm := "StandingsHall$Entrant") (T := TX0) (N := 11) rfl (cH_at (t := 20) (i := (κ 20 1 i)) (cJ_r (by decide) hJ) ((cL_r (by decide) _ _).mpr (by omega))) ?_
        refine z_astore hY eX7_inForm_48 (ls' := [(6, .ref (B 20 (κ 20 1 i))), (0, .ref (B 0 0)), (1, z_i k), (2, z_i n), (5, z_i i), (3, z_i t), (4, z_i g)]) rfl ?_
        refine z_aload hY eX7_inForm_50 1 rfl ?_
        refine z_aload hY eX7_inForm_51 0 rfl ?_
        refine z_iload hY eX7_inForm_53 2 rfl ?_
        refine z_iload hY eX7_inForm_54 3 rfl ?_
        refine z_callV (As := [.ref (B 20 (κ 20 1 i)), z_i k, z_i n]) (rest := []) hY eX7_inForm_55 (c_formByX hG hJ hV hS hR (show 0 ≤ (κ 20 1 i) ∧ (κ 20 1 i) < κ 24 0 0 by omega) (by omega)) (cH_at (t := 0) (i := 0) (cJ_r (by decide) hJ) ((cL_r (by decide) _ _).mpr (by omega))) (by decide) (Nat.le_of_ble_eq_true rfl) (by rw [hmc, hms]; omega) (fun _ _ q => q.elim) (fun vv4 hh4 q4 => ?_)
        obtain ⟨rfl, R4, hR4, rfl⟩ := q4
        have hfb5 := cFo_b hS (κ 20 1 i) k n (by omega)
        refine z_istore hY eX7_inForm_58 (ls' := [(7, z_i (cFo κ (κ 20 1 i) k n)), (6, .ref (B 20 (κ 20 1 i))), (0, .ref (B 0 0)), (1, z_i k), (2, z_i n), (5, z_i i), (3, z_i t), (4, z_i g)]) rfl ?_
        refine z_iload hY eX7_inForm_60 6 rfl ?_
        refine z_const hY eX7_inForm_61 ?_
        refine z_icmpeq hY eX7_inForm_62 (by omega) (fun c62 => ?_) (fun c62 => ?_)
        · refine z_aload hY eX7_inForm_72 1 rfl ?_
          have hb6 := hS.s34 (κ 20 1 i) 0
          refine c_gf hY (cJ_r (by decide) hJ) eX7_inForm_74 (t := 20) (i := (κ 20 1 i)) (v := z_i (κ 34 (κ 20 1 i) 0)) ((cL_r (by decide) _ _).mpr (by omega)) rfl (by simp [k_u, k_r]) ?_
          refine z_istore hY eX7_inForm_77 (ls' := [(3, z_i (κ 34 (κ 20 1 i) 0)), (7, z_i (cFo κ (κ 20 1 i) k n)), (6, .ref (B 20 (κ 20 1 i))), (0, .ref (B 0 0)), (1, z_i k), (2, z_i n), (5, z_i i), (4, z_i g)]) rfl ?_
          refine z_iload hY eX7_inForm_78 1 rfl ?_
          refine z_istore hY eX7_inForm_80 (ls' := [(4, z_i (cFo κ (κ 20 1 i) k n)), (3, z_i (κ 34 (κ 20 1 i) 0)), (7, z_i (cFo κ (κ 20 1 i) k n)), (6, .ref (B 20 (κ 20 1 i))), (0, .ref (B 0 0)), (1, z_i k), (2, z_i n), (5, z_i i)]) rfl ?_
          refine z_iinc hY eX7_inForm_82 7 rfl (ls' := [(5, z_i (i + 1)), (4, z_i (cFo κ (κ 20 1 i) k n)), (3, z_i (κ 34 (κ 20 1 i) 0)), (7, z_i (cFo κ (κ 20 1 i) k n)), (6, .ref (B 20 (κ 20 1 i))), (0, .ref (B 0 0)), (1, z_i k), (2, z_i n)]) rfl ?_
          refine z_goto hY eX7_inForm_85 ?_
          refine z_sub [5, 6, 7, 0, 2, 1] (ls' := [(0, .ref (B 0 0)), (1, z_i k), (2, z_i n), (5, z_i (i + 1)), (3, z_i (κ 34 (κ 20 1 i) 0)), (4, z_i (cFo κ (κ 20 1 i) k n))]) rfl ?_
          exact ih18 (i + 1) (κ 34 (κ 20 1 i) 0) (cFo κ (κ 20 1 i) k n) R4 (by omega) hR4 (by omega) (by first | exact (cIf_y (by omega) (by omega)).symm.trans hn | exact (cIf_n (by omega) (by omega)).symm.trans hn)
        · refine z_iload hY eX7_inForm_65 0 rfl ?_
          refine z_iload hY eX7_inForm_67 7 rfl ?_
          refine z_icmple hY eX7_inForm_69 (by omega) (fun c69 => ?_) (fun c69 => ?_)
          · refine z_iinc hY eX7_inForm_82 5 rfl (ls' := [(5, z_i (i + 1)), (7, z_i (cFo κ (κ 20 1 i) k n)), (6, .ref (B 20 (κ 20 1 i))), (0, .ref (B 0 0)), (1, z_i k), (2, z_i n), (3, z_i t), (4, z_i g)]) rfl ?_
            refine z_goto hY eX7_inForm_85 ?_
            refine z_sub [3, 4, 5, 0, 6, 7] (ls' := [(0, .ref (B 0 0)), (1, z_i k), (2, z_i n), (5, z_i (i + 1)), (3, z_i t), (4, z_i g)]) rfl ?_
            exact ih18 (i + 1) t g R4 (by omega) hR4 (by omega) (by first | exact (cIf_y (by omega) (by omega)).symm.trans hn | exact (cIf_n (by omega) (by omega)).symm.trans hn)
          · refine z_aload hY eX7_inForm_72 1 rfl ?_
            have hb7 := hS.s34 (κ 20 1 i) 0
            refine c_gf hY (cJ_r (by decide) hJ) eX7_inForm_74 (t := 20) (i := (κ 20 1 i)) (v := z_i (κ 34 (κ 20 1 i) 0)) ((cL_r (by decide) _ _).mpr (by omega)) rfl (by simp [k_u, k_r]) ?_
            refine z_istore hY eX7_inForm_77 (ls' := [(3, z_i (κ 34 (κ 20 1 i) 0)), (7, z_i (cFo κ (κ 20 1 i) k n)), (6, .ref (B 20 (κ 20 1 i))), (0, .ref (B 0 0)), (1, z_i k), (2, z_i n), (5, z_i i), (4, z_i g)]) rfl ?_
            refine z_iload hY eX7_inForm_78 1 rfl ?_
            refine z_istore hY eX7_inForm_80 (ls' := [(4, z_i (cFo κ (κ 20 1 i) k n)), (3, z_i (κ 34 (κ 20 1 i) 0)), (7, z_i (cFo κ (κ 20 1 i) k n)), (6, .ref (B 20 (κ 20 1 i))), (0, .ref (B 0 0)), (1, z_i k), (2, z_i n), (5, z_i i)]) rfl ?_
            refine z_iinc hY eX7_inForm_82 7 rfl (ls' := [(5, z_i (i + 1)), (4, z_i (cFo κ (κ 20 1 i) k n)), (3, z_i (κ 34 (κ 20 1 i) 0)), (7, z_i (cFo κ (κ 20 1 i) k n)), (6, .ref (B 20 (κ 20 1 i))), (0, .ref (B 0 0)), (1, z_i k), (2, z_i n)]) rfl ?_
            refine z_goto hY eX7_inForm_85 ?_
            refine z_sub [5, 6, 7, 0, 2, 1] (ls' := [(0, .ref (B 0 0)), (1, z_i k), (2, z_i n), (5, z_i (i + 1)), (3, z_i (κ 34 (κ 20 1 i) 0)), (4, z_i (cFo κ (κ 20 1 i) k n))]) rfl ?_
            exact ih18 (i + 1) (κ 34 (κ 20 1 i) 0) (cFo κ (κ 20 1 i) k n) R4 (by omega) hR4 (by omega) (by first | exact (cIf_y (by omega) (by omega)).symm.trans hn | exact (cIf_n (by omega) (by omega)).symm.trans hn)
  exact lp18 _ 0 (-1) 0 (κ 2 0) (Nat.lt_succ_self _) (hS.s2 0) (by omega) rfl
theorem c_lineUp {G : z_G} {D : Nat} {B : Nat → Int → Nat} {κ : c_K} {h : z_H} (hG : z_OK G) (hJ : cJ B κ) (hB : cB κ) (hV : cV κ) (hS : cS κ) {r o : Int} (hrr : -2147483648 ≤ r ∧ r ≤ 2147483647) (hro : -2147483648 ≤ o ∧ o ≤ 2147483647) : z_T G mX7_lineUp [.ref (B 0 0), z_i r, z_i o] (cH D B κ h) 3 0 0 (fun v h' => v = some (z_i ((cLu κ r o).2)) ∧ ∃ R : Int → Int, (∀ j, -1 ≤ R j ∧ R j ≤ 30) ∧ R = (cLu κ r o).1 ∧ (0 ≤ (cLu κ r o).2 ∧ (cLu κ r o).2 ≤ 30) ∧ h' = cH D B (k_r κ 3 0 R) h) (z_no) := by
  obtain ⟨hn, hsz, hrw, hcu, htl, hth⟩ := id hV
  have hs0 := hsz 0 (by omega) (by omega)
  have hs1 := hsz 1 (by omega) (by omega)
  have hs2 := hsz 2 (by omega) (by omega)
  have hs3 := hsz 3 (by omega) (by omega)
  refine z_T_of hG pX7_lineUp (Nat.le_of_ble_eq_true rfl) (ls0 := [(0, .ref (B 0 0)), (1, z_i r), (2, z_i o)]) rfl fun Y hY hg hmc hms hφ hψ => ?_
  subst hg
  refine z_aload hY eX7_lineUp_0 0 rfl ?_
  refine c_gf hY hJ eX7_lineUp_1 (t := 0) (i := 0) (v := .ref (B 13 0)) (by omega) rfl rfl ?_
  refine z_const hY eX7_lineUp_4 ?_
  refine z_callS (As := [.ref (B 13 0), z_i (-1)]) (rest := []) hY eX7_lineUp_5 (c_fill (t := 13) (N := 30) (key := 3) (i := 0) hG hJ (by decide) rfl (by omega) (fun _ => rfl) (by decide)) (by decide) (Nat.le_of_ble_eq_true rfl) ⟨Nat.zero_le _, Nat.zero_le _⟩ (fun _ _ q => q.elim) (fun vv1 hh1 q1 => ?_)
  obtain ⟨rfl, rfl⟩ := q1
  refine z_heq (show _ = cH D B (k_r κ 3 0 (luF κ r o 0)) h from rfl) ?_
  have hF0 : ∀ j, -1 ≤ luF κ r o 0 j ∧ luF κ r o 0 j ≤ 30 := fun j => by have := hS.s3 0 j; show -1 ≤ ite _ _ _ ∧ ite _ _ _ ≤ 30; split <;> omega
  refine z_const hY eX7_lineUp_8 ?_
  refine z_istore hY eX7_lineUp_9 (ls' := [(3, z_i 0), (0, .ref (B 0 0)), (1, z_i r), (2, z_i o)]) rfl ?_
  refine z_sub [1, 2, 3, 0] (ls' := [(0, .ref (B 0 0)), (1, z_i r), (2, z_i o), (3, z_i 0)]) rfl ?_
  have lp10 : ∀ (fu : Nat) (i : Int) (R : Int → Int), (κ 24 0 0 - i).toNat < fu → (∀ j, -1 ≤ R j ∧ R j ≤ 30) → (0 ≤ i ∧ i ≤ κ 24 0 0) → (R = luF κ r o i.toNat) → z_W Y 10 [(0, .ref (B 0 0)), (1, z_i r), (2, z_i o), (3, z_i i)] [] (cH D B (k_r κ 3 0 (R)) h) 0 0 := by
    intro fu
    induction fu with
    | zero => intro i R hf; exact absurd hf (Nat.not_lt_zero _)
    | succ fu ih10 =>
      intro i R hf hR h0 hn
      refine z_iload hY eX7_lineUp_10 3 rfl ?_
      refine z_aload hY eX7_lineUp_11 0 rfl ?_
      refine c_gf hY (cJ_r (by decide) hJ) eX7_lineUp_12 (t := 0) (i := 0) (v := .ref (B 7 0)) ((cL_r (by decide) _ _).mpr (by omega)) rfl rfl ?_
      refine z_callVr (As := []) (rest := [z_i i]) (r := z_i (κ 24 0 0)) hY eX7_lineUp_15 (c_size (κ := k_r κ 3 0 (R)) hG (cJ_r (by decide) hJ) (cS_r hS (by decide) hR).b (cV_r hV (by decide)) (by omega)) (cH_at (t := 7) (i := 0) (cJ_r (by decide) hJ) ((cL_r (by decide) _ _).mpr (by omega))) (by decide) (Nat.le_of_ble_eq_true rfl) ⟨Nat.zero_le _, Nat.zero_le _⟩ ?_
      refine z_icmpge hY eX7_lineUp_18 (by omega) (fun c18 => ?_) (fun c18 => ?_)
      · refine z_const hY eX7_lineUp_88 ?_
        refine z_istore hY eX7_lineUp_89 (ls' := [(3, z_i 0), (0, .ref (B 0 0)), (1, z_i r), (2, z_i o)]) rfl ?_
        refine z_const hY eX7_lineUp_90 ?_
        refine z_istore hY eX7_lineUp_91 (ls' := [(4, z_i 0), (3, z_i 0), (0, .ref (B 0 0)), (1, z_i r), (2, z_i o)]) rfl ?_
        refine z_sub [2, 0, 1] (ls' := [(0, .ref (B 0 0)), (4, z_i 0), (3, z_i 0)]) rfl ?_
        have lp93 : ∀ (fu : Nat) (i : Int) (c : Int) (R : Int → Int), (30 - i).toNat < fu → (∀ j, -1 ≤ R j ∧ R j ≤ 30) → (0 ≤ i ∧ i ≤ 30 ∧ 0 ≤ c ∧ c ≤ i) → (cmL (30 - i).toNat R i c = cLu κ r o) → z_W Y 93 [(0, .ref (B 0 0)), (4, z_i i), (3, z_i c)] [] (cH D B (k_r κ 3 0 (R)) h) 0 0 := by
          intro fu
          induction fu with
          | zero => intro i c R hf; exact absurd hf (Nat.not_lt_zero _)
          | succ fu ih93 =>
            intro i c R hf hR h1 hm
            refine z_iload hY eX7_lineUp_93 1 rfl ?_
            refine z_const hY eX7_lineUp_95 ?_
            refine z_icmpge hY eX7_lineUp_97 (by omega) (fun c97 => ?_) (fun c97 => ?_)
            · refine z_iload hY eX7_lineUp_139 2 rfl ?_
              exact z_ireturn hY eX7_lineUp_140 rfl (by rw [hφ]; rw [cq_e (by omega)] at hm; exact ⟨by rw [← hm], R, hR, by rw [← hm], by rw [← hm]; show 0 ≤ c ∧ c ≤ 30; omega, rfl⟩) ⟨Nat.zero_le _, Nat.zero_le _⟩
            · refine z_aload hY eX7_lineUp_100 0 rfl ?_
              refine c_gf hY (cJ_r (by decide) hJ) eX7_lineUp_101 (t := 0) (i := 0) (v := .ref (B 13 0)) ((cL_r (by decide) _ _).mpr (by omega)) rfl rfl ?_
              refine z_iload hY eX7_lineUp_104 1 rfl ?_
              have hb2 := hR i
              refine c_ial hY (cJ_r (by decide) hJ) eX7_lineUp_106 (t := 13) (N := 30) (key := 3) (i := 0) (x := R i) ((cL_r (by decide) _ _).mpr (by omega)) rfl (by omega) (congrFun k_r_eq _) ?_
              refine z_const hY eX7_lineUp_107 ?_
              refine z_icmpeq hY eX7_lineUp_108 (by omega) (fun c108 => ?_) (fun c108 => ?_)
              · refine z_iinc hY eX7_lineUp_133 1 rfl (ls' := [(4, z_i (i + 1)), (0, .ref (B 0 0)), (3, z_i c)]) rfl ?_
                refine z_goto hY eX7_lineUp_136 ?_
                refine z_sub [1, 0, 2] (ls' := [(0, .ref (B 0 0)), (4, z_i (i + 1)), (3, z_i c)]) rfl ?_
                exact ih93 (i + 1) c R (by omega) hR (by omega) (by first | exact (cq_y (by omega) (by omega)).symm.trans hm | exact (cq_n (by omega) (by omega)).symm.trans hm)
              · refine z_iload hY eX7_lineUp_111 2 rfl ?_
                refine z_iload hY eX7_lineUp_112 1 rfl ?_
                refine z_icmpgt hY eX7_lineUp_114 (by omega) (fun c => by exfalso; omega) (fun c114 => ?_)
                refine z_aload hY eX7_lineUp_117 0 rfl ?_
                refine c_gf hY (cJ_r (by decide) hJ) eX7_lineUp_118 (t := 0) (i := 0) (v := .ref (B 13 0)) ((cL_r (by decide) _ _).mpr (by omega)) rfl rfl ?_
                refine z_iload hY eX7_lineUp_121 2 rfl ?_
                refine z_aload hY eX7_lineUp_122 0 rfl ?_
                refine c_gf hY (cJ_r (by decide) hJ) eX7_lineUp_123 (t := 0) (i := 0) (v := .ref (B 13 0)) ((cL_r (by decide) _ _).mpr (by omega)) rfl rfl ?_
                refine z_iload hY eX7_lineUp_126 1 rfl ?_
                refine c_ial hY (cJ_r (by decide) hJ) eX7_lineUp_128 (t := 13) (N := 30) (key := 3) (i := 0) (x := R i) ((cL_r (by decide) _ _).mpr (by omega)) rfl (by omega) (congrFun k_r_eq _) ?_
                refine c_ias hY (cJ_r (by decide) hJ) eX7_lineUp_129 (t := 13) (N := 30) (key := 3) (i := 0) (by decide) rfl ((cL_r (by decide) _ _).mpr (by omega)) (fun _ => rfl) (by omega) ?_
                refine z_heq (congrArg (fun q => cH D B q h) k_r_up) ?_
                refine z_iinc hY eX7_lineUp_130 2 rfl (ls' := [(3, z_i (c + 1)), (0, .ref (B 0 0)), (4, z_i i)]) rfl ?_
                refine z_iinc hY eX7_lineUp_133 2 rfl (ls' := [(4, z_i (i + 1)), (3, z_i (c + 1)), (0, .ref (B 0 0))]) rfl ?_
                refine z_goto hY eX7_lineUp_136 ?_
                refine z_sub [2, 0, 1] (ls' := [(0, .ref (B 0 0)), (4, z_i (i + 1)), (3, z_i (c + 1))]) rfl ?_
                exact ih93 (i + 1) (c + 1) (z_up R c (R i)) (by omega) (z_upb hR (by omega)) (by omega) (by first | exact (cq_y (by omega) (by omega)).symm.trans hm | exact (cq_n (by omega) (by omega)).symm.trans hm)
        exact lp93 _ 0 0 R (Nat.lt_succ_self _) hR (by omega) (by rw [hn, show i = κ 24 0 0 by omega]; rfl)
      · refine z_aload hY eX7_lineUp_21 0 rfl ?_
        refine c_gf hY (cJ_r (by decide) hJ) eX7_lineUp_22 (t := 0) (i := 0) (v := .ref (B 7 0)) ((cL_r (by decide) _ _).mpr (by omega)) rfl rfl ?_
        refine z_iload hY eX7_lineUp_25 3 rfl ?_
        refine z_callVr (As := [z_i i]) (rest := []) (r := .ref (B 20 i)) hY eX7_lineUp_26 (c_get0 (κ := k_r κ 3 0 (R)) hG (cJ_r (by decide) hJ) (cS_r hS (by decide) hR).b (cV_r hV (by decide)) (cS_r hS (by decide) hR) (show 0 ≤ i ∧ i < κ 24 0 0 by omega)) (cH_at (t := 7) (i := 0) (cJ_r (by decide) hJ) ((cL_r (by decide) _ _).mpr (by omega))) (by decide) (Nat.le_of_ble_eq_true rfl) ⟨Nat.zero_le _, Nat.zero_le _⟩ ?_
        refine z_cast hY eX7_lineUp_29 (ci := 0) (nm := "StandingsHall$Entrant") (T := TX0) (N := 11) rfl (cH_at (t := 20) (i := i) (cJ_r (by decide) hJ) ((cL_r (by decide) _ _).mpr (by omega))) ?_
        refine z_astore hY eX7_lineUp_32 (ls' := [(4, .ref (B 20 i)), (0, .ref (B 0 0)), (1, z_i r), (2, z_i o), (3, z_i i)]) rfl ?_
        refine z_aload hY eX7_lineUp_34 1 rfl ?_
        refine z_aload hY eX7_lineUp_35 0 rfl ?_
        refine z_iload hY eX7_lineUp_37 2 rfl ?_
        refine z_callVr (As := [.ref (B 20 i), z_i r]) (rest := []) (r := z_i (cPa κ r i)) hY eX7_lineUp_38 (c_placeAt (κ := k_r κ 3 0 (R)) hG (cJ_r (by decide) hJ) (cS_r hS (by decide) hR).b (cV_r hV (by decide)) (cS_r hS (by decide) hR) (show -1 ≤ i ∧ i < κ 24 0 0 by omega) (by omega)) (cH_at (t := 0) (i := 0) (cJ_r (by decide) hJ) ((cL_r (by decide) _ _).mpr (by omega))) (by decide) (Nat.le_of_ble_eq_true rfl) ⟨Nat.zero_le _, Nat.zero_le _⟩ ?_
        have hc3 := cPa_b hS r i
        refine z_istore hY eX7_lineUp_41 (ls' := [(5, z_i (cPa κ r i)), (4, .ref (B 20 i)), (0, .ref (B 0 0)), (1, z_i r), (2, z_i o), (3, z_i i)]) rfl ?_
        refine z_aload hY eX7_lineUp_43 2 rfl ?_
        refine z_aload hY eX7_lineUp_44 1 rfl ?_
        refine z_iload hY eX7_lineUp_46 4 rfl ?_
        refine z_callVr (As := [.ref (B 20 i), z_i o]) (rest := []) (r := z_i (cPa κ o i)) hY eX7_lineUp_47 (c_placeAt (κ := k_r κ 3 0 (R)) hG (cJ_r (by decide) hJ) (cS_r hS (by decide) hR).b (cV_r hV (by decide)) (cS_r hS (by decide) hR) (show -1 ≤ i ∧ i < κ 24 0 0 by omega) (by omega)) (cH_at (t := 0) (i := 0) (cJ_r (by decide) hJ) ((cL_r (by decide) _ _).mpr (by omega))) (by decide) (Nat.le_of_ble_eq_true rfl) ⟨Nat.zero_le _, Nat.zero_le _⟩ ?_
        have hc4 := cPa_b hS o i
        refine z_istore hY eX7_lineUp_50 (ls' := [(6, z_i (cPa κ o i)), (5, z_i (cPa κ r i)), (4, .ref (B 20 i)), (0, .ref (B 0 0)), (1, z_i r), (2, z_i o), (3, z_i i)]) rfl ?_
        refine z_iload hY eX7_lineUp_52 1 rfl ?_
        refine z_const hY eX7_lineUp_54 ?_
        refine z_icmplt hY eX7_lineUp_55 (by omega) (fun c55 => ?_) (fun c55 => ?_)
        · refine z_iinc hY eX7_lineUp_82 6 rfl (ls' := [(3, z_i (i + 1)), (6, z_i (cPa κ o i)), (5, z_i (cPa κ r i)), (4, .ref (B 20 i)), (0, .ref (B 0 0)), (1, z_i r), (2, z_i o)]) rfl ?_
          refine z_goto hY eX7_lineUp_85 ?_
          refine z_sub [4, 5, 6, 0] (ls' := [(0, .ref (B 0 0)), (1, z_i r), (2, z_i o), (3, z_i (i + 1))]) rfl ?_
          exact ih10 (i + 1) R (by omega) hR (by omega) (by rw [hn]; first | exact (lu_y (by omega) (by omega)).symm | exact (lu_n (by omega) (by omega)).symm)
        · refine z_iload hY eX7_lineUp_58 1 rfl ?_
          refine z_const hY eX7_lineUp_60 ?_
          refine z_icmpgt hY eX7_lineUp_62 (by omega) (fun c62 => ?_) (fun c62 => ?_)
          · refine z_iinc hY eX7_lineUp_82 6 rfl (ls' := [(3, z_i (i + 1)), (6, z_i (cPa κ o i)), (5, z_i (cPa κ r i)), (4, .ref (B 20 i)), (0, .ref (B 0 0)), (1, z_i r), (2, z_i o)]) rfl ?_
            refine z_goto hY eX7_lineUp_85 ?_
            refine z_sub [4, 5, 6, 0] (ls' := [(0, .ref (B 0 0)), (1, z_i r), (2, z_i o), (3, z_i (i + 1))]) rfl ?_
            exact ih10 (i + 1) R (by omega) hR (by omega) (by rw [hn]; first | exact (lu_y (by omega) (by omega)).symm | exact (lu_n (by omega) (by omega)).symm)
          · refine z_iload hY eX7_lineUp_65 0 rfl ?_
            refine z_const hY eX7_lineUp_67 ?_
            refine z_icmpeq hY eX7_lineUp_68 (by omega) (fun c68 => ?_) (fun c68 => ?_)
            · refine z_iinc hY eX7_lineUp_82 6 rfl (ls' := [(3, z_i (i + 1)), (6, z_i (cPa κ o i)), (5, z_i (cPa κ r i)), (4, .ref (B 20 i)), (0, .ref (B 0 0)), (1, z_i r), (2, z_i o)]) rfl ?_
              refine z_goto hY eX7_lineUp_85 ?_
              refine z_sub [4, 5, 6, 0] (ls' := [(0, .ref (B 0 0)), (1, z_i r), (2, z_i o), (3, z_i (i + 1))]) rfl ?_
              exact ih10 (i + 1) R (by omega) hR (by omega) (by rw [hn]; first | exact (lu_y (by omega) (by omega)).symm | exact (lu_n (by omega) (by omega)).symm)
            · refine z_aload hY eX7_lineUp_71 3 rfl ?_
              refine c_gf hY (cJ_r (by decide) hJ) eX7_lineUp_72 (t := 0) (i := 0) (v := .ref (B 13 0)) ((cL_r (by decide) _ _).mpr (by omega)) rfl rfl ?_
              refine z_iload hY eX7_lineUp_75 1 rfl ?_
              refine z_const hY eX7_lineUp_77 ?_
              refine z_isub hY eX7_lineUp_78 ?_
              refine z_iload hY eX7_lineUp_79 0 rfl ?_
              refine c_ias hY (cJ_r (by decide) hJ) eX7_lineUp_81 (t := 13) (N := 30) (key := 3) (i := 0) (by decide) rfl ((cL_r (by decide) _ _).mpr (by omega)) (fun _ => rfl) (by omega) ?_
              refine z_heq (congrArg (fun q => cH D B q h) k_r_up) ?_
              refine z_iinc hY eX7_lineUp_82 6 rfl (ls' := [(3, z_i (i + 1)), (6, z_i (cPa κ o i)), (5, z_i (cPa κ r i)), (4, .ref (B 20 i)), (0, .ref (B 0 0)), (1, z_i r), (2, z_i o)]) rfl ?_
              refine z_goto hY eX7_lineUp_85 ?_
              refine z_sub [4, 5, 6, 0] (ls' := [(0, .ref (B 0 0)), (1, z_i r), (2, z_i o), (3, z_i (i + 1))]) rfl ?_
              exact ih10 (i + 1) (z_up R ((cPa κ r i) - 1) (cPa κ o i)) (by omega) (z_upb hR (by omega)) (by omega) (by rw [hn]; first | exact (lu_y (by omega) (by omega)).symm | exact (lu_n (by omega) (by omega)).symm)
  exact lp10 _ 0 (luF κ r o 0) (Nat.lt_succ_self _) hF0 (by omega) rfl
theorem c_swapN {G : z_G} {D : Nat} {B : Nat → Int → Nat} {κ : c_K} {h : z_H} (hG : z_OK G) (hJ : cJ B κ) (hB : cB κ) (hV : cV κ) (hS : cS κ) {n : Int} (hn : 0 ≤ n ∧ n ≤ 30) {R : Int → Int} (hR : ∀ j, -1 ≤ R j ∧ R j ≤ 30) : z_T G mX7_swapNeighbours [.ref (B 0 0), z_i n] (cH D B (k_r κ 3 0 R) h) 1 0 0 (fun v h' => v = some (z_i ((swN R n).2)) ∧ ∃ R' : Int → Int, (∀ j, -1 ≤ R' j ∧ R' j ≤ 30) ∧ R' = (swN R n).1 ∧ h' = cH D B (k_r κ 3 0 R') h) (z_no) := by
  obtain ⟨hn, hsz, hrw, hcu, htl, hth⟩ := id hV
  have hs0 := hsz 0 (by omega) (by omega)
  have hs1 := hsz 1 (by omega) (by omega)
  have hs2 := hsz 2 (by omega) (by omega)
  have hs3 := hsz 3 (by omega) (by omega)
  refine z_T_of hG pX7_swapNeighbours (Nat.le_of_ble_eq_true rfl) (ls0 := [(0, .ref (B 0 0)), (1, z_i n)]) rfl fun Y hY hg hmc hms hφ hψ => ?_
  subst hg
  refine z_const hY eX7_swapNeighbours_0 ?_
  refine z_istore hY eX7_swapNeighbours_1 (ls' := [(2, z_i 0), (0, .ref (B 0 0)), (1, z_i n)]) rfl ?_
  refine z_const hY eX7_swapNeighbours_2 ?_
  refine z_istore hY eX7_swapNeighbours_3 (ls' := [(3, z_i 0), (2, z_i 0), (0, .ref (B 0 0)), (1, z_i n)]) rfl ?_
  refine z_sub [2, 3, 0, 1] (ls' := [(0, .ref (B 0 0)), (1, z_i n), (3, z_i 0), (2, z_i 0)]) rfl ?_
  have lp4 : ∀ (fu : Nat) (i : Int) (m : Int) (S : Int → Int), (30 - i).toNat < fu → (∀ j, -1 ≤ S j ∧ S j ≤ 30) → (0 ≤ i ∧ 0 ≤ m ∧ m ≤ i ∧ i ≤ 30) → (swL (n - 1 - i).toNat S i m = swN R n) → z_W Y 4 [(0, .ref (B 0 0)), (1, z_i n), (3, z_i i), (2, z_i m)] [] (cH D B (k_r κ 3 0 (S)) h) 0 0 := by
    intro fu
    induction fu with
    | zero => intro i m S hf; exact absurd hf (Nat.not_lt_zero _)
    | succ fu ih4 =>
      intro i m S hf hS h0 hm
      refine z_iload hY eX7_swapNeighbours_4 2 rfl ?_
      refine z_const hY eX7_swapNeighbours_5 ?_
      refine z_iadd hY eX7_swapNeighbours_6 ?_
      refine z_iload hY eX7_swapNeighbours_7 1 rfl ?_
      refine z_icmpge hY eX7_swapNeighbours_8 (by omega) (fun c8 => ?_) (fun c8 => ?_)
      · refine z_iload hY eX7_swapNeighbours_77 3 rfl ?_
        exact z_ireturn hY eX7_swapNeighbours_78 rfl (by rw [hφ]; rw [sw_e (by omega)] at hm; exact ⟨by rw [← hm], S, hS, by rw [← hm], rfl⟩) ⟨Nat.zero_le _, Nat.zero_le _⟩
      · refine z_iload hY eX7_swapNeighbours_11 2 rfl ?_
        refine z_const hY eX7_swapNeighbours_12 ?_
        refine z_iadd hY eX7_swapNeighbours_13 ?_
        refine z_const hY eX7_swapNeighbours_14 ?_
        refine z_icmpge hY eX7_swapNeighbours_16 (by omega) (fun c => by exfalso; omega) (fun c16 => ?_)
        refine z_aload hY eX7_swapNeighbours_19 0 rfl ?_
        refine c_gf hY (cJ_r (by decide) hJ) eX7_swapNeighbours_20 (t := 0) (i := 0) (v := .ref (B 13 0)) ((cL_r (by decide) _ _).mpr (by omega)) rfl rfl ?_
        refine z_iload hY eX7_swapNeighbours_23 2 rfl ?_
        have hb1 := hS i
        refine c_ial hY (cJ_r (by decide) hJ) eX7_swapNeighbours_24 (t := 13) (N := 30) (key := 3) (i := 0) (x := S i) ((cL_r (by decide) _ _).mpr (by omega)) rfl (by omega) (congrFun k_r_eq _) ?_
        refine z_aload hY eX7_swapNeighbours_25 0 rfl ?_
        refine c_gf hY (cJ_r (by decide) hJ) eX7_swapNeighbours_26 (t := 0) (i := 0) (v := .ref (B 13 0)) ((cL_r (by decide) _ _).mpr (by omega)) rfl rfl ?_
        refine z_iload hY eX7_swapNeighbours_29 2 rfl ?_
        refine z_const hY eX7_swapNeighbours_30 ?_
        refine z_iadd hY eX7_swapNeighbours_31 ?_
        have hb2 := hS (i + 1)
        refine c_ial hY (cJ_r (by decide) hJ) eX7_swapNeighbours_32 (t := 13) (N := 30) (key := 3) (i := 0) (x := S (i + 1)) ((cL_r (by decide) _ _).mpr (by omega)) rfl (by omega) (congrFun k_r_eq _) ?_
        refine z_icmple hY eX7_swapNeighbours_33 (by omega) (fun c33 => ?_) (fun c33 => ?_)
        · refine z_iinc hY eX7_swapNeighbours_71 2 rfl (ls' := [(3, z_i (i + 1)), (0, .ref (B 0 0)), (1, z_i n), (2, z_i m)]) rfl ?_
          refine z_goto hY eX7_swapNeighbours_74 ?_
          refine z_sub [1, 2, 0, 3] (ls' := [(0, .ref (B 0 0)), (1, z_i n), (3, z_i (i + 1)), (2, z_i m)]) rfl ?_
          exact ih4 (i + 1) m S (by omega) hS (by omega) (by first | exact (sw_y (by omega) (by omega)).symm.trans hm | exact (sw_n (by omega) (by omega)).symm.trans hm)
        · refine z_aload hY eX7_swapNeighbours_36 0 rfl ?_
          refine c_gf hY (cJ_r (by decide) hJ) eX7_swapNeighbours_37 (t := 0) (i := 0) (v := .ref (B 13 0)) ((cL_r (by decide) _ _).mpr (by omega)) rfl rfl ?_
          refine z_iload hY eX7_swapNeighbours_40 2 rfl ?_
          refine c_ial hY (cJ_r (by decide) hJ) eX7_swapNeighbours_41 (t := 13) (N := 30) (key := 3) (i := 0) (x := S i) ((cL_r (by decide) _ _).mpr (by omega)) rfl (by omega) (congrFun k_r_eq _) ?_
          refine z_istore hY eX7_swapNeighbours_42 (ls' := [(4, z_i (S i)), (0, .ref (B 0 0)), (1, z_i n), (3, z_i i), (2, z_i m)]) rfl ?_
          refine z_aload hY eX7_swapNeighbours_44 1 rfl ?_
          refine c_gf hY (cJ_r (by decide) hJ) eX7_swapNeighbours_45 (t := 0) (i := 0) (v := .ref (B 13 0)) ((cL_r (by decide) _ _).mpr (by omega)) rfl rfl ?_
          refine z_iload hY eX7_swapNeighbours_48 3 rfl ?_
          refine z_aload hY eX7_swapNeighbours_49 1 rfl ?_
          refine c_gf hY (cJ_r (by decide) hJ) eX7_swapNeighbours_50 (t := 0) (i := 0) (v := .ref (B 13 0)) ((cL_r (by decide) _ _).mpr (by omega)) rfl rfl ?_
          refine z_iload hY eX7_swapNeighbours_53 3 rfl ?_
          refine z_const hY eX7_swapNeighbours_54 ?_
          refine z_iadd hY eX7_swapNeighbours_55 ?_
          refine c_ial hY (cJ_r (by decide) hJ) eX7_swapNeighbours_56 (t := 13) (N := 30) (key := 3) (i := 0) (x := S (i + 1)) ((cL_r (by decide) _ _).mpr (by omega)) rfl (by omega) (congrFun k_r_eq _) ?_
          refine c_ias hY (cJ_r (by decide) hJ) eX7_swapNeighbours_57 (t := 13) (N := 30) (key := 3) (i := 0) (by decide) rfl ((cL_r (by decide) _ _).mpr (by omega)) (fun _ => rfl) (by omega) ?_
          refine z_heq (congrArg (fun q => cH D B q h) k_r_up) ?_
          refine z_aload hY eX7_swapNeighbours_58 1 rfl ?_
          refine c_gf hY (cJ_r (by decide) hJ) eX7_swapNeighbours_59 (t := 0) (i := 0) (v := .ref (B 13 0)) ((cL_r (by decide) _ _).mpr (by omega)) rfl rfl ?_
          refine z_iload hY eX7_swapNeighbours_62 3 rfl ?_
          refine z_const hY eX7_swapNeighbours_63 ?_
          refine z_iadd hY eX7_swapNeighbours_64 ?_
          refine z_iload hY eX7_swapNeighbours_65 0 rfl ?_
          refine c_ias hY (cJ_r (by decide) hJ) eX7_swapNeighbours_67 (t := 13) (N := 30) (key := 3) (i := 0) (by decide) rfl ((cL_r (by decide) _ _).mpr (by omega)) (fun _ => rfl) (by omega) ?_
          refine z_heq (congrArg (fun q => cH D B q h) k_r_up) ?_
          refine z_iinc hY eX7_swapNeighbours_68 4 rfl (ls' := [(2, z_i (m + 1)), (4, z_i (S i)), (0, .ref (B 0 0)), (1, z_i n), (3, z_i i)]) rfl ?_
          refine z_iinc hY eX7_swapNeighbours_71 4 rfl (ls' := [(3, z_i (i + 1)), (2, z_i (m + 1)), (4, z_i (S i)), (0, .ref (B 0 0)), (1, z_i n)]) rfl ?_
          refine z_goto hY eX7_swapNeighbours_74 ?_
          refine z_sub [3, 4, 0, 1] (ls' := [(0, .ref (B 0 0)), (1, z_i n), (3, z_i (i + 1)), (2, z_i (m + 1))]) rfl ?_
          exact ih4 (i + 1) (m + 1) (z_up (z_up S i (S (i + 1))) (i + 1) (S i)) (by omega) (z_upb (z_upb hS (by omega)) (by omega)) (by omega) (by first | exact (sw_y (by omega) (by omega)).symm.trans hm | exact (sw_n (by omega) (by omega)).symm.trans hm)
  exact lp4 _ 0 0 R (Nat.lt_succ_self _) hR (by omega) rfl
theorem q_swaps {G : z_G} {D : Nat} {B : Nat → Int → Nat} {κ : c_K} {h : z_H} (hG : z_OK G) (hJ : cJ B κ) (hB : cB κ) (hV : cV κ) (hS : cS κ) {r o : Int} (hrr : -2147483648 ≤ r ∧ r ≤ 2147483647) (hro : -2147483648 ≤ o ∧ o ≤ 2147483647) : z_T G mX7_swaps [.ref (B 0 0), z_i r, z_i o] (cH D B κ h) 5 2 12 (fun v h' => ((r = -1 ∨ (0 ≤ r ∧ r < κ 1 0 0 ∧ κ 1 0 0 - 20 ≤ r)) ∧ (o = -1 ∨ (0 ≤ o ∧ o < κ 1 0 0 ∧ κ 1 0 0 - 20 ≤ o))) ∧ v = some (z_i (swP (cLu κ r o).2 ((cLu κ r o).2 - 0).toNat (cLu κ r o).1 0)) ∧ ∃ R : Int → Int, (∀ j, -1 ≤ R j ∧ R j ≤ 30) ∧ h' = cH D B (k_r κ 3 0 R) h) (fun E h' => h' = cH D B κ h ∧ ((E = "java/util/NoSuchElementException" ∧ ¬ ((r = -1 ∨ (0 ≤ r ∧ r < κ 1 0 0 ∧ κ 1 0 0 - 20 ≤ r)) ∧ (o = -1 ∨ (0 ≤ o ∧ o < κ 1 0 0 ∧ κ 1 0 0 - 20 ≤ o)))))) := by
  obtain ⟨hn, hsz, hrw, hcu, htl, hth⟩ := id hV
  have hs0 := hsz 0 (by omega) (by omega)
  have hs1 := hsz 1 (by omega) (by omega)
  have hs2 := hsz 2 (by omega) (by omega)
  have hs3 := hsz 3 (by omega) (by omega)
  refine z_T_of hG pX7_swaps (Nat.le_of_ble_eq_true rfl) (ls0 := [(0, .ref (B 0 0)), (1, z_i r), (2, z_i o)]) rfl fun Y hY hg hmc hms hφ hψ => ?_
  subst hg
  refine z_aload hY eX7_swaps_0 0 rfl ?_
  refine z_iload hY eX7_swaps_1 1 rfl ?_
  refine z_callV (As := [z_i r]) (rest := []) hY eX7_swaps_2 (c_checkTold hG hJ hB hV hS (by omega)) (cH_at (t := 0) (i := 0) hJ (by omega)) (by decide) (Nat.le_of_ble_eq_true rfl) (by rw [hmc, hms]; omega) (fun E' h1 q => by obtain ⟨rfl, q⟩ := q; rw [hψ]; refine ⟨rfl, ?_⟩; obtain ⟨rfl, q⟩ := q <;> (first | exact ⟨rfl, by omega⟩ | exact Or.inl ⟨rfl, by omega⟩ | exact Or.inr ⟨rfl, by omega⟩ | exact Or.inr (Or.inl ⟨rfl, by omega⟩) | exact Or.inr (Or.inr ⟨rfl, by omega⟩))) (fun vv1 hh1 q1 => ?_)
  obtain ⟨hq1, rfl, rfl⟩ := q1
  refine z_aload hY eX7_swaps_5 0 rfl ?_
  refine z_iload hY eX7_swaps_6 2 rfl ?_
  refine z_callV (As := [z_i o]) (rest := []) hY eX7_swaps_7 (c_checkTold hG hJ hB hV hS (by omega)) (cH_at (t := 0) (i := 0) hJ (by omega)) (by decide) (Nat.le_of_ble_eq_true rfl) (by rw [hmc, hms]; omega) (fun E' h1 q => by obtain ⟨rfl, q⟩ := q; rw [hψ]; refine ⟨rfl, ?_⟩; obtain ⟨rfl, q⟩ := q <;> (first | exact ⟨rfl, by omega⟩ | exact Or.inl ⟨rfl, by omega⟩ | exact Or.inr ⟨rfl, by omega⟩ | exact Or.inr (Or.inl ⟨rfl, by omega⟩) | exact Or.inr (Or.inr ⟨rfl, by omega⟩))) (fun vv2 hh2 q2 => ?_)
  obtain ⟨hq2, rfl, rfl⟩ := q2
  refine z_aload hY eX7_swaps_10 0 rfl ?_
  refine z_iload hY eX7_swaps_11 1 rfl ?_
  refine z_iload hY eX7_swaps_12 2 rfl ?_
  refine z_callV (As := [z_i r, z_i o]) (rest := []) hY eX7_swaps_13 (c_lineUp (r := r) (o := o) hG hJ hB hV hS (by omega) (by omega)) (cH_at (t := 0) (i := 0) hJ (by omega)) (by decide) (Nat.le_of_ble_eq_true rfl) (by rw [hmc, hms]; omega) (fun _ _ q => q.elim) (fun vv3 hh3 q3 => ?_)
  obtain ⟨rfl, R3, hR3, hRe, hcn, rfl⟩ := q3
  refine z_istore hY eX7_swaps_16 (ls' := [(3, z_i ((cLu κ r o).2)), (0, .ref (B 0 0)), (1, z_i r), (2, z_i o)]) rfl ?_
  refine z_const hY eX7_swaps_17 ?_
  refine z_istore hY eX7_swaps_18 (ls' := [(4, z_i 0), (3, z_i ((cLu κ r o).2)), (0, .ref (B 0 0)), (1, z_i r), (2, z_i o)]) rfl ?_
  refine z_const hY eX7_swaps_20 ?_
  refine z_istore hY eX7_swaps_21 (ls' := [(5, z_i 0), (4, z_i 0), (3, z_i ((cLu κ r o).2)), (0, .ref (B 0 0)), (1, z_i r), (2, z_i o)]) rfl ?_
  refine z_sub [3, 4, 5, 2, 0, 1] (ls' := [(0, .ref (B 0 0)), (1, z_i r), (2, z_i o), (3, z_i ((cLu κ r o).2)), (5, z_i 0), (4, z_i 0)]) rfl ?_
  have lp23 : ∀ (fu : Nat) (p : Int) (m : Int) (R : Int → Int), ((cLu κ r o).2 - p).toNat < fu → (∀ j, -1 ≤ R j ∧ R j ≤ 30) → (0 ≤ p ∧ p ≤ (cLu κ r o).2 ∧ 0 ≤ m ∧ m ≤ 30 * p) → (swP (cLu κ r o).2 ((cLu κ r o).2 - p).toNat R m = swP (cLu κ r o).2 ((cLu κ r o).2 - 0).toNat (cLu κ r o).1 0) → z_W Y 23 [(0, .ref (B 0 0)), (1, z_i r), (2, z_i o), (3, z_i ((cLu κ r o).2)), (5, z_i p), (4, z_i m)] [] (cH D B (k_r κ 3 0 (R)) h) (0 + 1 + 1) (0 + 6 + 6) := by
    intro fu
    induction fu with
    | zero => intro p m R hf; exact absurd hf (Nat.not_lt_zero _)
    | succ fu ih23 =>
      intro p m R hf hR h0 hm
      refine z_iload hY eX7_swaps_23 4 rfl ?_
      refine z_iload hY eX7_swaps_25 3 rfl ?_
      refine z_icmpge hY eX7_swaps_26 (by omega) (fun c26 => ?_) (fun c26 => ?_)
      · refine z_iload hY eX7_swaps_45 5 rfl ?_
        exact z_ireturn hY eX7_swaps_47 rfl (by rw [hφ]; first | (exfalso; omega) | exact ⟨by omega, congrArg (fun q => some (z_i q)) (by rw [← hm, sp_e (by omega)]), _, hR, rfl⟩) (by rw [hmc, hms]; omega)
      · refine z_iload hY eX7_swaps_29 5 rfl ?_
        refine z_aload hY eX7_swaps_31 0 rfl ?_
        refine z_iload hY eX7_swaps_32 3 rfl ?_
        refine z_callV (As := [z_i ((cLu κ r o).2)]) (rest := [z_i m]) hY eX7_swaps_33 (c_swapN (n := ((cLu κ r o).2)) hG hJ hB hV hS (by omega) hR) (cH_at (t := 0) (i := 0) (cJ_r (by decide) hJ) ((cL_r (by decide) _ _).mpr (by omega))) (by decide) (Nat.le_of_ble_eq_true rfl) (by rw [hmc, hms]; omega) (fun _ _ q => q.elim) (fun vv4 hh4 q4 => ?_)
        obtain ⟨rfl, R4, hR4, hRw, rfl⟩ := q4
        have hsw : 0 ≤ (swN R ((cLu κ r o).2)).2 ∧ (swN R ((cLu κ r o).2)).2 ≤ 30 := swN_b hcn (by first | exact hR | exact hR1)
        refine z_iadd hY eX7_swaps_36 ?_
        refine z_istore hY eX7_swaps_37 (ls' := [(4, z_i (m + ((swN R ((cLu κ r o).2)).2))), (0, .ref (B 0 0)), (1, z_i r), (2, z_i o), (3, z_i ((cLu κ r o).2)), (5, z_i p)]) rfl ?_
        refine z_iinc hY eX7_swaps_39 5 rfl (ls' := [(5, z_i (p + 1)), (4, z_i (m + ((swN R ((cLu κ r o).2)).2))), (0, .ref (B 0 0)), (1, z_i r), (2, z_i o), (3, z_i ((cLu κ r o).2))]) rfl ?_
        refine z_goto hY eX7_swaps_42 ?_
        refine z_sub [2, 3, 4, 5, 0, 1] (ls' := [(0, .ref (B 0 0)), (1, z_i r), (2, z_i o), (3, z_i ((cLu κ r o).2)), (5, z_i (p + 1)), (4, z_i (m + ((swN R ((cLu κ r o).2)).2)))]) rfl ?_
        exact ih23 (p + 1) (m + ((swN R ((cLu κ r o).2)).2)) R4 (by omega) hR4 (by omega) (by rw [hRw]; exact (sp_s (by omega)).symm.trans hm)
  exact lp23 _ 0 0 R3 (Nat.lt_succ_self _) hR3 (by omega) (by rw [hRe])
theorem q_inversions {G : z_G} {D : Nat} {B : Nat → Int → Nat} {κ : c_K} {h : z_H} (hG : z_OK G) (hJ : cJ B κ) (hB : cB κ) (hV : cV κ) (hS : cS κ) {r o : Int} (hrr : -2147483648 ≤ r ∧ r ≤ 2147483647) (hro : -2147483648 ≤ o ∧ o ≤ 2147483647) : z_T G mX7_inversions [.ref (B 0 0), z_i r, z_i o] (cH D B κ h) 5 2 12 (fun v h' => ((r = -1 ∨ (0 ≤ r ∧ r < κ 1 0 0 ∧ κ 1 0 0 - 20 ≤ r)) ∧ (o = -1 ∨ (0 ≤ o ∧ o < κ 1 0 0 ∧ κ 1 0 0 - 20 ≤ o))) ∧ v = some (z_i (cPr (cLu κ r o).1 (cLu κ r o).2)) ∧ ∃ R : Int → Int, (∀ j, -1 ≤ R j ∧ R j ≤ 30) ∧ h' = cH D B (k_r κ 3 0 R) h) (fun E h' => h' = cH D B κ h ∧ ((E = "java/util/NoSuchElementException" ∧ ¬ ((r = -1 ∨ (0 ≤ r ∧ r < κ 1 0 0 ∧ κ 1 0 0 - 20 ≤ r)) ∧ (o = -1 ∨ (0 ≤ o ∧ o < κ 1 0 0 ∧ κ 1 0 0 - 20 ≤ o)))))) := by
  obtain ⟨hn, hsz, hrw, hcu, htl, hth⟩ := id hV
  have hs0 := hsz 0 (by omega) (by omega)
  have hs1 := hsz 1 (by omega) (by omega)
  have hs2 := hsz 2 (by omega) (by omega)
  have hs3 := hsz 3 (by omega) (by omega)
  refine z_T_of hG pX7_inversions (Nat.le_of_ble_eq_true rfl) (ls0 := [(0, .ref (B 0 0)), (1, z_i r), (2, z_i o)]) rfl fun Y hY hg hmc hms hφ hψ => ?_
  subst hg
  refine z_aload hY eX7_inversions_0 0 rfl ?_
  refine z_iload hY eX7_inversions_1 1 rfl ?_
  refine z_callV (As := [z_i r]) (rest := []) hY eX7_inversions_2 (c_checkTold hG hJ hB hV hS (by omega)) (cH_at (t := 0) (i := 0) hJ (by omega)) (by decide) (Nat.le_of_ble_eq_true rfl) (by rw [hmc, hms]; omega) (fun E' h1 q => by obtain ⟨rfl, q⟩ := q; rw [hψ]; refine ⟨rfl, ?_⟩; obtain ⟨rfl, q⟩ := q <;> (first | exact ⟨rfl, by omega⟩ | exact Or.inl ⟨rfl, by omega⟩ | exact Or.inr ⟨rfl, by omega⟩ | exact Or.inr (Or.inl ⟨rfl, by omega⟩) | exact Or.inr (Or.inr ⟨rfl, by omega⟩))) (fun vv1 hh1 q1 => ?_)
  obtain ⟨hq1, rfl, rfl⟩ := q1
  refine z_aload hY eX7_inversions_5 0 rfl ?_
  refine z_iload hY eX7_inversions_6 2 rfl ?_
  refine z_callV (As := [z_i o]) (rest := []) hY eX7_inversions_7 (c_checkTold hG hJ hB hV hS (by omega)) (cH_at (t := 0) (i := 0) hJ (by omega)) (by decide) (Nat.le_of_ble_eq_true rfl) (by rw [hmc, hms]; omega) (fun E' h1 q => by obtain ⟨rfl, q⟩ := q; rw [hψ]; refine ⟨rfl, ?_⟩; obtain ⟨rfl, q⟩ := q <;> (first | exact ⟨rfl, by omega⟩ | exact Or.inl ⟨rfl, by omega⟩ | exact Or.inr ⟨rfl, by omega⟩ | exact Or.inr (Or.inl ⟨rfl, by omega⟩) | exact Or.inr (Or.inr ⟨rfl, by omega⟩))) (fun vv2 hh2 q2 => ?_)
  obtain ⟨hq2, rfl, rfl⟩ := q2
  refine z_aload hY eX7_inversions_10 0 rfl ?_
  refine z_iload hY eX7_inversions_11 1 rfl ?_
  refine z_iload hY eX7_inversions_12 2 rfl ?_
  refine z_callV (As := [z_i r, z_i o]) (rest := []) hY eX7_inversions_13 (c_lineUp (r := r) (o := o) hG hJ hB hV hS (by omega) (by omega)) (cH_at (t := 0) (i := 0) hJ (by omega)) (by decide) (Nat.le_of_ble_eq_true rfl) (by rw [hmc, hms]; omega) (fun _ _ q => q.elim) (fun vv3 hh3 q3 => ?_)
  obtain ⟨rfl, R3, hR3, hRe, hcn, rfl⟩ := q3
  refine z_istore hY eX7_inversions_16 (ls' := [(3, z_i ((cLu κ r o).2)), (0, .ref (B 0 0)), (1, z_i r), (2, z_i o)]) rfl ?_
  refine z_const hY eX7_inversions_17 ?_
  refine z_istore hY eX7_inversions_18 (ls' := [(4, z_i 0), (3, z_i ((cLu κ r o).2)), (0, .ref (B 0 0)), (1, z_i r), (2, z_i o)]) rfl ?_
  refine z_const hY eX7_inversions_20 ?_
  refine z_istore hY eX7_inversions_21 (ls' := [(5, z_i 0), (4, z_i 0), (3, z_i ((cLu κ r o).2)), (0, .ref (B 0 0)), (1, z_i r), (2, z_i o)]) rfl ?_
  refine z_sub [3, 4, 5, 2, 0, 1] (ls' := [(0, .ref (B 0 0)), (1, z_i r), (2, z_i o), (3, z_i ((cLu κ r o).2)), (5, z_i 0), (4, z_i 0)]) rfl ?_
  have lp23 : ∀ (fu : Nat) (i : Int) (t : Int), ((cLu κ r o).2 - i).toNat < fu → (0 ≤ i ∧ i ≤ (cLu κ r o).2 ∧ 0 ≤ t ∧ t ≤ 30 * i) → (t = z_sm (fun i => z_sm (fun j => if i < j ∧ R3 j < R3 i then (1 : Int) else 0) (cLu κ r o).2) i) → z_W Y 23 [(0, .ref (B 0 0)), (1, z_i r), (2, z_i o), (3, z_i ((cLu κ r o).2)), (5, z_i i), (4, z_i t)] [] (cH D B (k_r κ 3 0 (R3)) h) (0 + 1 + 1) (0 + 6 + 6) := by
    intro fu
    induction fu with
    | zero => intro i t hf; exact absurd hf (Nat.not_lt_zero _)
    | succ fu ih23 =>
      intro i t hf h0 hn
      refine z_iload hY eX7_inversions_23 4 rfl ?_
      refine z_iload hY eX7_inversions_25 3 rfl ?_
      refine z_icmpge hY eX7_inversions_26 (by omega) (fun c26 => ?_) (fun c26 => ?_)
      · refine z_iload hY eX7_inversions_94 5 rfl ?_
        exact z_ireturn hY eX7_inversions_96 rfl (by rw [hφ]; first | (exfalso; omega) | exact ⟨by omega, congrArg (fun q => some (z_i q)) (by unfold cPr; rw [hn, show i = (cLu κ r o).2 by omega, hRe]), _, hR3, rfl⟩) (by rw [hmc, hms]; omega)
      · refine z_iload hY eX7_inversions_29 4 rfl ?_
        refine z_const hY eX7_inversions_31 ?_
        refine z_icmpge hY eX7_inversions_33 (by omega) (fun c => by exfalso; omega) (fun c33 => ?_)
        refine z_iload hY eX7_inversions_36 4 rfl ?_
        refine z_const hY eX7_inversions_38 ?_
        refine z_iadd hY eX7_inversions_39 ?_
        refine z_istore hY eX7_inversions_40 (ls' := [(6, z_i (i + 1)), (0, .ref (B 0 0)), (1, z_i r), (2, z_i o), (3, z_i ((cLu κ r o).2)), (5, z_i i), (4, z_i t)]) rfl ?_
        refine z_sub [1, 2, 3, 4, 5, 0, 6] (ls' := [(0, .ref (B 0 0)), (1, z_i r), (2, z_i o), (3, z_i ((cLu κ r o).2)), (5, z_i i), (6, z_i (i + 1)), (4, z_i t)]) rfl ?_
        have lp42 : ∀ (fu : Nat) (j : Int) (u : Int), ((cLu κ r o).2 - j).toNat < fu → (i + 1 ≤ j ∧ j ≤ (cLu κ r o).2 ∧ 0 ≤ u ∧ u ≤ t + (j - i)) → (u = z_sm (fun i => z_sm (fun j => if i < j ∧ R3 j < R3 i then (1 : Int) else 0) (cLu κ r o).2) i + z_sm (fun j => if i < j ∧ R3 j < R3 i then (1 : Int) else 0) j) → z_W Y 42 [(0, .ref (B 0 0)), (1, z_i r), (2, z_i o), (3, z_i ((cLu κ r o).2)), (5, z_i i), (6, z_i j), (4, z_i u)] [] (cH D B (k_r κ 3 0 (R3)) h) (0 + 1 + 1) (0 + 6 + 6) := by
          intro fu
          induction fu with
          | zero => intro j u hf; exact absurd hf (Nat.not_lt_zero _)
          | succ fu ih42 =>
            intro j u hf h1 hm
            refine z_iload hY eX7_inversions_42 5 rfl ?_
            refine z_iload hY eX7_inversions_44 3 rfl ?_
            refine z_icmpge hY eX7_inversions_45 (by omega) (fun c45 => ?_) (fun c45 => ?_)
            · refine z_iinc hY eX7_inversions_88 4 rfl (ls' := [(5, z_i (i + 1)), (0, .ref (B 0 0)), (1, z_i r), (2, z_i o), (3, z_i ((cLu κ r o).2)), (6, z_i j), (4, z_i u)]) rfl ?_
              refine z_goto hY eX7_inversions_91 ?_
              refine z_sub [1, 2, 3, 4, 0, 6] (ls' := [(0, .ref (B 0 0)), (1, z_i r), (2, z_i o), (3, z_i ((cLu κ r o).2)), (5, z_i (i + 1)), (4, z_i u)]) rfl ?_
              exact ih23 (i + 1) u (by omega) (by omega) (by rw [z_smS (by omega), hm, show j = (cLu κ r o).2 by omega])
            · refine z_iload hY eX7_inversions_48 5 rfl ?_
              refine z_const hY eX7_inversions_50 ?_
              refine z_icmpge hY eX7_inversions_52 (by omega) (fun c => by exfalso; omega) (fun c52 => ?_)
              refine z_iload hY eX7_inversions_55 6 rfl ?_
              refine z_aload hY eX7_inversions_57 0 rfl ?_
              refine c_gf hY (cJ_r (by decide) hJ) eX7_inversions_58 (t := 0) (i := 0) (v := .ref (B 13 0)) ((cL_r (by decide) _ _).mpr (by omega)) rfl rfl ?_
              refine z_iload hY eX7_inversions_61 4 rfl ?_
              have hb4 := hR3 i
              refine c_ial hY (cJ_r (by decide) hJ) eX7_inversions_63 (t := 13) (N := 30) (key := 3) (i := 0) (x := R3 i) ((cL_r (by decide) _ _).mpr (by omega)) rfl (by omega) (congrFun k_r_eq _) ?_
              refine z_aload hY eX7_inversions_64 0 rfl ?_
              refine c_gf hY (cJ_r (by decide) hJ) eX7_inversions_65 (t := 0) (i := 0) (v := .ref (B 13 0)) ((cL_r (by decide) _ _).mpr (by omega)) rfl rfl ?_
              refine z_iload hY eX7_inversions_68 5 rfl ?_
              have hb5 := hR3 j
              refine c_ial hY (cJ_r (by decide) hJ) eX7_inversions_70 (t := 13) (N := 30) (key := 3) (i := 0) (x := R3 j) ((cL_r (by decide) _ _).mpr (by omega)) rfl (by omega) (congrFun k_r_eq _) ?_
              refine z_icmple hY eX7_inversions_71 (by omega) (fun c71 => ?_) (fun c71 => ?_)
              · refine z_const hY eX7_inversions_78 ?_
                refine z_iadd hY eX7_inversions_79 ?_
                refine z_top (b := u) (by omega) ?_
                refine z_istore hY eX7_inversions_80 (ls' := [(4, z_i u), (0, .ref (B 0 0)), (1, z_i r), (2, z_i o), (3, z_i ((cLu κ r o).2)), (5, z_i i), (6, z_i j)]) rfl ?_
                refine z_iinc hY eX7_inversions_82 6 rfl (ls' := [(6, z_i (j + 1)), (4, z_i u), (0, .ref (B 0 0)), (1, z_i r), (2, z_i o), (3, z_i ((cLu κ r o).2)), (5, z_i i)]) rfl ?_
                refine z_goto hY eX7_inversions_85 ?_
                refine z_sub [2, 3, 4, 5, 6, 0, 1] (ls' := [(0, .ref (B 0 0)), (1, z_i r), (2, z_i o), (3, z_i ((cLu κ r o).2)), (5, z_i i), (6, z_i (j + 1)), (4, z_i u)]) rfl ?_
                exact ih42 (j + 1) u (by omega) (by omega) (by rw [z_smS (by omega), hm]; first | rw [if_pos ⟨by omega, by omega⟩]; omega | rw [if_neg (by omega)]; omega)
              · refine z_const hY eX7_inversions_74 ?_
                refine z_goto hY eX7_inversions_75 ?_
                refine z_iadd hY eX7_inversions_79 ?_
                refine z_istore hY eX7_inversions_80 (ls' := [(4, z_i (u + 1)), (0, .ref (B 0 0)), (1, z_i r), (2, z_i o), (3, z_i ((cLu κ r o).2)), (5, z_i i), (6, z_i j)]) rfl ?_
                refine z_iinc hY eX7_inversions_82 6 rfl (ls' := [(6, z_i (j + 1)), (4, z_i (u + 1)), (0, .ref (B 0 0)), (1, z_i r), (2, z_i o), (3, z_i ((cLu κ r o).2)), (5, z_i i)]) rfl ?_
                refine z_goto hY eX7_inversions_85 ?_
                refine z_sub [2, 3, 4, 5, 6, 0, 1] (ls' := [(0, .ref (B 0 0)), (1, z_i r), (2, z_i o), (3, z_i ((cLu κ r o).2)), (5, z_i i), (6, z_i (j + 1)), (4, z_i (u + 1))]) rfl ?_
                exact ih42 (j + 1) (u + 1) (by omega) (by omega) (by rw [z_smS (by omega), hm]; first | rw [if_pos ⟨by omega, by omega⟩]; omega | rw [if_neg (by omega)]; omega)
        exact lp42 _ (i + 1) t (Nat.lt_succ_self _) (by omega) (by rw [← hn, z_sm_zero fun j h1 h2 => if_neg (by omega)]; omega)
  exact lp23 _ 0 0 (Nat.lt_succ_self _) (by omega) (z_sm0 (by omega)).symm
end D4
