/-! The hall: its trial (laid by wip/whole/gen/gm34.py). -/
section D3
def kT1 (κ : c_K) (e : Int) : c_K := k_r (k_u κ 34 (-1) 0 (κ 34 e 0)) 30 (-1) (fun j => if 0 ≤ j ∧ j < 4 then κ 30 e j else κ 30 (-1) j)
def kT2 (κ : c_K) (e k v : Int) : c_K := k_u (kT1 κ e) 30 (-1) k v
def kJd (κ : c_K) (o e : Int) : c_K := k_r κ 31 e (fun j => if 0 ≤ j ∧ j < 4 then κ 14 o j * cVl κ o e j else κ 31 e j)
/-- the trial bears the number and the scores of e, but v in the kind k -/
def kTr (κ : c_K) (e k v : Int) : c_K := kJd (kT2 κ e k v) (κ 17 0 0) (-1)
theorem z_mb {a b m n : Int} (ha : -m ≤ a ∧ a ≤ m) (hb : -n ≤ b ∧ b ≤ n) : -(m * n) ≤ a * b ∧ a * b ≤ m * n := by
  have hm : 0 ≤ m := by omega
  have hn : 0 ≤ n := by omega
  have h0 : 0 ≤ m * n := Int.mul_nonneg hm hn
  rcases Int.le_total 0 a with h1 | h1 <;> rcases Int.le_total 0 b with h2 | h2
  · have e1 : a * b ≤ m * n := Int.mul_le_mul ha.2 hb.2 h2 hm
    have e2 : 0 ≤ a * b := Int.mul_nonneg h1 h2
    omega
  · have e1 : a * -b ≤ m * n := Int.mul_le_mul ha.2 (by omega) (by omega) hm
    have e2 : 0 ≤ a * -b := Int.mul_nonneg h1 (by omega)
    rw [Int.mul_neg] at e1 e2
    omega
  · have e1 : -a * b ≤ m * n := Int.mul_le_mul (by omega) hb.2 h2 hm
    have e2 : 0 ≤ -a * b := Int.mul_nonneg (by omega) h2
    rw [Int.neg_mul] at e1 e2
    omega
  · have e1 : -a * -b ≤ m * n := Int.mul_le_mul (by omega) (by omega) (by omega) hm
    have e2 : 0 ≤ -a * -b := Int.mul_nonneg (by omega) (by omega)
    rw [Int.neg_mul_neg] at e1 e2
    omega
theorem cVl_b {κ : c_K} (hS : cS κ) (o e c : Int) : -1598400000 ≤ cVl κ o e c ∧ cVl κ o e c ≤ 1598400000 := by
  have h0 := z_mb (hS.s12 o (4 * c)) (hS.s30 e 0)
  have h1 := z_mb (hS.s12 o (4 * c + 1)) (hS.s30 e 1)
  have h2 := z_mb (hS.s12 o (4 * c + 2)) (hS.s30 e 2)
  have h3 := z_mb (hS.s12 o (4 * c + 3)) (hS.s30 e 3)
  unfold cVl
  omega
theorem cMr_b {κ : c_K} (hS : cS κ) (o e c : Int) : -1598400000 ≤ κ 14 o c * cVl κ o e c ∧ κ 14 o c * cVl κ o e c ≤ 1598400000 := by
  have h1 := z_mb (hS.s14 o c) (cVl_b hS o e c)
  omega
theorem cS_Jd {κ : c_K} (hS : cS κ) (o e : Int) : cS (kJd κ o e) := by
  refine cS_r hS (by decide) fun j => ?_
  have h1 := cMr_b hS o e j
  have h2 := hS.b 31 e j
  show (-2147483648 : Int) ≤ _ ∧ _ ≤ (2147483647 : Int)
  split <;> omega
theorem kTr_S2 {κ : c_K} (hS : cS κ) {e k v : Int} (hv : -100000 ≤ v ∧ v ≤ 100000) : cS (kT2 κ e k v) := by
  refine cS_u (cS_r ?_ (by decide) fun j => ?_) (by decide) hv
  · obtain ⟨h1, h2, h3⟩ := id hS
    refine ⟨fun k' i' j' => ?_, ?_, ?_⟩
    · have := h1 k' i' j'
      have h4 := h1 34 e 0
      unfold k_u
      split
      · next q => subst q; (repeat' split) <;> omega
      · exact this
    · rw [k_u_ne (k := 34) (k' := 24) (by decide), k_u_ne (k := 34) (k' := 20) (by decide)]; exact h2
    · rw [k_u_ne (k := 34) (k' := 24) (by decide)]
      intro e' h5 h6
      rw [k_u_ni (by omega)]
      exact h3 e' h5 h6
  · have := hS.s30 e j
    have := hS.s30 (-1) j
    show (-100000 : Int) ≤ _ ∧ _ ≤ (100000 : Int)
    split <;> omega
theorem kTr_S {κ : c_K} (hS : cS κ) {e k v : Int} (hv : -100000 ≤ v ∧ v ≤ 100000) : cS (kTr κ e k v) := cS_Jd (kTr_S2 hS hv) _ _
/-- the same but for the trial -/
def kEt (κ' κ : c_K) : Prop := (∀ k i, ((k ≠ 30 ∧ k ≠ 31 ∧ k ≠ 34) ∨ i ≠ -1) → κ' k i = κ k i) ∧ (∀ j, ¬ (0 ≤ j ∧ j < 4) → κ' 30 (-1) j = κ 30 (-1) j ∧ κ' 31 (-1) j = κ 31 (-1) j) ∧ (∀ j, j ≠ 0 → κ' 34 (-1) j = κ 34 (-1) j) ∧ cS κ'
theorem kEt_refl {κ : c_K} (hS : cS κ) : kEt κ κ := ⟨fun _ _ _ => rfl, fun _ _ => ⟨rfl, rfl⟩, fun _ _ => rfl, hS⟩
theorem kTr_ne {κ : c_K} {e k v : Int} {q : Nat} {i : Int} (h : (q ≠ 30 ∧ q ≠ 31 ∧ q ≠ 34) ∨ i ≠ -1) : kTr κ e k v q i = κ q i := by
  have e3 : kTr κ e k v q i = kT2 κ e k v q i := by
    by_cases hq : q = 31
    · subst hq; unfold kTr kJd; exact k_r_ni (by omega)
    · unfold kTr kJd; exact congrFun (k_r_ne hq) i
  have e2 : kT2 κ e k v q i = kT1 κ e q i := by
    by_cases hq : q = 30
    · subst hq; unfold kT2; exact k_u_ni (by omega)
    · unfold kT2; exact congrFun (k_u_ne hq) i
  have e1 : kT1 κ e q i = k_u κ 34 (-1) 0 (κ 34 e 0) q i := by
    by_cases hq : q = 30
    · subst hq; unfold kT1; exact k_r_ni (by omega)
    · unfold kT1; exact congrFun (k_r_ne hq) i
  rw [e3, e2, e1]
  by_cases hq : q = 34
  · subst hq; exact k_u_ni (by omega)
  · exact congrFun (k_u_ne hq) i
theorem kTr_34 {κ : c_K} {e k v : Int} : kTr κ e k v 34 (-1) = z_up (κ 34 (-1)) 0 (κ 34 e 0) := by
  show k_u κ 34 (-1) 0 (κ 34 e 0) 34 (-1) = _
  exact k_u_eq
theorem kTr_30 {κ : c_K} {e k v : Int} : kTr κ e k v 30 (-1) = z_up (fun j => if 0 ≤ j ∧ j < 4 then κ 30 e j else κ 30 (-1) j) k v := by
  show k_u (kT1 κ e) 30 (-1) k v 30 (-1) = _
  rw [k_u_eq]
  exact congrArg (fun q => z_up q k v) k_r_eq
theorem kTr_31 {κ : c_K} {e k v : Int} : kTr κ e k v 31 (-1) = fun j => if 0 ≤ j ∧ j < 4 then κ 14 (κ 17 0 0) j * cVl (kT2 κ e k v) (κ 17 0 0) (-1) j else κ 31 (-1) j := by
  show k_r (kT2 κ e k v) 31 (-1) _ 31 (-1) = _
  rw [k_r_eq]
  rfl
theorem kEt_Tr {κ' κ : c_K} (hE : kEt κ' κ) {e k v : Int} (hk : 0 ≤ k ∧ k < 4) (hv : -100000 ≤ v ∧ v ≤ 100000) : kEt (kTr κ' e k v) κ := by
  refine ⟨fun q i h => (kTr_ne h).trans (hE.1 q i h), fun j hj => ⟨?_, ?_⟩, fun j hj => ?_, kTr_S hE.2.2.2 hv⟩
  · rw [kTr_30]
    refine Eq.trans (if_neg (by omega)) ((if_neg hj).trans (hE.2.1 j hj).1)
  · rw [kTr_31]
    exact (if_neg hj).trans (hE.2.1 j hj).2
  · rw [kTr_34]
    exact (if_neg hj).trans (hE.2.2.1 j hj)
/-- a trial over a trial -/
theorem kTr_X {κ' κ : c_K} (hE : kEt κ' κ) {e k v : Int} (he : e ≠ -1) (hk : 0 ≤ k ∧ k < 4) : kTr κ' e k v = kTr κ e k v := by
  have r30 : kTr κ' e k v 30 (-1) = kTr κ e k v 30 (-1) := by
    rw [kTr_30, kTr_30, hE.1 30 e (Or.inr he)]
    refine congrArg (fun q => z_up q k v) (funext fun j => ?_)
    by_cases hj : 0 ≤ j ∧ j < 4
    · rw [if_pos hj, if_pos hj]
    · rw [if_neg hj, if_neg hj, (hE.2.1 j hj).1]
  funext q i
  by_cases h : (q ≠ 30 ∧ q ≠ 31 ∧ q ≠ 34) ∨ i ≠ -1
  · rw [kTr_ne h, kTr_ne h, hE.1 q i h]
  · have hi : i = -1 := by omega
    subst hi
    have hq : q = 30 ∨ q = 31 ∨ q = 34 := by omega
    rcases hq with rfl | rfl | rfl
    · exact r30
    · rw [kTr_31, kTr_31]
      have e14 : κ' 14 = κ 14 := funext fun i => hE.1 14 i (Or.inl (by decide))
      have e17 : κ' 17 = κ 17 := funext fun i => hE.1 17 i (Or.inl (by decide))
      funext j
      rw [e14, e17]
      by_cases hj : 0 ≤ j ∧ j < 4
      · rw [if_pos hj, if_pos hj]
        have e12 : kT2 κ' e k v 12 = kT2 κ e k v 12 := by
          show κ' 12 = κ 12
          exact funext fun i => hE.1 12 i (Or.inl (by decide))
        have e30 : kT2 κ' e k v 30 (-1) = kT2 κ e k v 30 (-1) := r30
        unfold cVl
        rw [e12, e30]
      · rw [if_neg hj, if_neg hj]; exact (hE.2.1 j hj).2
    · rw [kTr_34, kTr_34, hE.1 34 e (Or.inr he)]
      funext j
      by_cases hj : j = 0
      · exact (if_pos hj).trans (if_pos hj).symm
      · exact (if_neg hj).trans ((hE.2.2.1 j hj).trans (if_neg hj).symm)
theorem kEt_tr {κ₂ κ₁ κ : c_K} (h2 : kEt κ₂ κ₁) (h1 : kEt κ₁ κ) : kEt κ₂ κ := ⟨fun k i h => (h2.1 k i h).trans (h1.1 k i h), fun j hj => ⟨(h2.2.1 j hj).1.trans (h1.2.1 j hj).1, (h2.2.1 j hj).2.trans (h1.2.1 j hj).2⟩, fun j hj => (h2.2.2.1 j hj).trans (h1.2.2.1 j hj), h2.2.2.2⟩
theorem kEt_k {κ' κ : c_K} (hE : kEt κ' κ) {k : Nat} (hk : k ≠ 30 ∧ k ≠ 31 ∧ k ≠ 34) : κ' k = κ k := funext fun i => hE.1 k i (Or.inl hk)
theorem kEt_L {κ' κ : c_K} (hE : kEt κ' κ) (t : Nat) (i : Int) : cL κ' t i ↔ cL κ t i := cL_other (by rw [kEt_k hE (by decide)]) (fun i => by rw [kEt_k hE (by decide)]) t i
theorem kEt_J {B : Nat → Int → Nat} {κ' κ : c_K} (hE : kEt κ' κ) (hJ : cJ B κ) : cJ B κ' := cJ_of hJ (kEt_L hE)
theorem kEt_V {κ' κ : c_K} (hE : kEt κ' κ) (hV : cV κ) : cV κ' := cV_of hV fun q hq => kEt_k hE (by omega)
theorem kEt_B {κ' κ : c_K} (hE : kEt κ' κ) : cB κ' := hE.2.2.2.b
/-- the shared rank that e would have with so many points more -/
def cRw (κ : c_K) (e m : Int) : Int := sRk (kTr κ e 0 (κ 30 e 0 + m)) (-1)
/-- the place that e would have with the score v in the kind k -/
def cPw (κ : c_K) (e k v : Int) : Int := cAh (kTr κ e k v) (-1) + 1
def hvL (κ : c_K) (e q : Int) : Nat → Int → Int → Int
  | 0, _, hi => hi
  | f + 1, lo, hi => if 1 < hi - lo then (if cRw κ e (lo + (hi - lo) / 2) ≤ q then hvL κ e q f lo (lo + (hi - lo) / 2) else hvL κ e q f (lo + (hi - lo) / 2) hi) else hi
theorem hv_e {κ : c_K} {e q i lo hi : Int} (h : 10 ≤ i ∨ hi - lo ≤ 1) : hvL κ e q (10 - i).toNat lo hi = hi := by
  by_cases hm : 10 ≤ i
  · rw [show (10 - i).toNat = 0 by omega]; rfl
  · rw [show (10 - i).toNat = (10 - (i + 1)).toNat + 1 by omega]
    exact if_neg (by omega)
theorem hv_y {κ : c_K} {e q i lo hi : Int} (h : i < 10) (h1 : 1 < hi - lo) (hc : cRw κ e (lo + (hi - lo) / 2) ≤ q) : hvL κ e q (10 - i).toNat lo hi = hvL κ e q (10 - (i + 1)).toNat lo (lo + (hi - lo) / 2) := by
  rw [show (10 - i).toNat = (10 - (i + 1)).toNat + 1 by omega]
  exact (if_pos h1).trans (if_pos hc)
theorem hv_n {κ : c_K} {e q i lo hi : Int} (h : i < 10) (h1 : 1 < hi - lo) (hc : ¬ cRw κ e (lo + (hi - lo) / 2) ≤ q) : hvL κ e q (10 - i).toNat lo hi = hvL κ e q (10 - (i + 1)).toNat (lo + (hi - lo) / 2) hi := by
  rw [show (10 - i).toNat = (10 - (i + 1)).toNat + 1 by omega]
  exact (if_pos h1).trans (if_neg hc)
def cHi (κ : c_K) (e : Int) : Int := if (-(κ 30 e 0)) + 100000 < 1000 then (-(κ 30 e 0)) + 100000 else 1000
/-- what more points are needed -/
def cNd (κ : c_K) (e q : Int) : Int := if cRw κ e 0 ≤ q then 0 else if q < cRw κ e (cHi κ e) then -1 else hvL κ e q ((10 : Int) - 0).toNat 0 (cHi κ e)
def cWl (κ : c_K) : Int := z_sm (fun e => if κ 36 e 0 ≠ 0 ∧ κ 37 e 0 ≠ cPw κ e 0 (κ 30 e 0) then (1 : Int) else 0) (κ 24 0 0)

theorem t_judge {G : z_G} {D : Nat} {B : Nat → Int → Nat} {κ : c_K} {h : z_H} (hG : z_OK G) (hJ : cJ B κ) (hV : cV κ) (hS : cS κ) {o e : Int} (ho : 0 ≤ o ∧ o ≤ 1) (he : -1 ≤ e ∧ e < κ 24 0 0) : z_T G mX2_judge [.ref (B 4 o), .ref (B 20 e)] (cH D B κ h) 2 0 0 (fun v h' => v = none ∧ h' = cH D B (kJd κ o e) h) z_no :=
  o_judge hG hJ hS.b hV ho he fun j => by have := cMr_b hS o e j; omega
theorem c_tryWith {G : z_G} {D : Nat} {B : Nat → Int → Nat} {κ : c_K} {h : z_H} (hG : z_OK G) (hJ : cJ B κ) (hB : cB κ) (hV : cV κ) (hS : cS κ) {e k v : Int} (he : 0 ≤ e ∧ e < κ 24 0 0) (hk : 0 ≤ k ∧ k ≤ 3) (hv : -100000 ≤ v ∧ v ≤ 100000) : z_T G mX7_tryWith [.ref (B 0 0), .ref (B 20 e), z_i k, z_i v] (cH D B κ h) 3 0 0 (fun v' h' => v' = none ∧ h' = cH D B (kTr κ e k v) h) (z_no) := by
  obtain ⟨hn, hsz, hrw, hcu, htl, hth⟩ := id hV
  have hs0 := hsz 0 (by omega) (by omega)
  have hs1 := hsz 1 (by omega) (by omega)
  have hs2 := hsz 2 (by omega) (by omega)
  have hs3 := hsz 3 (by omega) (by omega)
  refine z_T_of hG pX7_tryWith (Nat.le_of_ble_eq_true rfl) (ls0 := [(0, .ref (B 0 0)), (1, .ref (B 20 e)), (2, z_i k), (3, z_i v)]) rfl fun Y hY hg hmc hms hφ hψ => ?_
  subst hg
  have hne : e ≠ -1 := by omega
  have hb34 := hS.s34 e 0
  have hSj : ∀ i : Int, cB (k_r (k_u κ 34 (-1) 0 (κ 34 e 0)) 30 (-1) (fun j => if 0 ≤ j ∧ j < i then κ 30 e j else κ 30 (-1) j)) := fun i => cB_r (cB_u hB (by omega)) (fun j => by have := hS.s30 e j; have := hS.s30 (-1) j; split <;> omega)
  refine z_aload hY eX7_tryWith_0 0 rfl ?_
  refine c_gf hY hJ eX7_tryWith_1 (t := 0) (i := 0) (v := .ref (B 20 (-1))) (by omega) rfl rfl ?_
  refine z_aload hY eX7_tryWith_4 1 rfl ?_
  have hb1 := hS.s34 e 0
  refine c_gf hY hJ eX7_tryWith_5 (t := 20) (i := e) (v := z_i (κ 34 e 0)) (by omega) rfl rfl ?_
  refine c_pf hY hJ eX7_tryWith_8 (key := 34) (t := 20) (i := (-1)) (by decide) rfl (by omega) rfl (Nat.le_of_ble_eq_true rfl) (by simp [cC, k_u, k_r]) ?_
  refine z_const hY eX7_tryWith_11 ?_
  refine z_istore hY eX7_tryWith_12 (ls' := [(4, z_i 0), (0, .ref (B 0 0)), (1, .ref (B 20 e)), (2, z_i k), (3, z_i v)]) rfl ?_
  refine z_sub [1, 2, 3, 4, 0] (ls' := [(0, .ref (B 0 0)), (1, .ref (B 20 e)), (2, z_i k), (3, z_i v), (4, z_i 0)]) rfl ?_
  have lp14 : ∀ (fu : Nat) (i : Int), (4 - i).toNat < fu → (0 ≤ i ∧ i ≤ 4) → z_W Y 14 [(0, .ref (B 0 0)), (1, .ref (B 20 e)), (2, z_i k), (3, z_i v), (4, z_i i)] [] (cH D B (k_r (k_u κ 34 (-1) 0 (κ 34 e 0)) 30 (-1) (fun j => if 0 ≤ j ∧ j < i then κ 30 e j else κ 30 (-1) j)) h) 0 0 := by
    intro fu
    induction fu with
    | zero => intro i hf; exact absurd hf (Nat.not_lt_zero _)
    | succ fu ih14 =>
      intro i hf h0
      have hBj := hSj i
      have hb17 := hS.s17 0 0
      refine z_iload hY eX7_tryWith_14 4 rfl ?_
      refine z_const hY eX7_tryWith_16 ?_
      refine z_icmpge hY eX7_tryWith_17 (by omega) (fun c17 => ?_) (fun c17 => ?_)
      · have hi4 : i = 4 := by omega
        refine z_heq (congrArg (fun q => cH D B q h) (show k_r (k_u κ 34 (-1) 0 (κ 34 e 0)) 30 (-1) (fun j => if 0 ≤ j ∧ j < i then κ 30 e j else κ 30 (-1) j) = k_r (k_u κ 34 (-1) 0 (κ 34 e 0)) 30 (-1) (fun j => if 0 ≤ j ∧ j < 4 then κ 30 e j else κ 30 (-1) j) from by rw [hi4])) ?_
        have hS2 : cS (kT2 κ e k v) := kTr_S2 hS hv
        refine z_aload hY eX7_tryWith_41 0 rfl ?_
        refine c_gf hY (cJ_r (by decide) (cJ_u (by decide) hJ)) eX7_tryWith_42 (t := 0) (i := 0) (v := .ref (B 20 (-1))) ((cL_r (by decide) _ _).mpr ((cL_u (by decide) _ _).mpr (by omega))) rfl rfl ?_
        refine z_iload hY eX7_tryWith_45 2 rfl ?_
        refine z_iload hY eX7_tryWith_46 3 rfl ?_
        refine z_callV (As := [z_i k, z_i v]) (rest := []) hY eX7_tryWith_47 (e_putScore (κ := k_r (k_u κ 34 (-1) 0 (κ 34 e 0)) 30 (-1) (fun j => if 0 ≤ j ∧ j < 4 then κ 30 e j else κ 30 (-1) j)) hG (cJ_r (by decide) (cJ_u (by decide) hJ)) (hSj 4) (cV_r (cV_u hV (by decide)) (by decide)) (show -1 ≤ (-1 : Int) ∧ -1 < κ 24 0 0 by omega) (by omega)) (cH_at (t := 20) (i := (-1)) (cJ_r (by decide) (cJ_u (by decide) hJ)) ((cL_r (by decide) _ _).mpr ((cL_u (by decide) _ _).mpr (by omega)))) (by decide) (Nat.le_of_ble_eq_true rfl) ⟨Nat.zero_le _, Nat.zero_le _⟩ (fun _ _ q => q.elim) (fun vv2 hh2 q2 => ?_)
        obtain ⟨rfl, rfl⟩ := q2
        refine z_aload hY eX7_tryWith_50 0 rfl ?_
        have hb3 := hS.s17 0 0
        refine c_gf hY (cJ_u (by decide) (cJ_r (by decide) (cJ_u (by decide) hJ))) eX7_tryWith_51 (t := 0) (i := 0) (v := .ref (B 4 (κ 17 0 0))) ((cL_u (by decide) _ _).mpr ((cL_r (by decide) _ _).mpr ((cL_u (by decide) _ _).mpr (by omega)))) rfl (by simp [k_u, k_r, hne]) ?_
        refine z_aload hY eX7_tryWith_54 0 rfl ?_
        refine c_gf hY (cJ_u (by decide) (cJ_r (by decide) (cJ_u (by decide) hJ))) eX7_tryWith_55 (t := 0) (i := 0) (v := .ref (B 20 (-1))) ((cL_u (by decide) _ _).mpr ((cL_r (by decide) _ _).mpr ((cL_u (by decide) _ _).mpr (by omega)))) rfl rfl ?_
        refine z_callV (As := [.ref (B 20 (-1))]) (rest := []) hY eX7_tryWith_58 (t_judge (κ := k_u (k_r (k_u κ 34 (-1) 0 (κ 34 e 0)) 30 (-1) (fun j => if 0 ≤ j ∧ j < 4 then κ 30 e j else κ 30 (-1) j)) 30 (-1) k v) hG (cJ_u (by decide) (cJ_r (by decide) (cJ_u (by decide) hJ))) (cV_u (cV_r (cV_u hV (by decide)) (by decide)) (by decide)) hS2 (show 0 ≤ κ 17 0 0 ∧ κ 17 0 0 ≤ 1 by omega) (show -1 ≤ (-1 : Int) ∧ -1 < κ 24 0 0 by omega)) (cH_at (t := 4) (i := (κ 17 0 0)) (cJ_u (by decide) (cJ_r (by decide) (cJ_u (by decide) hJ))) ((cL_u (by decide) _ _).mpr ((cL_r (by decide) _ _).mpr ((cL_u (by decide) _ _).mpr (by omega))))) (by decide) (Nat.le_of_ble_eq_true rfl) ⟨Nat.zero_le _, Nat.zero_le _⟩ (fun _ _ q => q.elim) (fun vv4 hh4 q4 => ?_)
        obtain ⟨rfl, rfl⟩ := q4
        exact z_return hY eX7_tryWith_61 rfl (by rw [hφ]; exact ⟨rfl, rfl⟩) ⟨Nat.zero_le _, Nat.zero_le _⟩
      · refine z_aload hY eX7_tryWith_20 0 rfl ?_
        refine c_gf hY (cJ_r (by decide) (cJ_u (by decide) hJ)) eX7_tryWith_21 (t := 0) (i := 0) (v := .ref (B 20 (-1))) ((cL_r (by decide) _ _).mpr ((cL_u (by decide) _ _).mpr (by omega))) rfl rfl ?_
        refine z_iload hY eX7_tryWith_24 4 rfl ?_
        refine z_aload hY eX7_tryWith_26 1 rfl ?_
        refine z_iload hY eX7_tryWith_27 4 rfl ?_
        refine z_callVr (As := [z_i i]) (rest := [z_i i, .ref (B 20 (-1))]) (r := z_i (κ 30 e i)) hY eX7_tryWith_29 ((show (k_r (k_u κ 34 (-1) 0 (κ 34 e 0)) 30 (-1) (fun j => if 0 ≤ j ∧ j < i then κ 30 e j else κ 30 (-1) j)) 30 e i = κ 30 e i from congrFun (k_r_ni hne) _) ▸ e_scoreIn4 (κ := k_r (k_u κ 34 (-1) 0 (κ 34 e 0)) 30 (-1) (fun j => if 0 ≤ j ∧ j < i then κ 30 e j else κ 30 (-1) j)) hG (cJ_r (by decide) (cJ_u (by decide) hJ)) hBj (cV_r (cV_u hV (by decide)) (by decide)) (show -1 ≤ e ∧ e < κ 24 0 0 by omega) (by omega)) (cH_at (t := 20) (i := e) (cJ_r (by decide) (cJ_u (by decide) hJ)) ((cL_r (by decide) _ _).mpr ((cL_u (by decide) _ _).mpr (by omega)))) (by decide) (Nat.le_of_ble_eq_true rfl) ⟨Nat.zero_le _, Nat.zero_le _⟩ ?_
        refine z_callV (As := [z_i i, z_i (κ 30 e i)]) (rest := []) hY eX7_tryWith_32 (e_putScore (κ := k_r (k_u κ 34 (-1) 0 (κ 34 e 0)) 30 (-1) (fun j => if 0 ≤ j ∧ j < i then κ 30 e j else κ 30 (-1) j)) hG (cJ_r (by decide) (cJ_u (by decide) hJ)) hBj (cV_r (cV_u hV (by decide)) (by decide)) (show -1 ≤ (-1 : Int) ∧ -1 < κ 24 0 0 by omega) (by omega)) (cH_at (t := 20) (i := (-1)) (cJ_r (by decide) (cJ_u (by decide) hJ)) ((cL_r (by decide) _ _).mpr ((cL_u (by decide) _ _).mpr (by omega)))) (by decide) (Nat.le_of_ble_eq_true rfl) ⟨Nat.zero_le _, Nat.zero_le _⟩ (fun _ _ q => q.elim) (fun vv5 hh5 q5 => ?_)
        obtain ⟨rfl, rfl⟩ := q5
        refine z_iinc hY eX7_tryWith_35 4 rfl (ls' := [(4, z_i (i + 1)), (0, .ref (B 0 0)), (1, .ref (B 20 e)), (2, z_i k), (3, z_i v)]) rfl ?_
        refine z_goto hY eX7_tryWith_38 ?_
        refine z_sub [1, 2, 3, 4, 0] (ls' := [(0, .ref (B 0 0)), (1, .ref (B 20 e)), (2, z_i k), (3, z_i v), (4, z_i (i + 1))]) rfl ?_
        refine z_heq (congrArg (fun q => cH D B q h) (show k_u (k_r (k_u κ 34 (-1) 0 (κ 34 e 0)) 30 (-1) (fun j => if 0 ≤ j ∧ j < i then κ 30 e j else κ 30 (-1) j)) 30 (-1) i (κ 30 e i) = k_r (k_u κ 34 (-1) 0 (κ 34 e 0)) 30 (-1) (fun j => if 0 ≤ j ∧ j < (i + 1) then κ 30 e j else κ 30 (-1) j) from (k_r_u (if_pos (by omega)) (fun j hj => by show ite _ _ _ = ite _ _ _; split <;> split <;> first | rfl | (exfalso; omega))))) ?_
        exact ih14 (i + 1) (by omega) (by omega)
  refine z_heq (congrArg (fun q => cH D B q h) (show k_u κ 34 (-1) 0 (κ 34 e 0) = k_r (k_u κ 34 (-1) 0 (κ 34 e 0)) 30 (-1) (fun j => if 0 ≤ j ∧ j < 0 then κ 30 e j else κ 30 (-1) j) from (k_r_id (fun j => if_neg (by omega))))) ?_
  exact lp14 _ 0 (Nat.lt_succ_self _) (by omega)
theorem c_tryWithX {G : z_G} {D : Nat} {B : Nat → Int → Nat} {κ κ' : c_K} {h : z_H} (hG : z_OK G) (hJ : cJ B κ) (hV : cV κ) (hE : kEt κ' κ) {e k v : Int} (he : 0 ≤ e ∧ e < κ 24 0 0) (hk : 0 ≤ k ∧ k ≤ 3) (hv : -100000 ≤ v ∧ v ≤ 100000) : z_T G mX7_tryWith [.ref (B 0 0), .ref (B 20 e), z_i k, z_i v] (cH D B κ' h) 3 0 0 (fun v' h' => v' = none ∧ h' = cH D B (kTr κ e k v) h) z_no := by
  have h1 := c_tryWith (D := D) (h := h) hG (kEt_J hE hJ) (kEt_B hE) (kEt_V hE hV) hE.2.2.2 (e := e) (k := k) (v := v) (by rw [kEt_k hE (k := 24) (by decide)]; exact he) hk hv
  rw [kTr_X hE (by omega) (by omega)] at h1
  exact h1
theorem c_rankWith {G : z_G} {D : Nat} {B : Nat → Int → Nat} {κ : c_K} {h : z_H} (hG : z_OK G) (hJ : cJ B κ) (hB : cB κ) (hV : cV κ) (hS : cS κ) {e m : Int} (he : 0 ≤ e ∧ e < κ 24 0 0) (hm : -100000 ≤ κ 30 e 0 + m ∧ κ 30 e 0 + m ≤ 100000) : z_T G mX7_rankWith [.ref (B 0 0), .ref (B 20 e), z_i m] (cH D B κ h) 4 0 0 (fun v h' => v = some (z_i (cRw κ e m)) ∧ h' = cH D B (kTr κ e 0 (κ 30 e 0 + m)) h) (z_no) := by
  obtain ⟨hn, hsz, hrw, hcu, htl, hth⟩ := id hV
  have hs0 := hsz 0 (by omega) (by omega)
  have hs1 := hsz 1 (by omega) (by omega)
  have hs2 := hsz 2 (by omega) (by omega)
  have hs3 := hsz 3 (by omega) (by omega)
  refine z_T_of hG pX7_rankWith (Nat.le_of_ble_eq_true rfl) (ls0 := [(0, .ref (B 0 0)), (1, .ref (B 20 e)), (2, z_i m)]) rfl fun Y hY hg hmc hms hφ hψ => ?_
  subst hg
  refine z_aload hY eX7_rankWith_0 0 rfl ?_
  refine z_aload hY eX7_rankWith_1 1 rfl ?_
  refine z_const hY eX7_rankWith_2 ?_
  refine z_aload hY eX7_rankWith_3 1 rfl ?_
  refine z_callVr (As := []) (rest := [z_i 0, .ref (B 20 e), .ref (B 0 0)]) (r := z_i (κ 30 e 0)) hY eX7_rankWith_4 (e_points hG hJ hB hV (by omega)) (cH_at (t := 20) (i := e) hJ (by omega)) (by decide) (Nat.le_of_ble_eq_true rfl) ⟨Nat.zero_le _, Nat.zero_le _⟩ ?_
  have hc1 := hS.s30 e 0
  refine z_iload hY eX7_rankWith_7 2 rfl ?_
  refine z_iadd hY eX7_rankWith_8 ?_
  refine z_callV (As := [.ref (B 20 e), z_i 0, z_i ((κ 30 e 0) + m)]) (rest := []) hY eX7_rankWith_9 (c_tryWithX hG hJ hV (kEt_refl hS) (show 0 ≤ e ∧ e < κ 24 0 0 by omega) (by omega) (by omega)) (cH_at (t := 0) (i := 0) hJ (by omega)) (by decide) (Nat.le_of_ble_eq_true rfl) ⟨Nat.zero_le _, Nat.zero_le _⟩ (fun _ _ q => q.elim) (fun vv2 hh2 q2 => ?_)
  obtain ⟨rfl, rfl⟩ := q2
  have hE3 : kEt (kTr κ e 0 ((κ 30 e 0) + m)) κ := kEt_Tr (kEt_refl hS) (by omega) (by omega)
  refine z_aload hY eX7_rankWith_12 0 rfl ?_
  refine c_gf hY (kEt_J hE3 hJ) eX7_rankWith_13 (t := 0) (i := 0) (v := .ref (B 9 0)) ((kEt_L hE3 _ _).mpr (by omega)) rfl rfl ?_
  refine z_aload hY eX7_rankWith_16 0 rfl ?_
  refine c_gf hY (kEt_J hE3 hJ) eX7_rankWith_17 (t := 0) (i := 0) (v := .ref (B 20 (-1))) ((kEt_L hE3 _ _).mpr (by omega)) rfl rfl ?_
  refine z_callVr (As := [.ref (B 20 (-1))]) (rest := []) (r := z_i (sRk (kTr κ e 0 ((κ 30 e 0) + m)) (-1))) hY eX7_rankWith_20 (s_sharedRank (κ := (kTr κ e 0 ((κ 30 e 0) + m))) hG (kEt_J hE3 hJ) (kEt_B hE3) (kEt_V hE3 hV) (show -1 ≤ (-1 : Int) ∧ -1 < (kTr κ e 0 ((κ 30 e 0) + m)) 24 0 0 from by rw [kEt_k hE3 (k := 24) (by decide)]; omega)) (cH_at (t := 9) (i := 0) (kEt_J hE3 hJ) ((kEt_L hE3 _ _).mpr (by omega))) (by decide) (Nat.le_of_ble_eq_true rfl) ⟨Nat.zero_le _, Nat.zero_le _⟩ ?_
  have hc4 := sRk_b (kEt_V hE3 hV) (-1)
  exact z_ireturn hY eX7_rankWith_23 rfl (by rw [hφ]; first | (exfalso; omega) | exact ⟨congrArg (fun q => some (z_i q)) (by first | rfl | omega), rfl⟩) ⟨Nat.zero_le _, Nat.zero_le _⟩
theorem c_rankWithX {G : z_G} {D : Nat} {B : Nat → Int → Nat} {κ κ' : c_K} {h : z_H} (hG : z_OK G) (hJ : cJ B κ) (hV : cV κ) (hE : kEt κ' κ) {e m : Int} (he : 0 ≤ e ∧ e < κ 24 0 0) (hm : -100000 ≤ κ 30 e 0 + m ∧ κ 30 e 0 + m ≤ 100000) : z_T G mX7_rankWith [.ref (B 0 0), .ref (B 20 e), z_i m] (cH D B κ' h) 4 0 0 (fun v' h' => v' = some (z_i (cRw κ e m)) ∧ h' = cH D B (kTr κ e 0 (κ 30 e 0 + m)) h) z_no := by
  have e1 : κ' 30 e 0 = κ 30 e 0 := congrFun (hE.1 30 e (Or.inr (by omega))) 0
  have h1 := c_rankWith (D := D) (h := h) hG (kEt_J hE hJ) (kEt_B hE) (kEt_V hE hV) hE.2.2.2 (e := e) (m := m) (by rw [kEt_k hE (k := 24) (by decide)]; exact he) (by rw [e1]; exact hm)
  unfold cRw at h1 ⊢
  rw [e1, kTr_X hE (by omega) (by omega)] at h1
  exact h1
theorem c_leastNeeded {G : z_G} {D : Nat} {B : Nat → Int → Nat} {κ : c_K} {h : z_H} (hG : z_OK G) (hJ : cJ B κ) (hB : cB κ) (hV : cV κ) (hS : cS κ) {e q g : Int} (he : 0 ≤ e ∧ e < κ 24 0 0) (hq : 1 ≤ q ∧ q ≤ 30) (hg : 0 ≤ g ∧ g ≤ 1000 ∧ κ 30 e 0 + g ≤ 100000) : z_T G mX7_leastNeeded [.ref (B 0 0), .ref (B 20 e), z_i q, z_i g] (cH D B κ h) 5 0 0 (fun v h' => v = some (z_i (hvL κ e q ((10 : Int) - 0).toNat 0 g)) ∧ ∃ κ', kEt κ' κ ∧ h' = cH D B κ' h) (z_no) := by
  obtain ⟨hn, hsz, hrw, hcu, htl, hth⟩ := id hV
  have hs0 := hsz 0 (by omega) (by omega)
  have hs1 := hsz 1 (by omega) (by omega)
  have hs2 := hsz 2 (by omega) (by omega)
  have hs3 := hsz 3 (by omega) (by omega)
  refine z_T_of hG pX7_leastNeeded (Nat.le_of_ble_eq_true rfl) (ls0 := [(0, .ref (B 0 0)), (1, .ref (B 20 e)), (2, z_i q), (3, z_i g)]) rfl fun Y hY hg hmc hms hφ hψ => ?_
  subst hg
  have hb30 := hS.s30 e 0
  refine z_const hY eX7_leastNeeded_0 ?_
  refine z_istore hY eX7_leastNeeded_1 (ls' := [(4, z_i 0), (0, .ref (B 0 0)), (1, .ref (B 20 e)), (2, z_i q), (3, z_i g)]) rfl ?_
  refine z_iload hY eX7_leastNeeded_3 4 rfl ?_
  refine z_istore hY eX7_leastNeeded_4 (ls' := [(5, z_i g), (4, z_i 0), (0, .ref (B 0 0)), (1, .ref (B 20 e)), (2, z_i q), (3, z_i g)]) rfl ?_
  refine z_const hY eX7_leastNeeded_6 ?_
  refine z_istore hY eX7_leastNeeded_7 (ls' := [(6, z_i 0), (5, z_i g), (4, z_i 0), (0, .ref (B 0 0)), (1, .ref (B 20 e)), (2, z_i q), (3, z_i g)]) rfl ?_
  refine z_sub [3, 4, 5, 0, 2, 1] (ls' := [(0, .ref (B 0 0)), (1, .ref (B 20 e)), (2, z_i q), (6, z_i 0), (4, z_i 0), (5, z_i g)]) rfl ?_
  have lp9 : ∀ (fu : Nat) (i : Int) (lo : Int) (hi : Int) (κx : c_K), (10 - i).toNat < fu → (0 ≤ i ∧ i ≤ 10 ∧ 0 ≤ lo ∧ lo ≤ hi ∧ hi ≤ g) → (hvL κ e q (10 - i).toNat lo hi = hvL κ e q ((10 : Int) - 0).toNat 0 g) → kEt κx κ → z_W Y 9 [(0, .ref (B 0 0)), (1, .ref (B 20 e)), (2, z_i q), (6, z_i i), (4, z_i lo), (5, z_i hi)] [] (cH D B κx h) 0 0 := by
    intro fu
    induction fu with
    | zero => intro i lo hi κx hf; exact absurd hf (Nat.not_lt_zero _)
    | succ fu ih9 =>
      intro i lo hi κx hf h0 hn hE
      refine z_iload hY eX7_leastNeeded_9 3 rfl ?_
      refine z_const hY eX7_leastNeeded_11 ?_
      refine z_icmpge hY eX7_leastNeeded_13 (by omega) (fun c13 => ?_) (fun c13 => ?_)
      · refine z_iload hY eX7_leastNeeded_65 5 rfl ?_
        exact z_ireturn hY eX7_leastNeeded_67 rfl (by rw [hφ]; first | (exfalso; omega) | exact ⟨congrArg (fun q => some (z_i q)) (by rw [← hn, hv_e (by omega)]), _, hE, rfl⟩) ⟨Nat.zero_le _, Nat.zero_le _⟩
      · refine z_iload hY eX7_leastNeeded_16 5 rfl ?_
        refine z_iload hY eX7_leastNeeded_18 4 rfl ?_
        refine z_isub hY eX7_leastNeeded_20 ?_
        refine z_const hY eX7_leastNeeded_21 ?_
        refine z_icmple hY eX7_leastNeeded_22 (by omega) (fun c22 => ?_) (fun c22 => ?_)
        · refine z_iload hY eX7_leastNeeded_65 5 rfl ?_
          exact z_ireturn hY eX7_leastNeeded_67 rfl (by rw [hφ]; first | (exfalso; omega) | exact ⟨congrArg (fun q => some (z_i q)) (by rw [← hn, hv_e (by omega)]), _, hE, rfl⟩) ⟨Nat.zero_le _, Nat.zero_le _⟩
        · refine z_iload hY eX7_leastNeeded_25 4 rfl ?_
          refine z_iload hY eX7_leastNeeded_27 5 rfl ?_
          refine z_iload hY eX7_leastNeeded_29 4 rfl ?_
          refine z_isub hY eX7_leastNeeded_31 ?_
          refine z_const hY eX7_leastNeeded_32 ?_
          refine z_idiv hY eX7_leastNeeded_33 (by omega) ?_
          refine z_iadd hY eX7_leastNeeded_34 ?_
          refine z_istore hY eX7_leastNeeded_35 (ls' := [(7, z_i (lo + ((hi - lo) / 2))), (0, .ref (B 0 0)), (1, .ref (B 20 e)), (2, z_i q), (6, z_i i), (4, z_i lo), (5, z_i hi)]) rfl ?_
          refine z_aload hY eX7_leastNeeded_37 1 rfl ?_
          refine z_aload hY eX7_leastNeeded_38 2 rfl ?_
          refine z_iload hY eX7_leastNeeded_39 0 rfl ?_
          refine z_callV (As := [.ref (B 20 e), z_i (lo + ((hi - lo) / 2))]) (rest := []) hY eX7_leastNeeded_41 (c_rankWithX hG hJ hV hE (show 0 ≤ e ∧ e < κ 24 0 0 by omega) (show -100000 ≤ κ 30 e 0 + (lo + ((hi - lo) / 2)) ∧ κ 30 e 0 + (lo + ((hi - lo) / 2)) ≤ 100000 by omega)) (cH_at (t := 0) (i := 0) (kEt_J hE hJ) ((kEt_L hE _ _).mpr (by omega))) (by decide) (Nat.le_of_ble_eq_true rfl) ⟨Nat.zero_le _, Nat.zero_le _⟩ (fun _ _ q => q.elim) (fun vv1 hh1 q1 => ?_)
          obtain ⟨rfl, rfl⟩ := q1
          have hE2 : kEt (kTr κ e 0 (κ 30 e 0 + (lo + ((hi - lo) / 2)))) κ := kEt_Tr (kEt_refl hS) (by omega) (by omega)
          have hc3 : 1 ≤ cRw κ e (lo + ((hi - lo) / 2)) ∧ cRw κ e (lo + ((hi - lo) / 2)) ≤ 31 := sRk_b (kEt_V hE2 hV) (-1)
          refine z_iload hY eX7_leastNeeded_44 3 rfl ?_
          refine z_icmpgt hY eX7_leastNeeded_45 (by omega) (fun c45 => ?_) (fun c45 => ?_)
          · refine z_iload hY eX7_leastNeeded_55 0 rfl ?_
            refine z_istore hY eX7_leastNeeded_57 (ls' := [(4, z_i (lo + ((hi - lo) / 2))), (7, z_i (lo + ((hi - lo) / 2))), (0, .ref (B 0 0)), (1, .ref (B 20 e)), (2, z_i q), (6, z_i i), (5, z_i hi)]) rfl ?_
            refine z_iinc hY eX7_leastNeeded_59 5 rfl (ls' := [(6, z_i (i + 1)), (4, z_i (lo + ((hi - lo) / 2))), (7, z_i (lo + ((hi - lo) / 2))), (0, .ref (B 0 0)), (1, .ref (B 20 e)), (2, z_i q), (5, z_i hi)]) rfl ?_
            refine z_goto hY eX7_leastNeeded_62 ?_
            refine z_sub [3, 4, 5, 0, 1, 6] (ls' := [(0, .ref (B 0 0)), (1, .ref (B 20 e)), (2, z_i q), (6, z_i (i + 1)), (4, z_i (lo + ((hi - lo) / 2))), (5, z_i hi)]) rfl ?_
            exact ih9 (i + 1) (lo + ((hi - lo) / 2)) hi (kTr κ e 0 (κ 30 e 0 + (lo + ((hi - lo) / 2)))) (by omega) (by omega) (by first | exact (hv_y (by omega) (by omega) (by omega)).symm.trans hn | exact (hv_n (by omega) (by omega) (by omega)).symm.trans hn) hE2
          · refine z_iload hY eX7_leastNeeded_48 0 rfl ?_
            refine z_istore hY eX7_leastNeeded_50 (ls' := [(5, z_i (lo + ((hi - lo) / 2))), (7, z_i (lo + ((hi - lo) / 2))), (0, .ref (B 0 0)), (1, .ref (B 20 e)), (2, z_i q), (6, z_i i), (4, z_i lo)]) rfl ?_
            refine z_goto hY eX7_leastNeeded_52 ?_
            refine z_iinc hY eX7_leastNeeded_59 5 rfl (ls' := [(6, z_i (i + 1)), (5, z_i (lo + ((hi - lo) / 2))), (7, z_i (lo + ((hi - lo) / 2))), (0, .ref (B 0 0)), (1, .ref (B 20 e)), (2, z_i q), (4, z_i lo)]) rfl ?_
            refine z_goto hY eX7_leastNeeded_62 ?_
            refine z_sub [3, 4, 5, 0, 6, 1] (ls' := [(0, .ref (B 0 0)), (1, .ref (B 20 e)), (2, z_i q), (6, z_i (i + 1)), (4, z_i lo), (5, z_i (lo + ((hi - lo) / 2)))]) rfl ?_
            exact ih9 (i + 1) lo (lo + ((hi - lo) / 2)) (kTr κ e 0 (κ 30 e 0 + (lo + ((hi - lo) / 2)))) (by omega) (by omega) (by first | exact (hv_y (by omega) (by omega) (by omega)).symm.trans hn | exact (hv_n (by omega) (by omega) (by omega)).symm.trans hn) hE2
  exact lp9 _ 0 0 g κ (Nat.lt_succ_self _) (by omega) rfl (kEt_refl hS)
theorem c_leastNeededX {G : z_G} {D : Nat} {B : Nat → Int → Nat} {κ κ' : c_K} {h : z_H} (hG : z_OK G) (hJ : cJ B κ) (hV : cV κ) (hE : kEt κ' κ) {e q g : Int} (he : 0 ≤ e ∧ e < κ 24 0 0) (hq : 1 ≤ q ∧ q ≤ 30) (hg : 0 ≤ g ∧ g ≤ 1000 ∧ κ 30 e 0 + g ≤ 100000) : z_T G mX7_leastNeeded [.ref (B 0 0), .ref (B 20 e), z_i q, z_i g] (cH D B κ' h) 5 0 0 (fun v h' => v = some (z_i (hvL κ e q ((10 : Int) - 0).toNat 0 g)) ∧ ∃ κ', kEt κ' κ ∧ h' = cH D B κ' h) z_no := by
  have e1 : κ' 30 e 0 = κ 30 e 0 := congrFun (hE.1 30 e (Or.inr (by omega))) 0
  have e2 : ∀ (f : Nat) (lo hi : Int), hvL κ' e q f lo hi = hvL κ e q f lo hi := by
    intro f
    induction f with
    | zero => intro lo hi; rfl
    | succ f ih =>
      intro lo hi
      unfold hvL cRw
      rw [e1, kTr_X hE (by omega) (by omega), ih, ih]
  have h1 := c_leastNeeded (D := D) (h := h) hG (kEt_J hE hJ) (kEt_B hE) (kEt_V hE hV) hE.2.2.2 (e := e) (q := q) (g := g) (by rw [kEt_k hE (k := 24) (by decide)]; exact he) hq (by rw [e1]; exact hg)
  refine z_T.mono h1 (fun v h' hq => ?_) (fun _ _ q => q)
  obtain ⟨h2, κ2, h3, h4⟩ := hq
  refine ⟨by rw [h2, e2], κ2, kEt_tr h3 hE, h4⟩
theorem q_needed {G : z_G} {D : Nat} {B : Nat → Int → Nat} {κ : c_K} {h : z_H} (hG : z_OK G) (hJ : cJ B κ) (hB : cB κ) (hV : cV κ) (hS : cS κ) {e q : Int} (hre : -2147483648 ≤ e ∧ e ≤ 2147483647) (hrq : -2147483648 ≤ q ∧ q ≤ 2147483647) : z_T G mX7_needed [.ref (B 0 0), z_i e, z_i q] (cH D B κ h) 6 2 12 (fun v h' => ((0 ≤ e ∧ e < κ 24 0 0 ∧ κ 36 e 0 ≠ 0) ∧ 1 ≤ q ∧ q ≤ 30) ∧ v = some (z_i (cNd κ e q)) ∧ ∃ κ', kEt κ' κ ∧ h' = cH D B κ' h) (fun E h' => h' = cH D B κ h ∧ ((E = "java/lang/IndexOutOfBoundsException" ∧ ¬ (0 ≤ e ∧ e < κ 24 0 0 ∧ κ 36 e 0 ≠ 0)) ∨ (E = "java/lang/IllegalArgumentException" ∧ (0 ≤ e ∧ e < κ 24 0 0 ∧ κ 36 e 0 ≠ 0) ∧ ¬ (1 ≤ q ∧ q ≤ 30)))) := by
  obtain ⟨hn, hsz, hrw, hcu, htl, hth⟩ := id hV
  have hs0 := hsz 0 (by omega) (by omega)
  have hs1 := hsz 1 (by omega) (by omega)
  have hs2 := hsz 2 (by omega) (by omega)
  have hs3 := hsz 3 (by omega) (by omega)
  refine z_T_of hG pX7_needed (Nat.le_of_ble_eq_true rfl) (ls0 := [(0, .ref (B 0 0)), (1, z_i e), (2, z_i q)]) rfl fun Y hY hg hmc hms hφ hψ => ?_
  subst hg
  refine z_aload hY eX7_needed_0 0 rfl ?_
  refine z_iload hY eX7_needed_1 1 rfl ?_
  refine z_callV (As := [z_i e]) (rest := []) hY eX7_needed_2 (c_presentOne hG hJ hB hV hS (by omega)) (cH_at (t := 0) (i := 0) hJ (by omega)) (by decide) (Nat.le_of_ble_eq_true rfl) (by rw [hmc, hms]; omega) (fun E' h1 q => by obtain ⟨rfl, q⟩ := q; rw [hψ]; refine ⟨rfl, ?_⟩; obtain ⟨rfl, q⟩ := q <;> (first | exact ⟨rfl, by omega⟩ | exact Or.inl ⟨rfl, by omega⟩ | exact Or.inr ⟨rfl, by omega⟩ | exact Or.inr (Or.inl ⟨rfl, by omega⟩) | exact Or.inr (Or.inr ⟨rfl, by omega⟩))) (fun vv1 hh1 q1 => ?_)
  obtain ⟨hq1, rfl, rfl⟩ := q1
  refine z_astore hY eX7_needed_5 (ls' := [(3, .ref (B 20 e)), (0, .ref (B 0 0)), (1, z_i e), (2, z_i q)]) rfl ?_
  refine z_iload hY eX7_needed_6 3 rfl ?_
  refine z_const hY eX7_needed_7 ?_
  refine z_icmplt hY eX7_needed_8 (by omega) (fun c8 => ?_) (fun c8 => ?_)
  · exact z_thr hY xX7_needed_17 (by rw [hmc, hms]; omega) (by rw [hψ]; refine ⟨rfl, ?_⟩; first | exact ⟨rfl, by omega⟩ | exact Or.inl ⟨rfl, by omega⟩ | exact Or.inr ⟨rfl, by omega⟩ | exact Or.inr (Or.inl ⟨rfl, by omega⟩) | exact Or.inr (Or.inr ⟨rfl, by omega⟩))
  · refine z_iload hY eX7_needed_11 3 rfl ?_
    refine z_const hY eX7_needed_12 ?_
    refine z_icmple hY eX7_needed_14 (by omega) (fun c14 => ?_) (fun c14 => ?_)
    · refine z_const hY eX7_needed_27 ?_
      refine z_const hY eX7_needed_30 ?_
      refine z_aload hY eX7_needed_32 0 rfl ?_
      refine z_callVr (As := []) (rest := [z_i 100000, z_i 1000]) (r := z_i (κ 30 e 0)) hY eX7_needed_33 (e_points hG hJ hB hV (by omega)) (cH_at (t := 20) (i := e) hJ (by omega)) (by decide) (Nat.le_of_ble_eq_true rfl) (by rw [hmc, hms]; omega) ?_
      have hc2 := hS.s30 e 0
      refine z_isub hY eX7_needed_36 ?_
      refine z_top (b := (-(κ 30 e 0)) + 100000) (by omega) ?_
      refine z_callSr (As := [z_i 1000, z_i ((-(κ 30 e 0)) + 100000)]) (rest := []) (r := z_i (cHi κ e)) hY eX7_needed_37 (ma_min hG (by omega)) (by decide) (Nat.le_of_ble_eq_true rfl) (by rw [hmc, hms]; omega) ?_
      have hhi : 0 ≤ cHi κ e ∧ cHi κ e ≤ 1000 ∧ κ 30 e 0 + cHi κ e ≤ 100000 := by unfold cHi; split <;> omega
      refine z_istore hY eX7_needed_40 (ls' := [(4, z_i (cHi κ e)), (3, .ref (B 20 e)), (0, .ref (B 0 0)), (1, z_i e), (2, z_i q)]) rfl ?_
      refine z_aload hY eX7_needed_42 2 rfl ?_
      refine z_aload hY eX7_needed_43 1 rfl ?_
      refine z_const hY eX7_needed_44 ?_
      refine z_callV (As := [.ref (B 20 e), z_i 0]) (rest := []) hY eX7_needed_45 (c_rankWithX hG hJ hV (kEt_refl hS) (show 0 ≤ e ∧ e < κ 24 0 0 by omega) (show -100000 ≤ κ 30 e 0 + 0 ∧ κ 30 e 0 + 0 ≤ 100000 by omega)) (cH_at (t := 0) (i := 0) hJ (by omega)) (by decide) (Nat.le_of_ble_eq_true rfl) (by rw [hmc, hms]; omega) (fun _ _ q => q.elim) (fun vv3 hh3 q3 => ?_)
      obtain ⟨rfl, rfl⟩ := q3
      have hE4 : kEt (kTr κ e 0 (κ 30 e 0 + 0)) κ := kEt_Tr (kEt_refl hS) (by omega) (by omega)
      have hc5 : 1 ≤ cRw κ e 0 ∧ cRw κ e 0 ≤ 31 := sRk_b (kEt_V hE4 hV) (-1)
      refine z_iload hY eX7_needed_48 4 rfl ?_
      refine z_icmpgt hY eX7_needed_49 (by omega) (fun c49 => ?_) (fun c49 => ?_)
      · refine z_aload hY eX7_needed_54 2 rfl ?_
        refine z_aload hY eX7_needed_55 1 rfl ?_
        refine z_iload hY eX7_needed_56 0 rfl ?_
        refine z_callV (As := [.ref (B 20 e), z_i (cHi κ e)]) (rest := []) hY eX7_needed_58 (c_rankWithX hG hJ hV hE4 (show 0 ≤ e ∧ e < κ 24 0 0 by omega) (show -100000 ≤ κ 30 e 0 + (cHi κ e) ∧ κ 30 e 0 + (cHi κ e) ≤ 100000 by omega)) (cH_at (t := 0) (i := 0) (kEt_J hE4 hJ) ((kEt_L hE4 _ _).mpr (by omega))) (by decide) (Nat.le_of_ble_eq_true rfl) (by rw [hmc, hms]; omega) (fun _ _ q => q.elim) (fun vv6 hh6 q6 => ?_)
        obtain ⟨rfl, rfl⟩ := q6
        have hE7 : kEt (kTr κ e 0 (κ 30 e 0 + (cHi κ e))) κ := kEt_Tr (kEt_refl hS) (by omega) (by omega)
        have hc8 : 1 ≤ cRw κ e (cHi κ e) ∧ cRw κ e (cHi κ e) ≤ 31 := sRk_b (kEt_V hE7 hV) (-1)
        refine z_iload hY eX7_needed_61 4 rfl ?_
        refine z_icmple hY eX7_needed_62 (by omega) (fun c62 => ?_) (fun c62 => ?_)
        · refine z_aload hY eX7_needed_67 2 rfl ?_
          refine z_aload hY eX7_needed_68 1 rfl ?_
          refine z_iload hY eX7_needed_69 4 rfl ?_
          refine z_iload hY eX7_needed_70 0 rfl ?_
          refine z_callV (As := [.ref (B 20 e), z_i q, z_i (cHi κ e)]) (rest := []) hY eX7_needed_72 (c_leastNeededX hG hJ hV hE7 (show 0 ≤ e ∧ e < κ 24 0 0 by omega) (by omega) (by omega)) (cH_at (t := 0) (i := 0) (kEt_J hE7 hJ) ((kEt_L hE7 _ _).mpr (by omega))) (by decide) (Nat.le_of_ble_eq_true rfl) (by rw [hmc, hms]; omega) (fun _ _ q => q.elim) (fun vv9 hh9 q9 => ?_)
          obtain ⟨rfl, κ9, hEL, rfl⟩ := q9
          exact z_ireturn hY eX7_needed_75 rfl (by rw [hφ]; first | (exfalso; omega) | exact ⟨by omega, congrArg (fun q => some (z_i q)) (by unfold cNd; first | exact (if_pos (by omega)).symm | exact ((if_neg (by omega)).trans (if_pos (by omega))).symm | exact ((if_neg (by omega)).trans (if_neg (by omega))).symm), _, hEL, rfl⟩) (by rw [hmc, hms]; omega)
        · refine z_const hY eX7_needed_65 ?_
          exact z_ireturn hY eX7_needed_66 rfl (by rw [hφ]; first | (exfalso; omega) | exact ⟨by omega, congrArg (fun q => some (z_i q)) (by unfold cNd; first | exact (if_pos (by omega)).symm | exact ((if_neg (by omega)).trans (if_pos (by omega))).symm | exact ((if_neg (by omega)).trans (if_neg (by omega))).symm), _, hE7, rfl⟩) (by rw [hmc, hms]; omega)
      · refine z_const hY eX7_needed_52 ?_
        exact z_ireturn hY eX7_needed_53 rfl (by rw [hφ]; first | (exfalso; omega) | exact ⟨by omega, congrArg (fun q => some (z_i q)) (by unfold cNd; first | exact (if_pos (by omega)).symm | exact ((if_neg (by omega)).trans (if_pos (by omega))).symm | exact ((if_neg (by omega)).trans (if_neg (by omega))).symm), _, hE4, rfl⟩) (by rw [hmc, hms]; omega)
    · exact z_thr hY xX7_needed_17 (by rw [hmc, hms]; omega) (by rw [hψ]; refine ⟨rfl, ?_⟩; first | exact ⟨rfl, by omega⟩ | exact Or.inl ⟨rfl, by omega⟩ | exact Or.inr ⟨rfl, by omega⟩ | exact Or.inr (Or.inl ⟨rfl, by omega⟩) | exact Or.inr (Or.inr ⟨rfl, by omega⟩))
theorem q_wouldGain {G : z_G} {D : Nat} {B : Nat → Int → Nat} {κ : c_K} {h : z_H} (hG : z_OK G) (hJ : cJ B κ) (hB : cB κ) (hV : cV κ) (hS : cS κ) {e k m : Int} (hre : -2147483648 ≤ e ∧ e ≤ 2147483647) (hrk : -2147483648 ≤ k ∧ k ≤ 2147483647) (hrm : -2147483648 ≤ m ∧ m ≤ 2147483647) : z_T G mX7_wouldGain [.ref (B 0 0), z_i e, z_i k, z_i m] (cH D B κ h) 5 3 18 (fun v h' => ((0 ≤ e ∧ e < κ 24 0 0 ∧ κ 36 e 0 ≠ 0) ∧ (0 ≤ k ∧ k ≤ 3) ∧ -100000 ≤ κ 30 e k + m ∧ κ 30 e k + m ≤ 100000) ∧ v = some (z_i (κ 37 e 0 - cPw κ e k (κ 30 e k + m))) ∧ ∃ κ', kEt κ' κ ∧ h' = cH D B κ' h) (fun E h' => h' = cH D B κ h ∧ ((E = "java/lang/IndexOutOfBoundsException" ∧ ¬ (0 ≤ e ∧ e < κ 24 0 0 ∧ κ 36 e 0 ≠ 0)) ∨ (E = "java/lang/IllegalArgumentException" ∧ (0 ≤ e ∧ e < κ 24 0 0 ∧ κ 36 e 0 ≠ 0) ∧ ¬ ((0 ≤ k ∧ k ≤ 3) ∧ -100000 ≤ κ 30 e k + m ∧ κ 30 e k + m ≤ 100000)))) := by
  obtain ⟨hn, hsz, hrw, hcu, htl, hth⟩ := id hV
  have hs0 := hsz 0 (by omega) (by omega)
  have hs1 := hsz 1 (by omega) (by omega)
  have hs2 := hsz 2 (by omega) (by omega)
  have hs3 := hsz 3 (by omega) (by omega)
  refine z_T_of hG pX7_wouldGain (Nat.le_of_ble_eq_true rfl) (ls0 := [(0, .ref (B 0 0)), (1, z_i e), (2, z_i k), (3, z_i m)]) rfl fun Y hY hg hmc hms hφ hψ => ?_
  subst hg
  refine z_aload hY eX7_wouldGain_0 0 rfl ?_
  refine z_iload hY eX7_wouldGain_1 1 rfl ?_
  refine z_callV (As := [z_i e]) (rest := []) hY eX7_wouldGain_2 (c_presentOne hG hJ hB hV hS (by omega)) (cH_at (t := 0) (i := 0) hJ (by omega)) (by decide) (Nat.le_of_ble_eq_true rfl) (by rw [hmc, hms]; omega) (fun E' h1 q => by obtain ⟨rfl, q⟩ := q; rw [hψ]; refine ⟨rfl, ?_⟩; obtain ⟨rfl, q⟩ := q <;> (first | exact ⟨rfl, by omega⟩ | exact Or.inl ⟨rfl, by omega⟩ | exact Or.inr ⟨rfl, by omega⟩ | exact Or.inr (Or.inl ⟨rfl, by omega⟩) | exact Or.inr (Or.inr ⟨rfl, by omega⟩))) (fun vv1 hh1 q1 => ?_)
  obtain ⟨hq1, rfl, rfl⟩ := q1
  refine z_astore hY eX7_wouldGain_5 (ls' := [(4, .ref (B 20 e)), (0, .ref (B 0 0)), (1, z_i e), (2, z_i k), (3, z_i m)]) rfl ?_
  refine z_aload hY eX7_wouldGain_7 1 rfl ?_
  refine z_aload hY eX7_wouldGain_8 0 rfl ?_
  refine z_iload hY eX7_wouldGain_10 3 rfl ?_
  refine z_iload hY eX7_wouldGain_11 4 rfl ?_
  refine z_callV (As := [.ref (B 20 e), z_i k, z_i m]) (rest := []) hY eX7_wouldGain_12 (c_raisedScore hG hJ hB hV hS (by omega) (by omega) (by omega)) (cH_at (t := 0) (i := 0) hJ (by omega)) (by decide) (Nat.le_of_ble_eq_true rfl) (by rw [hmc, hms]; omega) (fun E' h1 q => by obtain ⟨rfl, q⟩ := q; rw [hψ]; refine ⟨rfl, ?_⟩; obtain ⟨rfl, q⟩ := q <;> (first | exact ⟨rfl, by omega⟩ | exact Or.inl ⟨rfl, by omega⟩ | exact Or.inr ⟨rfl, by omega⟩ | exact Or.inr (Or.inl ⟨rfl, by omega⟩) | exact Or.inr (Or.inr ⟨rfl, by omega⟩))) (fun vv2 hh2 q2 => ?_)
  obtain ⟨hq2, rfl, rfl⟩ := q2
  refine z_istore hY eX7_wouldGain_15 (ls' := [(5, z_i ((κ 30 e k) + m)), (4, .ref (B 20 e)), (0, .ref (B 0 0)), (1, z_i e), (2, z_i k), (3, z_i m)]) rfl ?_
  refine z_aload hY eX7_wouldGain_17 2 rfl ?_
  refine z_aload hY eX7_wouldGain_18 1 rfl ?_
  refine z_iload hY eX7_wouldGain_20 4 rfl ?_
  refine z_iload hY eX7_wouldGain_21 0 rfl ?_
  refine z_callV (As := [.ref (B 20 e), z_i k, z_i ((κ 30 e k) + m)]) (rest := []) hY eX7_wouldGain_23 (c_tryWithX hG hJ hV (kEt_refl hS) (show 0 ≤ e ∧ e < κ 24 0 0 by omega) (by omega) (by omega)) (cH_at (t := 0) (i := 0) hJ (by omega)) (by decide) (Nat.le_of_ble_eq_true rfl) (by rw [hmc, hms]; omega) (fun _ _ q => q.elim) (fun vv3 hh3 q3 => ?_)
  obtain ⟨rfl, rfl⟩ := q3
  have hE4 : kEt (kTr κ e k ((κ 30 e k) + m)) κ := kEt_Tr (kEt_refl hS) (by omega) (by omega)
  refine z_aload hY eX7_wouldGain_26 1 rfl ?_
  have hb5 := hS.s37 e 0
  refine c_gf hY (kEt_J hE4 hJ) eX7_wouldGain_28 (t := 20) (i := e) (v := z_i (κ 37 e 0)) ((kEt_L hE4 _ _).mpr (by omega)) rfl (by rw [← congrFun (hE4.1 37 e (Or.inl (by decide))) 0]; rfl) ?_
  refine z_aload hY eX7_wouldGain_31 2 rfl ?_
  refine c_gf hY (kEt_J hE4 hJ) eX7_wouldGain_32 (t := 0) (i := 0) (v := .ref (B 9 0)) ((kEt_L hE4 _ _).mpr (by omega)) rfl rfl ?_
  refine z_aload hY eX7_wouldGain_35 2 rfl ?_
  refine c_gf hY (kEt_J hE4 hJ) eX7_wouldGain_36 (t := 0) (i := 0) (v := .ref (B 20 (-1))) ((kEt_L hE4 _ _).mpr (by omega)) rfl rfl ?_
  refine z_callVr (As := [.ref (B 20 (-1))]) (rest := [z_i (κ 37 e 0)]) (r := z_i (cAh (kTr κ e k ((κ 30 e k) + m)) (-1))) hY eX7_wouldGain_39 (s_countAhead (κ := (kTr κ e k ((κ 30 e k) + m))) hG (kEt_J hE4 hJ) (kEt_B hE4) (kEt_V hE4 hV) (show -1 ≤ (-1 : Int) ∧ -1 < (kTr κ e k ((κ 30 e k) + m)) 24 0 0 from by rw [kEt_k hE4 (k := 24) (by decide)]; omega)) (cH_at (t := 9) (i := 0) (kEt_J hE4 hJ) ((kEt_L hE4 _ _).mpr (by omega))) (by decide) (Nat.le_of_ble_eq_true rfl) (by rw [hmc, hms]; omega) ?_
  have hc6 := cAh_b (kEt_V hE4 hV) (-1)
  refine z_const hY eX7_wouldGain_42 ?_
  refine z_iadd hY eX7_wouldGain_43 ?_
  refine z_isub hY eX7_wouldGain_44 ?_
  refine z_top (b := (κ 37 e 0) - (cAh (kTr κ e k ((κ 30 e k) + m)) (-1)) - 1) (by omega) ?_
  exact z_ireturn hY eX7_wouldGain_45 rfl (by rw [hφ]; first | (exfalso; omega) | exact ⟨by omega, congrArg (fun q => some (z_i q)) (by unfold cPw; omega), _, hE4, rfl⟩) (by rw [hmc, hms]; omega)
theorem c_wrongPlaces {G : z_G} {D : Nat} {B : Nat → Int → Nat} {κ : c_K} {h : z_H} (hG : z_OK G) (hJ : cJ B κ) (hB : cB κ) (hV : cV κ) (hS : cS κ)  : z_T G mX7_wrongPlaces [.ref (B 0 0)] (cH D B κ h) 5 0 0 (fun v h' => v = some (z_i (cWl κ)) ∧ ∃ κ', kEt κ' κ ∧ h' = cH D B κ' h) (z_no) := by
  obtain ⟨hn, hsz, hrw, hcu, htl, hth⟩ := id hV
  have hs0 := hsz 0 (by omega) (by omega)
  have hs1 := hsz 1 (by omega) (by omega)
  have hs2 := hsz 2 (by omega) (by omega)
  have hs3 := hsz 3 (by omega) (by omega)
  refine z_T_of hG pX7_wrongPlaces (Nat.le_of_ble_eq_true rfl) (ls0 := [(0, .ref (B 0 0))]) rfl fun Y hY hg hmc hms hφ hψ => ?_
  subst hg
  refine z_const hY eX7_wrongPlaces_0 ?_
  refine z_istore hY eX7_wrongPlaces_1 (ls' := [(1, z_i 0), (0, .ref (B 0 0))]) rfl ?_
  refine z_const hY eX7_wrongPlaces_2 ?_
  refine z_istore hY eX7_wrongPlaces_3 (ls' := [(2, z_i 0), (1, z_i 0), (0, .ref (B 0 0))]) rfl ?_
  refine z_sub [2, 0, 1] (ls' := [(0, .ref (B 0 0)), (2, z_i 0), (1, z_i 0)]) rfl ?_
  have lp4 : ∀ (fu : Nat) (e : Int) (n : Int) (κx : c_K), (κ 24 0 0 - e).toNat < fu → (0 ≤ e ∧ e ≤ κ 24 0 0) → (n = z_sm (fun e => if κ 36 e 0 ≠ 0 ∧ κ 37 e 0 ≠ cPw κ e 0 (κ 30 e 0) then (1 : Int) else 0) e) → (0 ≤ n ∧ n ≤ e) → kEt κx κ → z_W Y 4 [(0, .ref (B 0 0)), (2, z_i e), (1, z_i n)] [] (cH D B κx h) 0 0 := by
    intro fu
    induction fu with
    | zero => intro e n κx hf; exact absurd hf (Nat.not_lt_zero _)
    | succ fu ih4 =>
      intro e n κx hf h0 hn hnb hE
      refine z_iload hY eX7_wrongPlaces_4 1 rfl ?_
      refine z_aload hY eX7_wrongPlaces_5 0 rfl ?_
      refine c_gf hY (kEt_J hE hJ) eX7_wrongPlaces_6 (t := 0) (i := 0) (v := .ref (B 7 0)) ((kEt_L hE _ _).mpr (by omega)) rfl rfl ?_
      refine z_callVr (As := []) (rest := [z_i e]) (r := z_i (κ 24 0 0)) hY eX7_wrongPlaces_9 ((congrFun (congrFun (kEt_k hE (k := 24) (by decide)) 0) 0) ▸ c_size (κ := κx) hG (kEt_J hE hJ) (kEt_B hE) (kEt_V hE hV) (by omega)) (cH_at (t := 7) (i := 0) (kEt_J hE hJ) ((kEt_L hE _ _).mpr (by omega))) (by decide) (Nat.le_of_ble_eq_true rfl) ⟨Nat.zero_le _, Nat.zero_le _⟩ ?_
      refine z_icmpge hY eX7_wrongPlaces_12 (by omega) (fun c12 => ?_) (fun c12 => ?_)
      · refine z_iload hY eX7_wrongPlaces_78 2 rfl ?_
        exact z_ireturn hY eX7_wrongPlaces_79 rfl (by rw [hφ]; first | (exfalso; omega) | exact ⟨congrArg (fun q => some (z_i q)) (by unfold cWl; rw [show κ 24 0 0 = e by omega, ← hn]), _, hE, rfl⟩) ⟨Nat.zero_le _, Nat.zero_le _⟩
      · refine z_aload hY eX7_wrongPlaces_15 0 rfl ?_
        refine c_gf hY (kEt_J hE hJ) eX7_wrongPlaces_16 (t := 0) (i := 0) (v := .ref (B 7 0)) ((kEt_L hE _ _).mpr (by omega)) rfl rfl ?_
        refine z_iload hY eX7_wrongPlaces_19 1 rfl ?_
        refine z_callVr (As := [z_i e]) (rest := []) (r := .ref (B 20 e)) hY eX7_wrongPlaces_20 (c_get0 (κ := κx) hG (kEt_J hE hJ) (kEt_B hE) (kEt_V hE hV) hE.2.2.2 (show 0 ≤ e ∧ e < κx 24 0 0 from by rw [kEt_k hE (k := 24) (by decide)]; omega)) (cH_at (t := 7) (i := 0) (kEt_J hE hJ) ((kEt_L hE _ _).mpr (by omega))) (by decide) (Nat.le_of_ble_eq_true rfl) ⟨Nat.zero_le _, Nat.zero_le _⟩ ?_
        refine z_cast hY eX7_wrongPlaces_23 (ci := 0) (nm := "StandingsHall$Entrant") (T := TX0) (N := 11) rfl (cH_at (t := 20) (i := e) (kEt_J hE hJ) ((kEt_L hE _ _).mpr (by omega))) ?_
        refine z_astore hY eX7_wrongPlaces_26 (ls' := [(3, .ref (B 20 e)), (0, .ref (B 0 0)), (2, z_i e), (1, z_i n)]) rfl ?_
        refine z_aload hY eX7_wrongPlaces_27 0 rfl ?_
        have hb1 := hS.s36 e 0
        refine c_gf hY (kEt_J hE hJ) eX7_wrongPlaces_28 (t := 20) (i := e) (v := z_i (κ 36 e 0)) ((kEt_L hE _ _).mpr (by omega)) rfl (by rw [← congrFun (hE.1 36 e (Or.inl (by decide))) 0]; rfl) ?_
        refine z_ifeq hY eX7_wrongPlaces_31 (by omega) (fun c31 => ?_) (fun c31 => ?_)
        · refine z_iinc hY eX7_wrongPlaces_72 2 rfl (ls' := [(2, z_i (e + 1)), (3, .ref (B 20 e)), (0, .ref (B 0 0)), (1, z_i n)]) rfl ?_
          refine z_goto hY eX7_wrongPlaces_75 ?_
          refine z_sub [2, 0, 3] (ls' := [(0, .ref (B 0 0)), (2, z_i (e + 1)), (1, z_i n)]) rfl ?_
          exact ih4 (e + 1) n κx (by omega) (by omega) (by rw [z_smS (by omega), ← hn]; unfold cPw; split <;> omega) (by omega) hE
        · refine z_aload hY eX7_wrongPlaces_34 1 rfl ?_
          refine z_aload hY eX7_wrongPlaces_35 0 rfl ?_
          refine z_const hY eX7_wrongPlaces_36 ?_
          refine z_aload hY eX7_wrongPlaces_37 0 rfl ?_
          refine z_callVr (As := []) (rest := [z_i 0, .ref (B 20 e), .ref (B 0 0)]) (r := z_i (κ 30 e 0)) hY eX7_wrongPlaces_38 ((congrFun (hE.1 30 e (Or.inr (by omega))) 0) ▸ e_points (κ := κx) hG (kEt_J hE hJ) (kEt_B hE) (kEt_V hE hV) (show -1 ≤ e ∧ e < κx 24 0 0 from by rw [kEt_k hE (k := 24) (by decide)]; omega)) (cH_at (t := 20) (i := e) (kEt_J hE hJ) ((kEt_L hE _ _).mpr (by omega))) (by decide) (Nat.le_of_ble_eq_true rfl) ⟨Nat.zero_le _, Nat.zero_le _⟩ ?_
          have hc2 := hS.s30 e 0
          refine z_callV (As := [.ref (B 20 e), z_i 0, z_i (κ 30 e 0)]) (rest := []) hY eX7_wrongPlaces_41 (c_tryWithX hG hJ hV hE (show 0 ≤ e ∧ e < κ 24 0 0 by omega) (by omega) (by omega)) (cH_at (t := 0) (i := 0) (kEt_J hE hJ) ((kEt_L hE _ _).mpr (by omega))) (by decide) (Nat.le_of_ble_eq_true rfl) ⟨Nat.zero_le _, Nat.zero_le _⟩ (fun _ _ q => q.elim) (fun vv3 hh3 q3 => ?_)
          obtain ⟨rfl, rfl⟩ := q3
          have hE4 : kEt (kTr κ e 0 (κ 30 e 0)) κ := kEt_Tr (kEt_refl hS) (by omega) (by omega)
          refine z_iload hY eX7_wrongPlaces_44 3 rfl ?_
          refine z_aload hY eX7_wrongPlaces_45 0 rfl ?_
          have hb5 := hS.s37 e 0
          refine c_gf hY (kEt_J hE4 hJ) eX7_wrongPlaces_46 (t := 20) (i := e) (v := z_i (κ 37 e 0)) ((kEt_L hE4 _ _).mpr (by omega)) rfl (by rw [← congrFun (hE4.1 37 e (Or.inl (by decide))) 0]; rfl) ?_
          refine z_aload hY eX7_wrongPlaces_49 1 rfl ?_
          refine c_gf hY (kEt_J hE4 hJ) eX7_wrongPlaces_50 (t := 0) (i := 0) (v := .ref (B 9 0)) ((kEt_L hE4 _ _).mpr (by omega)) rfl rfl ?_
          refine z_aload hY eX7_wrongPlaces_53 1 rfl ?_
          refine c_gf hY (kEt_J hE4 hJ) eX7_wrongPlaces_54 (t := 0) (i := 0) (v := .ref (B 20 (-1))) ((kEt_L hE4 _ _).mpr (by omega)) rfl rfl ?_
          refine z_callVr (As := [.ref (B 20 (-1))]) (rest := [z_i (κ 37 e 0), z_i n]) (r := z_i (cAh (kTr κ e 0 (κ 30 e 0)) (-1))) hY eX7_wrongPlaces_57 (s_countAhead (κ := (kTr κ e 0 (κ 30 e 0))) hG (kEt_J hE4 hJ) (kEt_B hE4) (kEt_V hE4 hV) (show -1 ≤ (-1 : Int) ∧ -1 < (kTr κ e 0 (κ 30 e 0)) 24 0 0 from by rw [kEt_k hE4 (k := 24) (by decide)]; omega)) (cH_at (t := 9) (i := 0) (kEt_J hE4 hJ) ((kEt_L hE4 _ _).mpr (by omega))) (by decide) (Nat.le_of_ble_eq_true rfl) ⟨Nat.zero_le _, Nat.zero_le _⟩ ?_
          have hc6 := cAh_b (kEt_V hE4 hV) (-1)
          refine z_const hY eX7_wrongPlaces_60 ?_
          refine z_iadd hY eX7_wrongPlaces_61 ?_
          refine z_icmpne hY eX7_wrongPlaces_62 (by omega) (fun c62 => ?_) (fun c62 => ?_)
          · refine z_const hY eX7_wrongPlaces_69 ?_
            refine z_iadd hY eX7_wrongPlaces_70 ?_
            refine z_istore hY eX7_wrongPlaces_71 (ls' := [(1, z_i (n + 1)), (3, .ref (B 20 e)), (0, .ref (B 0 0)), (2, z_i e)]) rfl ?_
            refine z_iinc hY eX7_wrongPlaces_72 3 rfl (ls' := [(2, z_i (e + 1)), (1, z_i (n + 1)), (3, .ref (B 20 e)), (0, .ref (B 0 0))]) rfl ?_
            refine z_goto hY eX7_wrongPlaces_75 ?_
            refine z_sub [3, 0, 1] (ls' := [(0, .ref (B 0 0)), (2, z_i (e + 1)), (1, z_i (n + 1))]) rfl ?_
            exact ih4 (e + 1) (n + 1) (kTr κ e 0 (κ 30 e 0)) (by omega) (by omega) (by rw [z_smS (by omega), ← hn]; unfold cPw; split <;> omega) (by omega) hE4
          · refine z_const hY eX7_wrongPlaces_65 ?_
            refine z_goto hY eX7_wrongPlaces_66 ?_
            refine z_iadd hY eX7_wrongPlaces_70 ?_
            refine z_top (b := n) (by omega) ?_
            refine z_istore hY eX7_wrongPlaces_71 (ls' := [(1, z_i n), (3, .ref (B 20 e)), (0, .ref (B 0 0)), (2, z_i e)]) rfl ?_
            refine z_iinc hY eX7_wrongPlaces_72 3 rfl (ls' := [(2, z_i (e + 1)), (1, z_i n), (3, .ref (B 20 e)), (0, .ref (B 0 0))]) rfl ?_
            refine z_goto hY eX7_wrongPlaces_75 ?_
            refine z_sub [3, 0, 1] (ls' := [(0, .ref (B 0 0)), (2, z_i (e + 1)), (1, z_i n)]) rfl ?_
            exact ih4 (e + 1) n (kTr κ e 0 (κ 30 e 0)) (by omega) (by omega) (by rw [z_smS (by omega), ← hn]; unfold cPw; split <;> omega) (by omega) hE4
  exact lp4 _ 0 0 κ (Nat.lt_succ_self _) (by omega) (z_sm0 (by omega)).symm (by omega) (kEt_refl hS)
theorem q_errors {G : z_G} {D : Nat} {B : Nat → Int → Nat} {κ : c_K} {h : z_H} (hG : z_OK G) (hJ : cJ B κ) (hB : cB κ) (hV : cV κ) (hS : cS κ)  : z_T G mX7_errors [.ref (B 0 0)] (cH D B κ h) 6 0 0 (fun v h' => ∃ κ', kEt κ' κ ∧ v = some (z_i (cWl κ + cWp κ' + cWm κ' 0 + cWm κ' 1)) ∧ h' = cH D B κ' h) (z_no) := by
  obtain ⟨hn, hsz, hrw, hcu, htl, hth⟩ := id hV
  have hs0 := hsz 0 (by omega) (by omega)
  have hs1 := hsz 1 (by omega) (by omega)
  have hs2 := hsz 2 (by omega) (by omega)
  have hs3 := hsz 3 (by omega) (by omega)
  refine z_T_of hG pX7_errors (Nat.le_of_ble_eq_true rfl) (ls0 := [(0, .ref (B 0 0))]) rfl fun Y hY hg hmc hms hφ hψ => ?_
  subst hg
  refine z_aload hY eX7_errors_0 0 rfl ?_
  refine z_callV (As := []) (rest := []) hY eX7_errors_1 (c_wrongPlaces hG hJ hB hV hS) (cH_at (t := 0) (i := 0) hJ (by omega)) (by decide) (Nat.le_of_ble_eq_true rfl) ⟨Nat.zero_le _, Nat.zero_le _⟩ (fun _ _ q => q.elim) (fun vv1 hh1 q1 => ?_)
  obtain ⟨rfl, κ1, hE1, rfl⟩ := q1
  refine z_aload hY eX7_errors_4 0 rfl ?_
  refine z_callVr (As := []) (rest := [z_i (cWl κ)]) (r := z_i (cWp κ1)) hY eX7_errors_5 (c_wrongPoints (κ := κ1) hG (kEt_J hE1 hJ) (kEt_B hE1) (kEt_V hE1 hV) hE1.2.2.2 ) (cH_at (t := 0) (i := 0) (kEt_J hE1 hJ) ((kEt_L hE1 _ _).mpr (by omega))) (by decide) (Nat.le_of_ble_eq_true rfl) ⟨Nat.zero_le _, Nat.zero_le _⟩ ?_
  refine z_iadd hY eX7_errors_8 ?_
  refine z_aload hY eX7_errors_9 0 rfl ?_
  refine z_const hY eX7_errors_10 ?_
  refine z_callVr (As := [z_i 0]) (rest := [z_i ((cWl κ) + (cWp κ1))]) (r := z_i (cWm κ1 0)) hY eX7_errors_11 (c_wrongMedian (κ := κ1) hG (kEt_J hE1 hJ) (kEt_B hE1) (kEt_V hE1 hV) hE1.2.2.2 (by omega)) (cH_at (t := 0) (i := 0) (kEt_J hE1 hJ) ((kEt_L hE1 _ _).mpr (by omega))) (by decide) (Nat.le_of_ble_eq_true rfl) ⟨Nat.zero_le _, Nat.zero_le _⟩ ?_
  refine z_iadd hY eX7_errors_14 ?_
  refine z_aload hY eX7_errors_15 0 rfl ?_
  refine z_const hY eX7_errors_16 ?_
  refine z_callVr (As := [z_i 1]) (rest := [z_i ((cWl κ) + (cWp κ1) + (cWm κ1 0))]) (r := z_i (cWm κ1 1)) hY eX7_errors_17 (c_wrongMedian (κ := κ1) hG (kEt_J hE1 hJ) (kEt_B hE1) (kEt_V hE1 hV) hE1.2.2.2 (by omega)) (cH_at (t := 0) (i := 0) (kEt_J hE1 hJ) ((kEt_L hE1 _ _).mpr (by omega))) (by decide) (Nat.le_of_ble_eq_true rfl) ⟨Nat.zero_le _, Nat.zero_le _⟩ ?_
  refine z_iadd hY eX7_errors_20 ?_
  exact z_ireturn hY eX7_errors_21 rfl (by rw [hφ]; exact ⟨κ1, hE1, rfl, rfl⟩) ⟨Nat.zero_le _, Nat.zero_le _⟩
end D3
