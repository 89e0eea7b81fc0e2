/-! The hall: what its calls refuse, what its reading calls answer (laid by wip/whole/gen/gm32.py). -/
section D1
/-- the bounds of what the class keeps, by key -/
def bLo (k : Nat) : Int := match k with
  | 0 => -1
  | 1 => 0
  | 2 => -200000
  | 3 => -1
  | 4 => 0
  | 5 => 0
  | 12 => -3996
  | 14 => -1
  | 16 => 0
  | 17 => 0
  | 18 => 1
  | 19 => 1
  | 30 => -100000
  | 32 => -200000
  | 33 => -1
  | 34 => -1
  | 35 => 0
  | 36 => 0
  | 37 => -1
  | 38 => -200000
  | 39 => -1
  | 40 => -1
  | _ => -2147483648
def bHi (k : Nat) : Int := match k with
  | 0 => 100
  | 1 => 200
  | 2 => 200000
  | 3 => 30
  | 4 => 255
  | 5 => 100
  | 12 => 3996
  | 14 => 1
  | 16 => 4
  | 17 => 1
  | 18 => 5
  | 19 => 9
  | 30 => 100000
  | 32 => 200000
  | 33 => 30
  | 34 => 29
  | 35 => 4
  | 36 => 1
  | 37 => 30
  | 38 => 200000
  | 39 => 200
  | 40 => 200
  | _ => 2147483647
def cS (κ : c_K) : Prop := (∀ (k : Nat) (i j : Int), bLo k ≤ κ k i j ∧ κ k i j ≤ bHi k) ∧ (∀ j, 0 ≤ j → j < κ 24 0 0 → κ 20 0 j = j) ∧ (∀ e, 0 ≤ e → e < κ 24 0 0 → κ 34 e 0 = e)
theorem cS.s0 {κ : c_K} (h : cS κ) : ∀ i j, -1 ≤ κ 0 i j ∧ κ 0 i j ≤ 100 := h.1 0
theorem cS.s1 {κ : c_K} (h : cS κ) : ∀ i j, 0 ≤ κ 1 i j ∧ κ 1 i j ≤ 200 := h.1 1
theorem cS.s2 {κ : c_K} (h : cS κ) : ∀ i j, -200000 ≤ κ 2 i j ∧ κ 2 i j ≤ 200000 := h.1 2
theorem cS.s3 {κ : c_K} (h : cS κ) : ∀ i j, -1 ≤ κ 3 i j ∧ κ 3 i j ≤ 30 := h.1 3
theorem cS.s4 {κ : c_K} (h : cS κ) : ∀ i j, 0 ≤ κ 4 i j ∧ κ 4 i j ≤ 255 := h.1 4
theorem cS.s5 {κ : c_K} (h : cS κ) : ∀ i j, 0 ≤ κ 5 i j ∧ κ 5 i j ≤ 100 := h.1 5
theorem cS.s12 {κ : c_K} (h : cS κ) : ∀ i j, -3996 ≤ κ 12 i j ∧ κ 12 i j ≤ 3996 := h.1 12
theorem cS.s14 {κ : c_K} (h : cS κ) : ∀ i j, -1 ≤ κ 14 i j ∧ κ 14 i j ≤ 1 := h.1 14
theorem cS.s16 {κ : c_K} (h : cS κ) : ∀ i j, 0 ≤ κ 16 i j ∧ κ 16 i j ≤ 4 := h.1 16
theorem cS.s17 {κ : c_K} (h : cS κ) : ∀ i j, 0 ≤ κ 17 i j ∧ κ 17 i j ≤ 1 := h.1 17
theorem cS.s18 {κ : c_K} (h : cS κ) : ∀ i j, 1 ≤ κ 18 i j ∧ κ 18 i j ≤ 5 := h.1 18
theorem cS.s19 {κ : c_K} (h : cS κ) : ∀ i j, 1 ≤ κ 19 i j ∧ κ 19 i j ≤ 9 := h.1 19
theorem cS.s30 {κ : c_K} (h : cS κ) : ∀ i j, -100000 ≤ κ 30 i j ∧ κ 30 i j ≤ 100000 := h.1 30
theorem cS.s32 {κ : c_K} (h : cS κ) : ∀ i j, -200000 ≤ κ 32 i j ∧ κ 32 i j ≤ 200000 := h.1 32
theorem cS.s33 {κ : c_K} (h : cS κ) : ∀ i j, -1 ≤ κ 33 i j ∧ κ 33 i j ≤ 30 := h.1 33
theorem cS.s34 {κ : c_K} (h : cS κ) : ∀ i j, -1 ≤ κ 34 i j ∧ κ 34 i j ≤ 29 := h.1 34
theorem cS.s35 {κ : c_K} (h : cS κ) : ∀ i j, 0 ≤ κ 35 i j ∧ κ 35 i j ≤ 4 := h.1 35
theorem cS.s36 {κ : c_K} (h : cS κ) : ∀ i j, 0 ≤ κ 36 i j ∧ κ 36 i j ≤ 1 := h.1 36
theorem cS.s37 {κ : c_K} (h : cS κ) : ∀ i j, -1 ≤ κ 37 i j ∧ κ 37 i j ≤ 30 := h.1 37
theorem cS.s38 {κ : c_K} (h : cS κ) : ∀ i j, -200000 ≤ κ 38 i j ∧ κ 38 i j ≤ 200000 := h.1 38
theorem cS.s39 {κ : c_K} (h : cS κ) : ∀ i j, -1 ≤ κ 39 i j ∧ κ 39 i j ≤ 200 := h.1 39
theorem cS.s40 {κ : c_K} (h : cS κ) : ∀ i j, -1 ≤ κ 40 i j ∧ κ 40 i j ≤ 200 := h.1 40
theorem cS.l0 {κ : c_K} (h : cS κ) : ∀ j, 0 ≤ j → j < κ 24 0 0 → κ 20 0 j = j := h.2.1
theorem cS.n0 {κ : c_K} (h : cS κ) : ∀ e, 0 ≤ e → e < κ 24 0 0 → κ 34 e 0 = e := h.2.2
theorem bLo_ge (k : Nat) : -2147483648 ≤ bLo k := by unfold bLo; split <;> omega
theorem bHi_le (k : Nat) : bHi k ≤ 2147483647 := by unfold bHi; split <;> omega
theorem cS.b {κ : c_K} (h : cS κ) : cB κ := fun k i j => by
  have := h.1 k i j
  have := bLo_ge k
  have := bHi_le k
  omega
theorem cS_u {κ : c_K} {k : Nat} {i j v : Int} (h : cS κ) (hk : k ≠ 20 ∧ k ≠ 24 ∧ k ≠ 34) (hv : bLo k ≤ v ∧ v ≤ bHi k) : cS (k_u κ k i j v) := by
  obtain ⟨h1, h2, h3⟩ := h
  refine ⟨fun k' i' j' => ?_, ?_, ?_⟩
  · have := h1 k' i' j'
    unfold k_u
    split
    · next e => subst e; (repeat' split) <;> omega
    · exact this
  · rw [k_u_ne (Ne.symm hk.2.1), k_u_ne (Ne.symm hk.1)]; exact h2
  · rw [k_u_ne (Ne.symm hk.2.1), k_u_ne (Ne.symm hk.2.2)]; exact h3
theorem cS_r {κ : c_K} {k : Nat} {i : Int} {f : Int → Int} (h : cS κ) (hk : k ≠ 20 ∧ k ≠ 24 ∧ k ≠ 34) (hv : ∀ j, bLo k ≤ f j ∧ f j ≤ bHi k) : cS (k_r κ k i f) := by
  obtain ⟨h1, h2, h3⟩ := h
  refine ⟨fun k' i' j' => ?_, ?_, ?_⟩
  · unfold k_r
    split
    · next e =>
      subst e
      split
      · exact hv j'
      · exact h1 _ _ _
    · exact h1 _ _ _
  · rw [k_r_ne (Ne.symm hk.2.1), k_r_ne (Ne.symm hk.1)]; exact h2
  · rw [k_r_ne (Ne.symm hk.2.1), k_r_ne (Ne.symm hk.2.2)]; exact h3
theorem c_get0 {G : z_G} {D : Nat} {B : Nat → Int → Nat} {κ : c_K} {h : z_H} (hG : z_OK G) (hJ : cJ B κ) (hB : cB κ) (hV : cV κ) (hS : cS κ) {j : Int} (hj : 0 ≤ j ∧ j < κ 24 0 0) : z_Tr G mJx4a65c_get_915e3 [.ref (B 7 0), z_i j] (cH D B κ h) 2 (.ref (B 20 j)) := by
  have h1 := c_get (D := D) (h := h) hG hJ hB hV (r := 0) (by omega) hj
  rw [hS.l0 j hj.1 hj.2] at h1
  exact h1
/-- is there -/
abbrev cpr (κ : c_K) (e : Int) : Prop := 0 ≤ e ∧ e < κ 24 0 0 ∧ κ 36 e 0 ≠ 0
abbrev ckp (κ : c_K) (r : Int) : Prop := 0 ≤ r ∧ r < κ 1 0 0 ∧ κ 1 0 0 - 20 ≤ r
def cPc (κ : c_K) (r e : Int) : Int := if r < 0 then -1 else κ 33 e (r % 20)
def cPa (κ : c_K) (r e : Int) : Int := if r = -1 then κ 37 e 0 else cPc κ r e
theorem cPc_b {κ : c_K} (hS : cS κ) (r e : Int) : -1 ≤ cPc κ r e ∧ cPc κ r e ≤ 30 := by
  have := hS.s33 e (r % 20)
  unfold cPc
  split <;> omega
theorem cPa_b {κ : c_K} (hS : cS κ) (r e : Int) : -1 ≤ cPa κ r e ∧ cPa κ r e ≤ 30 := by
  have := hS.s37 e 0
  have := cPc_b hS r e
  unfold cPa
  split <;> omega
/-- how many groups are ahead of a group -/
def cGh (κ : c_K) (g : Int) : Int := z_sm (fun o => if cTs κ o ≠ -1 ∧ (cTs κ o < cTs κ g ∨ (cTs κ o = cTs κ g ∧ cFi κ o < cFi κ g)) then (1 : Int) else 0) 5
theorem cGh_b (κ : c_K) (g : Int) : 0 ≤ cGh κ g ∧ cGh κ g ≤ 5 := z_ct_b _ (by omega)
def cGr (κ : c_K) (p : Int) : Int := z_ff (fun g => cTs κ g ≠ -1 ∧ cGh κ g + 1 = p) 5
theorem cOf_b {κ : c_K} (hV : cV κ) (g : Int) : 0 ≤ cOf κ g ∧ cOf κ g ≤ 30 := by
  have h1 := hV.2.1 1 (by omega) (by omega)
  have h2 := hV.1
  have := z_ct_b (fun i => κ 35 (κ 20 1 i) 0 = g) h1.1
  unfold cOf
  omega
theorem z_smB {f : Int → Int} {m : Int} (hm : 0 ≤ m) (hf : ∀ i, -m ≤ f i ∧ f i ≤ m) : ∀ n : Nat, -(m * n) ≤ z_sm f n ∧ z_sm f n ≤ m * n := by
  intro n
  induction n with
  | zero => exact ⟨by show -(m * 0) ≤ z_sm f 0; rw [z_sm0 (by omega)]; omega, by show z_sm f 0 ≤ m * 0; rw [z_sm0 (by omega)]; omega⟩
  | succ n ih =>
    have h1 := hf n
    rw [show ((n + 1 : Nat) : Int) = (n : Int) + 1 by omega, z_smS (by omega), Int.mul_add]
    omega
/-- how many are there with at most so many points -/
def cCu (κ : c_K) (p : Int) : Int := z_sm (fun o => if κ 36 o 0 ≠ 0 ∧ κ 30 o 0 ≤ p then (1 : Int) else 0) (κ 24 0 0)
theorem cCu_b {κ : c_K} (hV : cV κ) (p : Int) : 0 ≤ cCu κ p ∧ cCu κ p ≤ 30 := by
  have h2 := hV.1
  have := z_ct_b (fun o => κ 36 o 0 ≠ 0 ∧ κ 30 o 0 ≤ p) h2.1
  unfold cCu
  omega
/-- whether an entrant is the first one that is there with its points: none before it has them -/
def cFp (κ : c_K) (e : Int) : Int := if z_ff (fun o => κ 36 o 0 ≠ 0 ∧ κ 30 o 0 = κ 30 e 0) (κ 34 e 0) = -1 then 1 else 0
def cLw (κ : c_K) (p : Int) : Int := z_fw (fun i => κ 30 (κ 20 2 i) 0 < p) (κ 24 2 0)
def cUp (κ : c_K) (p : Int) : Int := z_fw (fun i => κ 30 (κ 20 2 i) 0 ≤ p) (κ 24 2 0)
theorem cLw_b {κ : c_K} (hV : cV κ) (p : Int) : 0 ≤ cLw κ p ∧ cLw κ p ≤ κ 24 2 0 := z_fw_b _ (hV.2.1 2 (by omega) (by omega)).1
theorem cUp_b {κ : c_K} (hV : cV κ) (p : Int) : 0 ≤ cUp κ p ∧ cUp κ p ≤ κ 24 2 0 := z_fw_b _ (hV.2.1 2 (by omega) (by omega)).1
def cWp (κ : c_K) : Int := z_sm (fun e => if κ 36 e 0 ≠ 0 ∧ cFp κ e ≠ 0 ∧ ¬ (cCu κ (κ 30 e 0) = cUp κ (κ 30 e 0) ∧ cCu κ (κ 30 e 0 - 1) = cLw κ (κ 30 e 0)) then (1 : Int) else 0) (κ 24 0 0)
def cMp (κ : c_K) (b : Int) : Int := if b ≠ 0 then κ 24 2 0 / 2 + 1 else (κ 24 2 0 + 1) / 2
theorem cMp_b {κ : c_K} (hV : cV κ) (b : Int) : 0 ≤ cMp κ b ∧ cMp κ b ≤ 16 := by
  have h1 := hV.2.1 2 (by omega) (by omega)
  have h2 := hV.1
  unfold cMp
  split <;> omega
def cAt (κ : c_K) (p : Int) : Int := if 1 ≤ p ∧ p ≤ κ 24 2 0 then κ 30 (κ 20 2 (p - 1)) 0 else 0
theorem cAt_b {κ : c_K} (hS : cS κ) (p : Int) : -100000 ≤ cAt κ p ∧ cAt κ p ≤ 100000 := by
  have := hS.s30 (κ 20 2 (p - 1)) 0
  unfold cAt
  split <;> omega
def cWm (κ : c_K) (b : Int) : Int := if κ 24 1 0 = 0 then 0 else if cMp κ b ≤ cCu κ (cAt κ (cMp κ b)) ∧ cCu κ (cAt κ (cMp κ b) - 1) < cMp κ b then 0 else 1
/-- the greatest climb: from the place i on, found or not, the greatest so far -/
def cCbL (κ : c_K) (r : Int) : Nat → Int → Int → Int → Int
  | 0, _, _, g => g
  | f + 1, i, b, g => if cPc κ r (κ 20 1 i) ≠ -1 ∧ (b = 0 ∨ g < cPc κ r (κ 20 1 i) - κ 37 (κ 20 1 i) 0) then cCbL κ r f (i + 1) 1 (cPc κ r (κ 20 1 i) - κ 37 (κ 20 1 i) 0) else cCbL κ r f (i + 1) b g
def cCb (κ : c_K) (r : Int) : Int := cCbL κ r (κ 24 1 0 - 0).toNat 0 0 0
theorem cCb_e {κ : c_K} {r n i b g : Int} (h : n ≤ i) : cCbL κ r (n - i).toNat i b g = g := by
  rw [show (n - i).toNat = 0 by omega]; rfl
theorem cCb_y {κ : c_K} {r n i b g : Int} (h : i < n) (hc : cPc κ r (κ 20 1 i) ≠ -1 ∧ (b = 0 ∨ g < cPc κ r (κ 20 1 i) - κ 37 (κ 20 1 i) 0)) : cCbL κ r (n - i).toNat i b g = cCbL κ r (n - (i + 1)).toNat (i + 1) 1 (cPc κ r (κ 20 1 i) - κ 37 (κ 20 1 i) 0) := by
  rw [show (n - i).toNat = (n - (i + 1)).toNat + 1 by omega]
  exact if_pos hc
theorem cCb_n {κ : c_K} {r n i b g : Int} (h : i < n) (hc : ¬ (cPc κ r (κ 20 1 i) ≠ -1 ∧ (b = 0 ∨ g < cPc κ r (κ 20 1 i) - κ 37 (κ 20 1 i) 0))) : cCbL κ r (n - i).toNat i b g = cCbL κ r (n - (i + 1)).toNat (i + 1) b g := by
  rw [show (n - i).toNat = (n - (i + 1)).toNat + 1 by omega]
  exact if_neg hc

theorem c_presentOne {G : z_G} {D : Nat} {B : Nat → Int → Nat} {κ : c_K} {h : z_H} (hG : z_OK G) (hJ : cJ B κ) (hB : cB κ) (hV : cV κ) (hS : cS κ) {e : Int} (hre : -2147483648 ≤ e ∧ e ≤ 2147483647) : z_T G mX7_presentOne [.ref (B 0 0), z_i e] (cH D B κ h) 4 1 6 (fun v h' => ((0 ≤ e ∧ e < κ 24 0 0 ∧ κ 36 e 0 ≠ 0)) ∧ v = some (.ref (B 20 e)) ∧ h' = cH D B κ h) (fun E h' => h' = cH D B κ h ∧ ((E = "java/lang/IndexOutOfBoundsException" ∧ ¬ (0 ≤ e ∧ e < κ 24 0 0 ∧ κ 36 e 0 ≠ 0)))) := by
  obtain ⟨hn, hsz, hrw, hcu, htl, hth⟩ := id hV
  have hs0 := hsz 0 (by omega) (by omega)
  have hs1 := hsz 1 (by omega) (by omega)
  have hs2 := hsz 2 (by omega) (by omega)
  have hs3 := hsz 3 (by omega) (by omega)
  refine z_T_of hG pX7_presentOne (Nat.le_of_ble_eq_true rfl) (ls0 := [(0, .ref (B 0 0)), (1, z_i e)]) rfl fun Y hY hg hmc hms hφ hψ => ?_
  subst hg
  refine z_iload hY eX7_presentOne_0 1 rfl ?_
  refine z_iflt hY eX7_presentOne_1 (by omega) (fun c1 => ?_) (fun c1 => ?_)
  · exact z_thr hY xX7_presentOne_32 (by rw [hmc, hms]; omega) (by rw [hψ]; refine ⟨rfl, ?_⟩; first | exact ⟨rfl, by omega⟩ | exact Or.inl ⟨rfl, by omega⟩ | exact Or.inr ⟨rfl, by omega⟩ | exact Or.inr (Or.inl ⟨rfl, by omega⟩) | exact Or.inr (Or.inr ⟨rfl, by omega⟩))
  · refine z_iload hY eX7_presentOne_4 1 rfl ?_
    refine z_aload hY eX7_presentOne_5 0 rfl ?_
    refine c_gf hY hJ eX7_presentOne_6 (t := 0) (i := 0) (v := .ref (B 7 0)) (by omega) rfl rfl ?_
    refine z_callVr (As := []) (rest := [z_i e]) (r := z_i (κ 24 0 0)) hY eX7_presentOne_9 (c_size hG hJ hB hV (by omega)) (cH_at (t := 7) (i := 0) hJ (by omega)) (by decide) (Nat.le_of_ble_eq_true rfl) ⟨Nat.zero_le _, Nat.zero_le _⟩ ?_
    refine z_icmpge hY eX7_presentOne_12 (by omega) (fun c12 => ?_) (fun c12 => ?_)
    · exact z_thr hY xX7_presentOne_32 (by rw [hmc, hms]; omega) (by rw [hψ]; refine ⟨rfl, ?_⟩; first | exact ⟨rfl, by omega⟩ | exact Or.inl ⟨rfl, by omega⟩ | exact Or.inr ⟨rfl, by omega⟩ | exact Or.inr (Or.inl ⟨rfl, by omega⟩) | exact Or.inr (Or.inr ⟨rfl, by omega⟩))
    · refine z_aload hY eX7_presentOne_15 0 rfl ?_
      refine c_gf hY hJ eX7_presentOne_16 (t := 0) (i := 0) (v := .ref (B 7 0)) (by omega) rfl rfl ?_
      refine z_iload hY eX7_presentOne_19 1 rfl ?_
      refine z_callVr (As := [z_i e]) (rest := []) (r := .ref (B 20 e)) hY eX7_presentOne_20 (c_get0 hG hJ hB hV hS (by omega)) (cH_at (t := 7) (i := 0) hJ (by omega)) (by decide) (Nat.le_of_ble_eq_true rfl) ⟨Nat.zero_le _, Nat.zero_le _⟩ ?_
      refine z_cast hY eX7_presentOne_23 (ci := 0) (nm := "StandingsHall$Entrant") (T := TX0) (N := 11) rfl (cH_at (t := 20) (i := e) hJ (by omega)) ?_
      have hb1 := hS.s36 e 0
      refine c_gf hY hJ eX7_presentOne_26 (t := 20) (i := e) (v := z_i (κ 36 e 0)) (by omega) rfl rfl ?_
      refine z_ifne hY eX7_presentOne_29 (by omega) (fun c29 => ?_) (fun c29 => ?_)
      · refine z_aload hY eX7_presentOne_43 0 rfl ?_
        refine c_gf hY hJ eX7_presentOne_44 (t := 0) (i := 0) (v := .ref (B 7 0)) (by omega) rfl rfl ?_
        refine z_iload hY eX7_presentOne_47 1 rfl ?_
        refine z_callVr (As := [z_i e]) (rest := []) (r := .ref (B 20 e)) hY eX7_presentOne_48 (c_get0 hG hJ hB hV hS (by omega)) (cH_at (t := 7) (i := 0) hJ (by omega)) (by decide) (Nat.le_of_ble_eq_true rfl) ⟨Nat.zero_le _, Nat.zero_le _⟩ ?_
        refine z_cast hY eX7_presentOne_51 (ci := 0) (nm := "StandingsHall$Entrant") (T := TX0) (N := 11) rfl (cH_at (t := 20) (i := e) hJ (by omega)) ?_
        exact z_areturn hY eX7_presentOne_54 ⟨_, rfl, Or.inl ⟨_, rfl⟩⟩ (by rw [hφ]; exact ⟨by omega, rfl, rfl⟩) ⟨Nat.zero_le _, Nat.zero_le _⟩
      · exact z_thr hY xX7_presentOne_32 (by rw [hmc, hms]; omega) (by rw [hψ]; refine ⟨rfl, ?_⟩; first | exact ⟨rfl, by omega⟩ | exact Or.inl ⟨rfl, by omega⟩ | exact Or.inr ⟨rfl, by omega⟩ | exact Or.inr (Or.inl ⟨rfl, by omega⟩) | exact Or.inr (Or.inr ⟨rfl, by omega⟩))
theorem c_checkGroup {G : z_G} {D : Nat} {B : Nat → Int → Nat} {κ : c_K} {h : z_H} (hG : z_OK G) (hJ : cJ B κ) (hB : cB κ) (hV : cV κ) (hS : cS κ) {g : Int} (hrg : -2147483648 ≤ g ∧ g ≤ 2147483647) : z_T G mX7_checkGroup [.ref (B 0 0), z_i g] (cH D B κ h) 1 1 6 (fun v h' => (0 ≤ g ∧ g ≤ 4) ∧ v = none ∧ h' = cH D B κ h) (fun E h' => h' = cH D B κ h ∧ ((E = "java/lang/IllegalArgumentException" ∧ ¬ (0 ≤ g ∧ g ≤ 4)))) := by
  obtain ⟨hn, hsz, hrw, hcu, htl, hth⟩ := id hV
  have hs0 := hsz 0 (by omega) (by omega)
  have hs1 := hsz 1 (by omega) (by omega)
  have hs2 := hsz 2 (by omega) (by omega)
  have hs3 := hsz 3 (by omega) (by omega)
  refine z_T_of hG pX7_checkGroup (Nat.le_of_ble_eq_true rfl) (ls0 := [(0, .ref (B 0 0)), (1, z_i g)]) rfl fun Y hY hg hmc hms hφ hψ => ?_
  subst hg
  refine z_iload hY eX7_checkGroup_0 1 rfl ?_
  refine z_iflt hY eX7_checkGroup_1 (by omega) (fun c1 => ?_) (fun c1 => ?_)
  · exact z_thr hY xX7_checkGroup_9 (by rw [hmc, hms]; omega) (by rw [hψ]; refine ⟨rfl, ?_⟩; first | exact ⟨rfl, by omega⟩ | exact Or.inl ⟨rfl, by omega⟩ | exact Or.inr ⟨rfl, by omega⟩ | exact Or.inr (Or.inl ⟨rfl, by omega⟩) | exact Or.inr (Or.inr ⟨rfl, by omega⟩))
  · refine z_iload hY eX7_checkGroup_4 1 rfl ?_
    refine z_const hY eX7_checkGroup_5 ?_
    refine z_icmplt hY eX7_checkGroup_6 (by omega) (fun c6 => ?_) (fun c6 => ?_)
    · exact z_return hY eX7_checkGroup_20 rfl (by rw [hφ]; exact ⟨by omega, rfl, rfl⟩) ⟨Nat.zero_le _, Nat.zero_le _⟩
    · exact z_thr hY xX7_checkGroup_9 (by rw [hmc, hms]; omega) (by rw [hψ]; refine ⟨rfl, ?_⟩; first | exact ⟨rfl, by omega⟩ | exact Or.inl ⟨rfl, by omega⟩ | exact Or.inr ⟨rfl, by omega⟩ | exact Or.inr (Or.inl ⟨rfl, by omega⟩) | exact Or.inr (Or.inr ⟨rfl, by omega⟩))
theorem c_checkKind {G : z_G} {D : Nat} {B : Nat → Int → Nat} {κ : c_K} {h : z_H} (hG : z_OK G) (hJ : cJ B κ) (hB : cB κ) (hV : cV κ) (hS : cS κ) {k : Int} (hrk : -2147483648 ≤ k ∧ k ≤ 2147483647) : z_T G mX7_checkKind [.ref (B 0 0), z_i k] (cH D B κ h) 1 1 6 (fun v h' => (0 ≤ k ∧ k ≤ 3) ∧ v = none ∧ h' = cH D B κ h) (fun E h' => h' = cH D B κ h ∧ ((E = "java/lang/IllegalArgumentException" ∧ ¬ (0 ≤ k ∧ k ≤ 3)))) := by
  obtain ⟨hn, hsz, hrw, hcu, htl, hth⟩ := id hV
  have hs0 := hsz 0 (by omega) (by omega)
  have hs1 := hsz 1 (by omega) (by omega)
  have hs2 := hsz 2 (by omega) (by omega)
  have hs3 := hsz 3 (by omega) (by omega)
  refine z_T_of hG pX7_checkKind (Nat.le_of_ble_eq_true rfl) (ls0 := [(0, .ref (B 0 0)), (1, z_i k)]) rfl fun Y hY hg hmc hms hφ hψ => ?_
  subst hg
  refine z_iload hY eX7_checkKind_0 1 rfl ?_
  refine z_iflt hY eX7_checkKind_1 (by omega) (fun c1 => ?_) (fun c1 => ?_)
  · exact z_thr hY xX7_checkKind_9 (by rw [hmc, hms]; omega) (by rw [hψ]; refine ⟨rfl, ?_⟩; first | exact ⟨rfl, by omega⟩ | exact Or.inl ⟨rfl, by omega⟩ | exact Or.inr ⟨rfl, by omega⟩ | exact Or.inr (Or.inl ⟨rfl, by omega⟩) | exact Or.inr (Or.inr ⟨rfl, by omega⟩))
  · refine z_iload hY eX7_checkKind_4 1 rfl ?_
    refine z_const hY eX7_checkKind_5 ?_
    refine z_icmplt hY eX7_checkKind_6 (by omega) (fun c6 => ?_) (fun c6 => ?_)
    · exact z_return hY eX7_checkKind_20 rfl (by rw [hφ]; exact ⟨by omega, rfl, rfl⟩) ⟨Nat.zero_le _, Nat.zero_le _⟩
    · exact z_thr hY xX7_checkKind_9 (by rw [hmc, hms]; omega) (by rw [hψ]; refine ⟨rfl, ?_⟩; first | exact ⟨rfl, by omega⟩ | exact Or.inl ⟨rfl, by omega⟩ | exact Or.inr ⟨rfl, by omega⟩ | exact Or.inr (Or.inl ⟨rfl, by omega⟩) | exact Or.inr (Or.inr ⟨rfl, by omega⟩))
theorem c_checkScore {G : z_G} {D : Nat} {B : Nat → Int → Nat} {κ : c_K} {h : z_H} (hG : z_OK G) (hJ : cJ B κ) (hB : cB κ) (hV : cV κ) (hS : cS κ) {w : Int} (hw : -4294967296 ≤ w ∧ w ≤ 4294967296) : z_T G mX7_checkScore [.ref (B 0 0), z_l w] (cH D B κ h) 1 1 6 (fun v h' => (-100000 ≤ w ∧ w ≤ 100000) ∧ v = none ∧ h' = cH D B κ h) (fun E h' => h' = cH D B κ h ∧ ((E = "java/lang/IllegalArgumentException" ∧ ¬ (-100000 ≤ w ∧ w ≤ 100000)))) := by
  obtain ⟨hn, hsz, hrw, hcu, htl, hth⟩ := id hV
  have hs0 := hsz 0 (by omega) (by omega)
  have hs1 := hsz 1 (by omega) (by omega)
  have hs2 := hsz 2 (by omega) (by omega)
  have hs3 := hsz 3 (by omega) (by omega)
  refine z_T_of hG pX7_checkScore (Nat.le_of_ble_eq_true rfl) (ls0 := [(0, .ref (B 0 0)), (1, z_l w)]) rfl fun Y hY hg hmc hms hφ hψ => ?_
  subst hg
  refine z_lload hY eX7_checkScore_0 1 rfl ?_
  refine z_ldc2 hY eX7_checkScore_1 ?_
  refine z_lcmp hY eX7_checkScore_4 (by omega) ?_
  have hz1 := z_cmp_s w (-100000)
  refine z_iflt hY eX7_checkScore_5 (by omega) (fun c5 => ?_) (fun c5 => ?_)
  · exact z_thr hY xX7_checkScore_16 (by rw [hmc, hms]; omega) (by rw [hψ]; refine ⟨rfl, ?_⟩; first | exact ⟨rfl, by omega⟩ | exact Or.inl ⟨rfl, by omega⟩ | exact Or.inr ⟨rfl, by omega⟩ | exact Or.inr (Or.inl ⟨rfl, by omega⟩) | exact Or.inr (Or.inr ⟨rfl, by omega⟩))
  · refine z_lload hY eX7_checkScore_8 1 rfl ?_
    refine z_ldc2 hY eX7_checkScore_9 ?_
    refine z_lcmp hY eX7_checkScore_12 (by omega) ?_
    have hz2 := z_cmp_s w 100000
    refine z_ifle hY eX7_checkScore_13 (by omega) (fun c13 => ?_) (fun c13 => ?_)
    · exact z_return hY eX7_checkScore_27 rfl (by rw [hφ]; exact ⟨by omega, rfl, rfl⟩) ⟨Nat.zero_le _, Nat.zero_le _⟩
    · exact z_thr hY xX7_checkScore_16 (by rw [hmc, hms]; omega) (by rw [hψ]; refine ⟨rfl, ?_⟩; first | exact ⟨rfl, by omega⟩ | exact Or.inl ⟨rfl, by omega⟩ | exact Or.inr ⟨rfl, by omega⟩ | exact Or.inr (Or.inl ⟨rfl, by omega⟩) | exact Or.inr (Or.inr ⟨rfl, by omega⟩))
theorem c_checkSomebodyIsThere {G : z_G} {D : Nat} {B : Nat → Int → Nat} {κ : c_K} {h : z_H} (hG : z_OK G) (hJ : cJ B κ) (hB : cB κ) (hV : cV κ) (hS : cS κ)  : z_T G mX7_checkSomebodyIsThere [.ref (B 0 0)] (cH D B κ h) 1 1 6 (fun v h' => (0 < κ 24 1 0) ∧ v = none ∧ h' = cH D B κ h) (fun E h' => h' = cH D B κ h ∧ ((E = "java/util/NoSuchElementException" ∧ ¬ (0 < κ 24 1 0)))) := by
  obtain ⟨hn, hsz, hrw, hcu, htl, hth⟩ := id hV
  have hs0 := hsz 0 (by omega) (by omega)
  have hs1 := hsz 1 (by omega) (by omega)
  have hs2 := hsz 2 (by omega) (by omega)
  have hs3 := hsz 3 (by omega) (by omega)
  refine z_T_of hG pX7_checkSomebodyIsThere (Nat.le_of_ble_eq_true rfl) (ls0 := [(0, .ref (B 0 0))]) rfl fun Y hY hg hmc hms hφ hψ => ?_
  subst hg
  refine z_aload hY eX7_checkSomebodyIsThere_0 0 rfl ?_
  refine c_gf hY hJ eX7_checkSomebodyIsThere_1 (t := 0) (i := 0) (v := .ref (B 9 0)) (by omega) rfl rfl ?_
  refine c_gfN hY hJ eX7_checkSomebodyIsThere_4 (t := 9) (i := 0) (v := .ref (B 7 1)) (by omega) rfl rfl ?_
  refine z_callVr (As := []) (rest := []) (r := z_i (z_bl (κ 24 1 0 = 0))) hY eX7_checkSomebodyIsThere_7 (c_isEmpty hG hJ hB hV (by omega)) (cH_at (t := 7) (i := 1) hJ (by omega)) (by decide) (Nat.le_of_ble_eq_true rfl) ⟨Nat.zero_le _, Nat.zero_le _⟩ ?_
  refine z_ifeqb hY eX7_checkSomebodyIsThere_10 (fun c10 => ?_) (fun c10 => ?_)
  · exact z_return hY eX7_checkSomebodyIsThere_24 rfl (by rw [hφ]; exact ⟨by omega, rfl, rfl⟩) ⟨Nat.zero_le _, Nat.zero_le _⟩
  · exact z_thr hY xX7_checkSomebodyIsThere_13 (by rw [hmc, hms]; omega) (by rw [hψ]; refine ⟨rfl, ?_⟩; first | exact ⟨rfl, by omega⟩ | exact Or.inl ⟨rfl, by omega⟩ | exact Or.inr ⟨rfl, by omega⟩ | exact Or.inr (Or.inl ⟨rfl, by omega⟩) | exact Or.inr (Or.inr ⟨rfl, by omega⟩))
theorem c_checkForm {G : z_G} {D : Nat} {B : Nat → Int → Nat} {κ : c_K} {h : z_H} (hG : z_OK G) (hJ : cJ B κ) (hB : cB κ) (hV : cV κ) (hS : cS κ) {k n : Int} (hrk : -2147483648 ≤ k ∧ k ≤ 2147483647) (hrn : -2147483648 ≤ n ∧ n ≤ 2147483647) : z_T G mX7_checkForm [.ref (B 0 0), z_i k, z_i n] (cH D B κ h) 1 1 6 (fun v h' => (1 ≤ n ∧ n ≤ 10 ∧ 1 ≤ k ∧ k ≤ n) ∧ v = none ∧ h' = cH D B κ h) (fun E h' => h' = cH D B κ h ∧ ((E = "java/lang/IllegalArgumentException" ∧ ¬ (1 ≤ n ∧ n ≤ 10 ∧ 1 ≤ k ∧ k ≤ n)))) := by
  obtain ⟨hn, hsz, hrw, hcu, htl, hth⟩ := id hV
  have hs0 := hsz 0 (by omega) (by omega)
  have hs1 := hsz 1 (by omega) (by omega)
  have hs2 := hsz 2 (by omega) (by omega)
  have hs3 := hsz 3 (by omega) (by omega)
  refine z_T_of hG pX7_checkForm (Nat.le_of_ble_eq_true rfl) (ls0 := [(0, .ref (B 0 0)), (1, z_i k), (2, z_i n)]) rfl fun Y hY hg hmc hms hφ hψ => ?_
  subst hg
  refine z_iload hY eX7_checkForm_0 2 rfl ?_
  refine z_const hY eX7_checkForm_1 ?_
  refine z_icmplt hY eX7_checkForm_2 (by omega) (fun c2 => ?_) (fun c2 => ?_)
  · exact z_thr hY xX7_checkForm_21 (by rw [hmc, hms]; omega) (by rw [hψ]; refine ⟨rfl, ?_⟩; first | exact ⟨rfl, by omega⟩ | exact Or.inl ⟨rfl, by omega⟩ | exact Or.inr ⟨rfl, by omega⟩ | exact Or.inr (Or.inl ⟨rfl, by omega⟩) | exact Or.inr (Or.inr ⟨rfl, by omega⟩))
  · refine z_iload hY eX7_checkForm_5 2 rfl ?_
    refine z_const hY eX7_checkForm_6 ?_
    refine z_icmpgt hY eX7_checkForm_8 (by omega) (fun c8 => ?_) (fun c8 => ?_)
    · exact z_thr hY xX7_checkForm_21 (by rw [hmc, hms]; omega) (by rw [hψ]; refine ⟨rfl, ?_⟩; first | exact ⟨rfl, by omega⟩ | exact Or.inl ⟨rfl, by omega⟩ | exact Or.inr ⟨rfl, by omega⟩ | exact Or.inr (Or.inl ⟨rfl, by omega⟩) | exact Or.inr (Or.inr ⟨rfl, by omega⟩))
    · refine z_iload hY eX7_checkForm_11 1 rfl ?_
      refine z_const hY eX7_checkForm_12 ?_
      refine z_icmplt hY eX7_checkForm_13 (by omega) (fun c13 => ?_) (fun c13 => ?_)
      · exact z_thr hY xX7_checkForm_21 (by rw [hmc, hms]; omega) (by rw [hψ]; refine ⟨rfl, ?_⟩; first | exact ⟨rfl, by omega⟩ | exact Or.inl ⟨rfl, by omega⟩ | exact Or.inr ⟨rfl, by omega⟩ | exact Or.inr (Or.inl ⟨rfl, by omega⟩) | exact Or.inr (Or.inr ⟨rfl, by omega⟩))
      · refine z_iload hY eX7_checkForm_16 1 rfl ?_
        refine z_iload hY eX7_checkForm_17 2 rfl ?_
        refine z_icmple hY eX7_checkForm_18 (by omega) (fun c18 => ?_) (fun c18 => ?_)
        · exact z_return hY eX7_checkForm_32 rfl (by rw [hφ]; exact ⟨by omega, rfl, rfl⟩) ⟨Nat.zero_le _, Nat.zero_le _⟩
        · exact z_thr hY xX7_checkForm_21 (by rw [hmc, hms]; omega) (by rw [hψ]; refine ⟨rfl, ?_⟩; first | exact ⟨rfl, by omega⟩ | exact Or.inl ⟨rfl, by omega⟩ | exact Or.inr ⟨rfl, by omega⟩ | exact Or.inr (Or.inl ⟨rfl, by omega⟩) | exact Or.inr (Or.inr ⟨rfl, by omega⟩))
theorem c_checkKept {G : z_G} {D : Nat} {B : Nat → Int → Nat} {κ : c_K} {h : z_H} (hG : z_OK G) (hJ : cJ B κ) (hB : cB κ) (hV : cV κ) (hS : cS κ) {r : Int} (hrr : -2147483648 ≤ r ∧ r ≤ 2147483647) : z_T G mX7_checkKept [.ref (B 0 0), z_i r] (cH D B κ h) 1 1 6 (fun v h' => ((0 ≤ r ∧ r < κ 1 0 0 ∧ κ 1 0 0 - 20 ≤ r)) ∧ v = none ∧ h' = cH D B κ h) (fun E h' => h' = cH D B κ h ∧ ((E = "java/util/NoSuchElementException" ∧ ¬ ((0 ≤ r ∧ r < κ 1 0 0 ∧ κ 1 0 0 - 20 ≤ r))))) := by
  obtain ⟨hn, hsz, hrw, hcu, htl, hth⟩ := id hV
  have hs0 := hsz 0 (by omega) (by omega)
  have hs1 := hsz 1 (by omega) (by omega)
  have hs2 := hsz 2 (by omega) (by omega)
  have hs3 := hsz 3 (by omega) (by omega)
  refine z_T_of hG pX7_checkKept (Nat.le_of_ble_eq_true rfl) (ls0 := [(0, .ref (B 0 0)), (1, z_i r)]) rfl fun Y hY hg hmc hms hφ hψ => ?_
  subst hg
  refine z_iload hY eX7_checkKept_0 1 rfl ?_
  refine z_iflt hY eX7_checkKept_1 (by omega) (fun c1 => ?_) (fun c1 => ?_)
  · exact z_thr hY xX7_checkKept_23 (by rw [hmc, hms]; omega) (by rw [hψ]; refine ⟨rfl, ?_⟩; first | exact ⟨rfl, by omega⟩ | exact Or.inl ⟨rfl, by omega⟩ | exact Or.inr ⟨rfl, by omega⟩ | exact Or.inr (Or.inl ⟨rfl, by omega⟩) | exact Or.inr (Or.inr ⟨rfl, by omega⟩))
  · refine z_iload hY eX7_checkKept_4 1 rfl ?_
    refine z_aload hY eX7_checkKept_5 0 rfl ?_
    have hb1 := hS.s1 0 0
    refine c_gf hY hJ eX7_checkKept_6 (t := 0) (i := 0) (v := z_i (κ 1 0 0)) (by omega) rfl rfl ?_
    refine z_icmpge hY eX7_checkKept_9 (by omega) (fun c9 => ?_) (fun c9 => ?_)
    · exact z_thr hY xX7_checkKept_23 (by rw [hmc, hms]; omega) (by rw [hψ]; refine ⟨rfl, ?_⟩; first | exact ⟨rfl, by omega⟩ | exact Or.inl ⟨rfl, by omega⟩ | exact Or.inr ⟨rfl, by omega⟩ | exact Or.inr (Or.inl ⟨rfl, by omega⟩) | exact Or.inr (Or.inr ⟨rfl, by omega⟩))
    · refine z_iload hY eX7_checkKept_12 1 rfl ?_
      refine z_aload hY eX7_checkKept_13 0 rfl ?_
      refine c_gf hY hJ eX7_checkKept_14 (t := 0) (i := 0) (v := z_i (κ 1 0 0)) (by omega) rfl rfl ?_
      refine z_const hY eX7_checkKept_17 ?_
      refine z_isub hY eX7_checkKept_19 ?_
      refine z_icmpge hY eX7_checkKept_20 (by omega) (fun c20 => ?_) (fun c20 => ?_)
      · exact z_return hY eX7_checkKept_34 rfl (by rw [hφ]; exact ⟨by omega, rfl, rfl⟩) ⟨Nat.zero_le _, Nat.zero_le _⟩
      · exact z_thr hY xX7_checkKept_23 (by rw [hmc, hms]; omega) (by rw [hψ]; refine ⟨rfl, ?_⟩; first | exact ⟨rfl, by omega⟩ | exact Or.inl ⟨rfl, by omega⟩ | exact Or.inr ⟨rfl, by omega⟩ | exact Or.inr (Or.inl ⟨rfl, by omega⟩) | exact Or.inr (Or.inr ⟨rfl, by omega⟩))
theorem c_checkTold {G : z_G} {D : Nat} {B : Nat → Int → Nat} {κ : c_K} {h : z_H} (hG : z_OK G) (hJ : cJ B κ) (hB : cB κ) (hV : cV κ) (hS : cS κ) {r : Int} (hrr : -2147483648 ≤ r ∧ r ≤ 2147483647) : z_T G mX7_checkTold [.ref (B 0 0), z_i r] (cH D B κ h) 2 1 6 (fun v h' => ((r = -1 ∨ (0 ≤ r ∧ r < κ 1 0 0 ∧ κ 1 0 0 - 20 ≤ r))) ∧ v = none ∧ h' = cH D B κ h) (fun E h' => h' = cH D B κ h ∧ ((E = "java/util/NoSuchElementException" ∧ ¬ ((r = -1 ∨ (0 ≤ r ∧ r < κ 1 0 0 ∧ κ 1 0 0 - 20 ≤ r)))))) := by
  obtain ⟨hn, hsz, hrw, hcu, htl, hth⟩ := id hV
  have hs0 := hsz 0 (by omega) (by omega)
  have hs1 := hsz 1 (by omega) (by omega)
  have hs2 := hsz 2 (by omega) (by omega)
  have hs3 := hsz 3 (by omega) (by omega)
  refine z_T_of hG pX7_checkTold (Nat.le_of_ble_eq_true rfl) (ls0 := [(0, .ref (B 0 0)), (1, z_i r)]) rfl fun Y hY hg hmc hms hφ hψ => ?_
  subst hg
  refine z_iload hY eX7_checkTold_0 1 rfl ?_
  refine z_const hY eX7_checkTold_1 ?_
  refine z_icmpeq hY eX7_checkTold_2 (by omega) (fun c2 => ?_) (fun c2 => ?_)
  · exact z_return hY eX7_checkTold_10 rfl (by rw [hφ]; exact ⟨by omega, rfl, rfl⟩) ⟨Nat.zero_le _, Nat.zero_le _⟩
  · refine z_aload hY eX7_checkTold_5 0 rfl ?_
    refine z_iload hY eX7_checkTold_6 1 rfl ?_
    refine z_callV (As := [z_i r]) (rest := []) hY eX7_checkTold_7 (c_checkKept hG hJ hB hV hS (by omega)) (cH_at (t := 0) (i := 0) hJ (by omega)) (by decide) (Nat.le_of_ble_eq_true rfl) (by rw [hmc, hms]; omega) (fun E' h1 q => by obtain ⟨rfl, q⟩ := q; rw [hψ]; refine ⟨rfl, ?_⟩; obtain ⟨rfl, q⟩ := q <;> (first | exact ⟨rfl, by omega⟩ | exact Or.inl ⟨rfl, by omega⟩ | exact Or.inr ⟨rfl, by omega⟩ | exact Or.inr (Or.inl ⟨rfl, by omega⟩) | exact Or.inr (Or.inr ⟨rfl, by omega⟩))) (fun vv1 hh1 q1 => ?_)
    obtain ⟨hq1, rfl, rfl⟩ := q1
    exact z_return hY eX7_checkTold_10 rfl (by rw [hφ]; exact ⟨by omega, rfl, rfl⟩) (by rw [hmc, hms]; omega)
theorem c_raisedScore {G : z_G} {D : Nat} {B : Nat → Int → Nat} {κ : c_K} {h : z_H} (hG : z_OK G) (hJ : cJ B κ) (hB : cB κ) (hV : cV κ) (hS : cS κ) {e k m : Int} (he : -1 ≤ e ∧ e < κ 24 0 0) (hrk : -2147483648 ≤ k ∧ k ≤ 2147483647) (hrm : -2147483648 ≤ m ∧ m ≤ 2147483647) : z_T G mX7_raisedScore [.ref (B 0 0), .ref (B 20 e), z_i k, z_i m] (cH D B κ h) 3 2 12 (fun v h' => ((0 ≤ k ∧ k ≤ 3) ∧ -100000 ≤ κ 30 e k + m ∧ κ 30 e k + m ≤ 100000) ∧ v = some (z_i (κ 30 e k + m)) ∧ h' = cH D B κ h) (fun E h' => h' = cH D B κ h ∧ ((E = "java/lang/IllegalArgumentException" ∧ ¬ ((0 ≤ k ∧ k ≤ 3) ∧ -100000 ≤ κ 30 e k + m ∧ κ 30 e k + m ≤ 100000)))) := by
  obtain ⟨hn, hsz, hrw, hcu, htl, hth⟩ := id hV
  have hs0 := hsz 0 (by omega) (by omega)
  have hs1 := hsz 1 (by omega) (by omega)
  have hs2 := hsz 2 (by omega) (by omega)
  have hs3 := hsz 3 (by omega) (by omega)
  refine z_T_of hG pX7_raisedScore (Nat.le_of_ble_eq_true rfl) (ls0 := [(0, .ref (B 0 0)), (1, .ref (B 20 e)), (2, z_i k), (3, z_i m)]) rfl fun Y hY hg hmc hms hφ hψ => ?_
  subst hg
  refine z_aload hY eX7_raisedScore_0 0 rfl ?_
  refine z_iload hY eX7_raisedScore_1 2 rfl ?_
  refine z_callV (As := [z_i k]) (rest := []) hY eX7_raisedScore_2 (c_checkKind hG hJ hB hV hS (by omega)) (cH_at (t := 0) (i := 0) hJ (by omega)) (by decide) (Nat.le_of_ble_eq_true rfl) (by rw [hmc, hms]; omega) (fun E' h1 q => by obtain ⟨rfl, q⟩ := q; rw [hψ]; refine ⟨rfl, ?_⟩; obtain ⟨rfl, q⟩ := q <;> (first | exact ⟨rfl, by omega⟩ | exact Or.inl ⟨rfl, by omega⟩ | exact Or.inr ⟨rfl, by omega⟩ | exact Or.inr (Or.inl ⟨rfl, by omega⟩) | exact Or.inr (Or.inr ⟨rfl, by omega⟩))) (fun vv1 hh1 q1 => ?_)
  obtain ⟨hq1, rfl, rfl⟩ := q1
  refine z_aload hY eX7_raisedScore_5 1 rfl ?_
  refine z_iload hY eX7_raisedScore_6 2 rfl ?_
  refine z_callVr (As := [z_i k]) (rest := []) (r := z_i (κ 30 e k)) hY eX7_raisedScore_7 (e_scoreIn4 hG hJ hB hV (by omega) (by omega)) (cH_at (t := 20) (i := e) hJ (by omega)) (by decide) (Nat.le_of_ble_eq_true rfl) (by rw [hmc, hms]; omega) ?_
  have hc2 := hS.s30 e k
  refine z_i2l hY eX7_raisedScore_10 (by omega) ?_
  refine z_iload hY eX7_raisedScore_11 3 rfl ?_
  refine z_i2l hY eX7_raisedScore_12 (by omega) ?_
  refine z_ladd hY eX7_raisedScore_13 ?_
  refine z_lstore hY eX7_raisedScore_14 (ls' := [(4, z_l ((κ 30 e k) + m)), (0, .ref (B 0 0)), (1, .ref (B 20 e)), (2, z_i k), (3, z_i m)]) rfl ?_
  refine z_aload hY eX7_raisedScore_16 1 rfl ?_
  refine z_lload hY eX7_raisedScore_17 0 rfl ?_
  refine z_callV (As := [z_l ((κ 30 e k) + m)]) (rest := []) hY eX7_raisedScore_19 (c_checkScore hG hJ hB hV hS (by omega)) (cH_at (t := 0) (i := 0) hJ (by omega)) (by decide) (Nat.le_of_ble_eq_true rfl) (by rw [hmc, hms]; omega) (fun E' h1 q => by obtain ⟨rfl, q⟩ := q; rw [hψ]; refine ⟨rfl, ?_⟩; obtain ⟨rfl, q⟩ := q <;> (first | exact ⟨rfl, by omega⟩ | exact Or.inl ⟨rfl, by omega⟩ | exact Or.inr ⟨rfl, by omega⟩ | exact Or.inr (Or.inl ⟨rfl, by omega⟩) | exact Or.inr (Or.inr ⟨rfl, by omega⟩))) (fun vv3 hh3 q3 => ?_)
  obtain ⟨hq3, rfl, rfl⟩ := q3
  refine z_lload hY eX7_raisedScore_22 0 rfl ?_
  refine z_l2i hY eX7_raisedScore_24 (by omega) ?_
  exact z_ireturn hY eX7_raisedScore_25 rfl (by rw [hφ]; first | (exfalso; omega) | exact ⟨by omega, congrArg (fun q => some (z_i q)) (by first | rfl | omega), rfl⟩) (by rw [hmc, hms]; omega)
theorem c_medianPlace {G : z_G} {D : Nat} {B : Nat → Int → Nat} {κ : c_K} {h : z_H} (hG : z_OK G) (hJ : cJ B κ) (hB : cB κ) (hV : cV κ) (hS : cS κ) {b : Int} (hb : b = 0 ∨ b = 1) : z_T G mX7_medianPlace [.ref (B 0 0), z_i b] (cH D B κ h) 1 0 0 (fun v h' => v = some (z_i (cMp κ b)) ∧ h' = cH D B κ h) (z_no) := by
  obtain ⟨hn, hsz, hrw, hcu, htl, hth⟩ := id hV
  have hs0 := hsz 0 (by omega) (by omega)
  have hs1 := hsz 1 (by omega) (by omega)
  have hs2 := hsz 2 (by omega) (by omega)
  have hs3 := hsz 3 (by omega) (by omega)
  refine z_T_of hG pX7_medianPlace (Nat.le_of_ble_eq_true rfl) (ls0 := [(0, .ref (B 0 0)), (1, z_i b)]) rfl fun Y hY hg hmc hms hφ hψ => ?_
  subst hg
  refine z_aload hY eX7_medianPlace_0 0 rfl ?_
  refine c_gf hY hJ eX7_medianPlace_1 (t := 0) (i := 0) (v := .ref (B 10 0)) (by omega) rfl rfl ?_
  refine c_gfN hY hJ eX7_medianPlace_4 (t := 10) (i := 0) (v := .ref (B 7 2)) (by omega) rfl rfl ?_
  refine z_callVr (As := []) (rest := []) (r := z_i (κ 24 2 0)) hY eX7_medianPlace_7 (c_size hG hJ hB hV (by omega)) (cH_at (t := 7) (i := 2) hJ (by omega)) (by decide) (Nat.le_of_ble_eq_true rfl) ⟨Nat.zero_le _, Nat.zero_le _⟩ ?_
  refine z_istore hY eX7_medianPlace_10 (ls' := [(2, z_i (κ 24 2 0)), (0, .ref (B 0 0)), (1, z_i b)]) rfl ?_
  refine z_iload hY eX7_medianPlace_11 2 rfl ?_
  refine z_ifeq hY eX7_medianPlace_12 (by omega) (fun c12 => ?_) (fun c12 => ?_)
  · refine z_iload hY eX7_medianPlace_23 0 rfl ?_
    refine z_const hY eX7_medianPlace_24 ?_
    refine z_iadd hY eX7_medianPlace_25 ?_
    refine z_const hY eX7_medianPlace_26 ?_
    refine z_idiv hY eX7_medianPlace_27 (by omega) ?_
    exact z_ireturn hY eX7_medianPlace_28 rfl (by rw [hφ]; first | (exfalso; omega) | exact ⟨congrArg (fun q => some (z_i q)) (by unfold cMp; split <;> omega), rfl⟩) ⟨Nat.zero_le _, Nat.zero_le _⟩
  · refine z_iload hY eX7_medianPlace_15 0 rfl ?_
    refine z_const hY eX7_medianPlace_16 ?_
    refine z_idiv hY eX7_medianPlace_17 (by omega) ?_
    refine z_const hY eX7_medianPlace_18 ?_
    refine z_iadd hY eX7_medianPlace_19 ?_
    refine z_goto hY eX7_medianPlace_20 ?_
    exact z_ireturn hY eX7_medianPlace_28 rfl (by rw [hφ]; first | (exfalso; omega) | exact ⟨congrArg (fun q => some (z_i q)) (by unfold cMp; split <;> omega), rfl⟩) ⟨Nat.zero_le _, Nat.zero_le _⟩
theorem c_placeAt {G : z_G} {D : Nat} {B : Nat → Int → Nat} {κ : c_K} {h : z_H} (hG : z_OK G) (hJ : cJ B κ) (hB : cB κ) (hV : cV κ) (hS : cS κ) {e r : Int} (he : -1 ≤ e ∧ e < κ 24 0 0) (hrr : -2147483648 ≤ r ∧ r ≤ 2147483647) : z_T G mX7_placeAt [.ref (B 0 0), .ref (B 20 e), z_i r] (cH D B κ h) 2 0 0 (fun v h' => v = some (z_i (cPa κ r e)) ∧ h' = cH D B κ h) (z_no) := by
  obtain ⟨hn, hsz, hrw, hcu, htl, hth⟩ := id hV
  have hs0 := hsz 0 (by omega) (by omega)
  have hs1 := hsz 1 (by omega) (by omega)
  have hs2 := hsz 2 (by omega) (by omega)
  have hs3 := hsz 3 (by omega) (by omega)
  refine z_T_of hG pX7_placeAt (Nat.le_of_ble_eq_true rfl) (ls0 := [(0, .ref (B 0 0)), (1, .ref (B 20 e)), (2, z_i r)]) rfl fun Y hY hg hmc hms hφ hψ => ?_
  subst hg
  refine z_iload hY eX7_placeAt_0 2 rfl ?_
  refine z_const hY eX7_placeAt_1 ?_
  refine z_icmpne hY eX7_placeAt_2 (by omega) (fun c2 => ?_) (fun c2 => ?_)
  · refine z_aload hY eX7_placeAt_12 1 rfl ?_
    refine z_iload hY eX7_placeAt_13 2 rfl ?_
    refine z_callVr (As := [z_i r]) (rest := []) (r := z_i (cPc κ r e)) hY eX7_placeAt_14 (e_placeIn hG hJ hB hV (by omega) (by omega)) (cH_at (t := 20) (i := e) hJ (by omega)) (by decide) (Nat.le_of_ble_eq_true rfl) ⟨Nat.zero_le _, Nat.zero_le _⟩ ?_
    have hc1 := cPc_b hS r e
    exact z_ireturn hY eX7_placeAt_17 rfl (by rw [hφ]; first | (exfalso; omega) | exact ⟨congrArg (fun q => some (z_i q)) (by unfold cPa; split <;> omega), rfl⟩) ⟨Nat.zero_le _, Nat.zero_le _⟩
  · refine z_aload hY eX7_placeAt_5 1 rfl ?_
    have hb2 := hS.s37 e 0
    refine c_gf hY hJ eX7_placeAt_6 (t := 20) (i := e) (v := z_i (κ 37 e 0)) (by omega) rfl rfl ?_
    refine z_goto hY eX7_placeAt_9 ?_
    exact z_ireturn hY eX7_placeAt_17 rfl (by rw [hφ]; first | (exfalso; omega) | exact ⟨congrArg (fun q => some (z_i q)) (by unfold cPa; split <;> omega), rfl⟩) ⟨Nat.zero_le _, Nat.zero_le _⟩
theorem c_countGroupsAhead {G : z_G} {D : Nat} {B : Nat → Int → Nat} {κ : c_K} {h : z_H} (hG : z_OK G) (hJ : cJ B κ) (hB : cB κ) (hV : cV κ) (hS : cS κ) {g : Int} (hrg : -2147483648 ≤ g ∧ g ≤ 2147483647) : z_T G mX7_countGroupsAhead [.ref (B 0 0), z_i g] (cH D B κ h) 4 0 0 (fun v h' => v = some (z_i (cGh κ g)) ∧ h' = cH D B κ h) (z_no) := by
  obtain ⟨hn, hsz, hrw, hcu, htl, hth⟩ := id hV
  have hs0 := hsz 0 (by omega) (by omega)
  have hs1 := hsz 1 (by omega) (by omega)
  have hs2 := hsz 2 (by omega) (by omega)
  have hs3 := hsz 3 (by omega) (by omega)
  refine z_T_of hG pX7_countGroupsAhead (Nat.le_of_ble_eq_true rfl) (ls0 := [(0, .ref (B 0 0)), (1, z_i g)]) rfl fun Y hY hg hmc hms hφ hψ => ?_
  subst hg
  refine z_aload hY eX7_countGroupsAhead_0 0 rfl ?_
  refine c_gf hY hJ eX7_countGroupsAhead_1 (t := 0) (i := 0) (v := .ref (B 9 0)) (by omega) rfl rfl ?_
  refine z_iload hY eX7_countGroupsAhead_4 1 rfl ?_
  refine z_callVr (As := [z_i g]) (rest := []) (r := z_i (cTs κ g)) hY eX7_countGroupsAhead_5 (s_teamSum hG hJ hB hV (by omega)) (cH_at (t := 9) (i := 0) hJ (by omega)) (by decide) (Nat.le_of_ble_eq_true rfl) ⟨Nat.zero_le _, Nat.zero_le _⟩ ?_
  have hc1 := cTs_b hV g
  refine z_istore hY eX7_countGroupsAhead_8 (ls' := [(2, z_i (cTs κ g)), (0, .ref (B 0 0)), (1, z_i g)]) rfl ?_
  refine z_aload hY eX7_countGroupsAhead_9 1 rfl ?_
  refine c_gf hY hJ eX7_countGroupsAhead_10 (t := 0) (i := 0) (v := .ref (B 9 0)) (by omega) rfl rfl ?_
  refine z_iload hY eX7_countGroupsAhead_13 2 rfl ?_
  refine z_callVr (As := [z_i g]) (rest := []) (r := z_i (cFi κ g)) hY eX7_countGroupsAhead_14 (s_firstPlaceOf hG hJ hB hV (by omega)) (cH_at (t := 9) (i := 0) hJ (by omega)) (by decide) (Nat.le_of_ble_eq_true rfl) ⟨Nat.zero_le _, Nat.zero_le _⟩ ?_
  have hc2 := cFi_b (κ := κ) g
  refine z_istore hY eX7_countGroupsAhead_17 (ls' := [(3, z_i (cFi κ g)), (2, z_i (cTs κ g)), (0, .ref (B 0 0)), (1, z_i g)]) rfl ?_
  refine z_const hY eX7_countGroupsAhead_18 ?_
  refine z_istore hY eX7_countGroupsAhead_19 (ls' := [(4, z_i 0), (3, z_i (cFi κ g)), (2, z_i (cTs κ g)), (0, .ref (B 0 0)), (1, z_i g)]) rfl ?_
  refine z_const hY eX7_countGroupsAhead_21 ?_
  refine z_istore hY eX7_countGroupsAhead_22 (ls' := [(5, z_i 0), (4, z_i 0), (3, z_i (cFi κ g)), (2, z_i (cTs κ g)), (0, .ref (B 0 0)), (1, z_i g)]) rfl ?_
  refine z_sub [4, 5, 3, 2, 0, 1] (ls' := [(0, .ref (B 0 0)), (1, z_i g), (2, z_i (cTs κ g)), (3, z_i (cFi κ g)), (5, z_i 0), (4, z_i 0)]) rfl ?_
  have lp24 : ∀ (fu : Nat) (o : Int) (n : Int), (5 - o).toNat < fu → (0 ≤ o ∧ o ≤ 5) → (n = z_sm (fun o => if cTs κ o ≠ -1 ∧ (cTs κ o < cTs κ g ∨ (cTs κ o = cTs κ g ∧ cFi κ o < cFi κ g)) then (1 : Int) else 0) o) → (0 ≤ n ∧ n ≤ o) → z_W Y 24 [(0, .ref (B 0 0)), (1, z_i g), (2, z_i (cTs κ g)), (3, z_i (cFi κ g)), (5, z_i o), (4, z_i n)] [] (cH D B κ h) 0 0 := by
    intro fu
    induction fu with
    | zero => intro o n hf; exact absurd hf (Nat.not_lt_zero _)
    | succ fu ih24 =>
      intro o n hf h0 hn hnb
      refine z_iload hY eX7_countGroupsAhead_24 4 rfl ?_
      refine z_const hY eX7_countGroupsAhead_26 ?_
      refine z_icmpge hY eX7_countGroupsAhead_27 (by omega) (fun c27 => ?_) (fun c27 => ?_)
      · refine z_iload hY eX7_countGroupsAhead_81 5 rfl ?_
        exact z_ireturn hY eX7_countGroupsAhead_83 rfl (by rw [hφ]; first | (exfalso; omega) | exact ⟨congrArg (fun q => some (z_i q)) (by unfold cGh; rw [show (5 : Int) = o by omega, ← hn]), rfl⟩) ⟨Nat.zero_le _, Nat.zero_le _⟩
      · refine z_aload hY eX7_countGroupsAhead_30 0 rfl ?_
        refine c_gf hY hJ eX7_countGroupsAhead_31 (t := 0) (i := 0) (v := .ref (B 9 0)) (by omega) rfl rfl ?_
        refine z_iload hY eX7_countGroupsAhead_34 4 rfl ?_
        refine z_callVr (As := [z_i o]) (rest := []) (r := z_i (cTs κ o)) hY eX7_countGroupsAhead_36 (s_teamSum hG hJ hB hV (by omega)) (cH_at (t := 9) (i := 0) hJ (by omega)) (by decide) (Nat.le_of_ble_eq_true rfl) ⟨Nat.zero_le _, Nat.zero_le _⟩ ?_
        have hc3 := cTs_b hV o
        refine z_istore hY eX7_countGroupsAhead_39 (ls' := [(6, z_i (cTs κ o)), (0, .ref (B 0 0)), (1, z_i g), (2, z_i (cTs κ g)), (3, z_i (cFi κ g)), (5, z_i o), (4, z_i n)]) rfl ?_
        refine z_iload hY eX7_countGroupsAhead_41 0 rfl ?_
        refine z_const hY eX7_countGroupsAhead_43 ?_
        refine z_icmpeq hY eX7_countGroupsAhead_44 (by omega) (fun c44 => ?_) (fun c44 => ?_)
        · refine z_iinc hY eX7_countGroupsAhead_75 5 rfl (ls' := [(5, z_i (o + 1)), (6, z_i (cTs κ o)), (0, .ref (B 0 0)), (1, z_i g), (2, z_i (cTs κ g)), (3, z_i (cFi κ g)), (4, z_i n)]) rfl ?_
          refine z_goto hY eX7_countGroupsAhead_78 ?_
          refine z_sub [2, 3, 4, 5, 0, 6] (ls' := [(0, .ref (B 0 0)), (1, z_i g), (2, z_i (cTs κ g)), (3, z_i (cFi κ g)), (5, z_i (o + 1)), (4, z_i n)]) rfl ?_
          exact ih24 (o + 1) n (by omega) (by omega) (by rw [z_smS (by omega), ← hn]; split <;> omega) (by omega)
        · refine z_iload hY eX7_countGroupsAhead_47 0 rfl ?_
          refine z_iload hY eX7_countGroupsAhead_49 3 rfl ?_
          refine z_icmplt hY eX7_countGroupsAhead_50 (by omega) (fun c50 => ?_) (fun c50 => ?_)
          · refine z_iinc hY eX7_countGroupsAhead_72 6 rfl (ls' := [(4, z_i (n + 1)), (6, z_i (cTs κ o)), (0, .ref (B 0 0)), (1, z_i g), (2, z_i (cTs κ g)), (3, z_i (cFi κ g)), (5, z_i o)]) rfl ?_
            refine z_iinc hY eX7_countGroupsAhead_75 6 rfl (ls' := [(5, z_i (o + 1)), (4, z_i (n + 1)), (6, z_i (cTs κ o)), (0, .ref (B 0 0)), (1, z_i g), (2, z_i (cTs κ g)), (3, z_i (cFi κ g))]) rfl ?_
            refine z_goto hY eX7_countGroupsAhead_78 ?_
            refine z_sub [3, 4, 5, 6, 0, 1] (ls' := [(0, .ref (B 0 0)), (1, z_i g), (2, z_i (cTs κ g)), (3, z_i (cFi κ g)), (5, z_i (o + 1)), (4, z_i (n + 1))]) rfl ?_
            exact ih24 (o + 1) (n + 1) (by omega) (by omega) (by rw [z_smS (by omega), ← hn]; split <;> omega) (by omega)
          · refine z_iload hY eX7_countGroupsAhead_53 0 rfl ?_
            refine z_iload hY eX7_countGroupsAhead_55 3 rfl ?_
            refine z_icmpne hY eX7_countGroupsAhead_56 (by omega) (fun c56 => ?_) (fun c56 => ?_)
            · refine z_iinc hY eX7_countGroupsAhead_75 5 rfl (ls' := [(5, z_i (o + 1)), (6, z_i (cTs κ o)), (0, .ref (B 0 0)), (1, z_i g), (2, z_i (cTs κ g)), (3, z_i (cFi κ g)), (4, z_i n)]) rfl ?_
              refine z_goto hY eX7_countGroupsAhead_78 ?_
              refine z_sub [2, 3, 4, 5, 0, 6] (ls' := [(0, .ref (B 0 0)), (1, z_i g), (2, z_i (cTs κ g)), (3, z_i (cFi κ g)), (5, z_i (o + 1)), (4, z_i n)]) rfl ?_
              exact ih24 (o + 1) n (by omega) (by omega) (by rw [z_smS (by omega), ← hn]; split <;> omega) (by omega)
            · refine z_aload hY eX7_countGroupsAhead_59 1 rfl ?_
              refine c_gf hY hJ eX7_countGroupsAhead_60 (t := 0) (i := 0) (v := .ref (B 9 0)) (by omega) rfl rfl ?_
              refine z_iload hY eX7_countGroupsAhead_63 5 rfl ?_
              refine z_callVr (As := [z_i o]) (rest := []) (r := z_i (cFi κ o)) hY eX7_countGroupsAhead_65 (s_firstPlaceOf hG hJ hB hV (by omega)) (cH_at (t := 9) (i := 0) hJ (by omega)) (by decide) (Nat.le_of_ble_eq_true rfl) ⟨Nat.zero_le _, Nat.zero_le _⟩ ?_
              have hc4 := cFi_b (κ := κ) o
              refine z_iload hY eX7_countGroupsAhead_68 4 rfl ?_
              refine z_icmpge hY eX7_countGroupsAhead_69 (by omega) (fun c69 => ?_) (fun c69 => ?_)
              · refine z_iinc hY eX7_countGroupsAhead_75 5 rfl (ls' := [(5, z_i (o + 1)), (6, z_i (cTs κ o)), (0, .ref (B 0 0)), (1, z_i g), (2, z_i (cTs κ g)), (3, z_i (cFi κ g)), (4, z_i n)]) rfl ?_
                refine z_goto hY eX7_countGroupsAhead_78 ?_
                refine z_sub [2, 3, 4, 5, 0, 6] (ls' := [(0, .ref (B 0 0)), (1, z_i g), (2, z_i (cTs κ g)), (3, z_i (cFi κ g)), (5, z_i (o + 1)), (4, z_i n)]) rfl ?_
                exact ih24 (o + 1) n (by omega) (by omega) (by rw [z_smS (by omega), ← hn]; split <;> omega) (by omega)
              · refine z_iinc hY eX7_countGroupsAhead_72 6 rfl (ls' := [(4, z_i (n + 1)), (6, z_i (cTs κ o)), (0, .ref (B 0 0)), (1, z_i g), (2, z_i (cTs κ g)), (3, z_i (cFi κ g)), (5, z_i o)]) rfl ?_
                refine z_iinc hY eX7_countGroupsAhead_75 6 rfl (ls' := [(5, z_i (o + 1)), (4, z_i (n + 1)), (6, z_i (cTs κ o)), (0, .ref (B 0 0)), (1, z_i g), (2, z_i (cTs κ g)), (3, z_i (cFi κ g))]) rfl ?_
                refine z_goto hY eX7_countGroupsAhead_78 ?_
                refine z_sub [3, 4, 5, 6, 0, 1] (ls' := [(0, .ref (B 0 0)), (1, z_i g), (2, z_i (cTs κ g)), (3, z_i (cFi κ g)), (5, z_i (o + 1)), (4, z_i (n + 1))]) rfl ?_
                exact ih24 (o + 1) (n + 1) (by omega) (by omega) (by rw [z_smS (by omega), ← hn]; split <;> omega) (by omega)
  exact lp24 _ 0 0 (Nat.lt_succ_self _) (by omega) (z_sm0 (by omega)).symm (by omega)
theorem c_groupRankedAt {G : z_G} {D : Nat} {B : Nat → Int → Nat} {κ : c_K} {h : z_H} (hG : z_OK G) (hJ : cJ B κ) (hB : cB κ) (hV : cV κ) (hS : cS κ) {p : Int} (hrp : -2147483648 ≤ p ∧ p ≤ 2147483647) : z_T G mX7_groupRankedAt [.ref (B 0 0), z_i p] (cH D B κ h) 5 0 0 (fun v h' => v = some (z_i (cGr κ p)) ∧ h' = cH D B κ h) (z_no) := by
  obtain ⟨hn, hsz, hrw, hcu, htl, hth⟩ := id hV
  have hs0 := hsz 0 (by omega) (by omega)
  have hs1 := hsz 1 (by omega) (by omega)
  have hs2 := hsz 2 (by omega) (by omega)
  have hs3 := hsz 3 (by omega) (by omega)
  refine z_T_of hG pX7_groupRankedAt (Nat.le_of_ble_eq_true rfl) (ls0 := [(0, .ref (B 0 0)), (1, z_i p)]) rfl fun Y hY hg hmc hms hφ hψ => ?_
  subst hg
  refine z_const hY eX7_groupRankedAt_0 ?_
  refine z_istore hY eX7_groupRankedAt_1 (ls' := [(2, z_i 0), (0, .ref (B 0 0)), (1, z_i p)]) rfl ?_
  refine z_sub [1, 2, 0] (ls' := [(0, .ref (B 0 0)), (1, z_i p), (2, z_i 0)]) rfl ?_
  have lp2 : ∀ (fu : Nat) (g : Int), (5 - g).toNat < fu → (0 ≤ g ∧ g ≤ 5) → (z_fi (fun g => cTs κ g ≠ -1 ∧ cGh κ g + 1 = p) (5 - g).toNat g = z_ff (fun g => cTs κ g ≠ -1 ∧ cGh κ g + 1 = p) 5) → z_W Y 2 [(0, .ref (B 0 0)), (1, z_i p), (2, z_i g)] [] (cH D B κ h) 0 0 := by
    intro fu
    induction fu with
    | zero => intro g hf; exact absurd hf (Nat.not_lt_zero _)
    | succ fu ih2 =>
      intro g hf h0 hn
      refine z_iload hY eX7_groupRankedAt_2 2 rfl ?_
      refine z_const hY eX7_groupRankedAt_3 ?_
      refine z_icmpge hY eX7_groupRankedAt_4 (by omega) (fun c4 => ?_) (fun c4 => ?_)
      · refine z_const hY eX7_groupRankedAt_38 ?_
        exact z_ireturn hY eX7_groupRankedAt_39 rfl (by rw [hφ]; exact ⟨congrArg (fun q => some (z_i q)) ((z_fi_e (P := fun g => cTs κ g ≠ -1 ∧ cGh κ g + 1 = p) (n := 5) (i := g) (by omega)).symm.trans hn), rfl⟩) ⟨Nat.zero_le _, Nat.zero_le _⟩
      · refine z_aload hY eX7_groupRankedAt_7 0 rfl ?_
        refine c_gf hY hJ eX7_groupRankedAt_8 (t := 0) (i := 0) (v := .ref (B 9 0)) (by omega) rfl rfl ?_
        refine z_iload hY eX7_groupRankedAt_11 2 rfl ?_
        refine z_callVr (As := [z_i g]) (rest := []) (r := z_i (cTs κ g)) hY eX7_groupRankedAt_12 (s_teamSum hG hJ hB hV (by omega)) (cH_at (t := 9) (i := 0) hJ (by omega)) (by decide) (Nat.le_of_ble_eq_true rfl) ⟨Nat.zero_le _, Nat.zero_le _⟩ ?_
        have hc1 := cTs_b hV g
        refine z_const hY eX7_groupRankedAt_15 ?_
        refine z_icmpeq hY eX7_groupRankedAt_16 (by omega) (fun c16 => ?_) (fun c16 => ?_)
        · refine z_iinc hY eX7_groupRankedAt_32 2 rfl (ls' := [(2, z_i (g + 1)), (0, .ref (B 0 0)), (1, z_i p)]) rfl ?_
          refine z_goto hY eX7_groupRankedAt_35 ?_
          refine z_sub [1, 2, 0] (ls' := [(0, .ref (B 0 0)), (1, z_i p), (2, z_i (g + 1))]) rfl ?_
          exact ih2 (g + 1) (by omega) (by omega) ((z_fi_f (by omega) (by omega)).symm.trans hn)
        · refine z_aload hY eX7_groupRankedAt_19 0 rfl ?_
          refine z_iload hY eX7_groupRankedAt_20 2 rfl ?_
          refine z_callVr (As := [z_i g]) (rest := []) (r := z_i (cGh κ g)) hY eX7_groupRankedAt_21 (c_countGroupsAhead hG hJ hB hV hS (by omega)) (cH_at (t := 0) (i := 0) hJ (by omega)) (by decide) (Nat.le_of_ble_eq_true rfl) ⟨Nat.zero_le _, Nat.zero_le _⟩ ?_
          have hcg := cGh_b κ g
          refine z_const hY eX7_groupRankedAt_24 ?_
          refine z_iadd hY eX7_groupRankedAt_25 ?_
          refine z_iload hY eX7_groupRankedAt_26 1 rfl ?_
          refine z_icmpne hY eX7_groupRankedAt_27 (by omega) (fun c27 => ?_) (fun c27 => ?_)
          · refine z_iinc hY eX7_groupRankedAt_32 2 rfl (ls' := [(2, z_i (g + 1)), (0, .ref (B 0 0)), (1, z_i p)]) rfl ?_
            refine z_goto hY eX7_groupRankedAt_35 ?_
            refine z_sub [1, 2, 0] (ls' := [(0, .ref (B 0 0)), (1, z_i p), (2, z_i (g + 1))]) rfl ?_
            exact ih2 (g + 1) (by omega) (by omega) ((z_fi_f (by omega) (by omega)).symm.trans hn)
          · refine z_iload hY eX7_groupRankedAt_30 2 rfl ?_
            exact z_ireturn hY eX7_groupRankedAt_31 rfl (by rw [hφ]; exact ⟨congrArg (fun q => some (z_i q)) ((z_fi_t (P := fun g => cTs κ g ≠ -1 ∧ cGh κ g + 1 = p) (n := 5) (i := g) (by omega) (by omega)).symm.trans hn), rfl⟩) ⟨Nat.zero_le _, Nat.zero_le _⟩
  exact lp2 _ 0 (Nat.lt_succ_self _) (by omega) rfl
theorem c_countPresentUpTo {G : z_G} {D : Nat} {B : Nat → Int → Nat} {κ : c_K} {h : z_H} (hG : z_OK G) (hJ : cJ B κ) (hB : cB κ) (hV : cV κ) (hS : cS κ) {p : Int} (hrp : -2147483648 ≤ p ∧ p ≤ 2147483647) : z_T G mX7_countPresentUpTo [.ref (B 0 0), z_i p] (cH D B κ h) 4 0 0 (fun v h' => v = some (z_i (cCu κ p)) ∧ h' = cH D B κ h) (z_no) := by
  obtain ⟨hn, hsz, hrw, hcu, htl, hth⟩ := id hV
  have hs0 := hsz 0 (by omega) (by omega)
  have hs1 := hsz 1 (by omega) (by omega)
  have hs2 := hsz 2 (by omega) (by omega)
  have hs3 := hsz 3 (by omega) (by omega)
  refine z_T_of hG pX7_countPresentUpTo (Nat.le_of_ble_eq_true rfl) (ls0 := [(0, .ref (B 0 0)), (1, z_i p)]) rfl fun Y hY hg hmc hms hφ hψ => ?_
  subst hg
  refine z_const hY eX7_countPresentUpTo_0 ?_
  refine z_istore hY eX7_countPresentUpTo_1 (ls' := [(2, z_i 0), (0, .ref (B 0 0)), (1, z_i p)]) rfl ?_
  refine z_const hY eX7_countPresentUpTo_2 ?_
  refine z_istore hY eX7_countPresentUpTo_3 (ls' := [(3, z_i 0), (2, z_i 0), (0, .ref (B 0 0)), (1, z_i p)]) rfl ?_
  refine z_sub [2, 3, 0, 1] (ls' := [(0, .ref (B 0 0)), (1, z_i p), (3, z_i 0), (2, z_i 0)]) rfl ?_
  have lp4 : ∀ (fu : Nat) (o : Int) (n : Int), (κ 24 0 0 - o).toNat < fu → (0 ≤ o ∧ o ≤ κ 24 0 0) → (n = z_sm (fun o => if κ 36 o 0 ≠ 0 ∧ κ 30 o 0 ≤ p then (1 : Int) else 0) o) → (0 ≤ n ∧ n ≤ o) → z_W Y 4 [(0, .ref (B 0 0)), (1, z_i p), (3, z_i o), (2, z_i n)] [] (cH D B κ h) 0 0 := by
    intro fu
    induction fu with
    | zero => intro o n hf; exact absurd hf (Nat.not_lt_zero _)
    | succ fu ih4 =>
      intro o n hf h0 hn hnb
      refine z_iload hY eX7_countPresentUpTo_4 2 rfl ?_
      refine z_aload hY eX7_countPresentUpTo_5 0 rfl ?_
      refine c_gf hY hJ eX7_countPresentUpTo_6 (t := 0) (i := 0) (v := .ref (B 7 0)) (by omega) rfl rfl ?_
      refine z_callVr (As := []) (rest := [z_i o]) (r := z_i (κ 24 0 0)) hY eX7_countPresentUpTo_9 (c_size hG hJ hB hV (by omega)) (cH_at (t := 7) (i := 0) hJ (by omega)) (by decide) (Nat.le_of_ble_eq_true rfl) ⟨Nat.zero_le _, Nat.zero_le _⟩ ?_
      refine z_icmpge hY eX7_countPresentUpTo_12 (by omega) (fun c12 => ?_) (fun c12 => ?_)
      · refine z_iload hY eX7_countPresentUpTo_64 3 rfl ?_
        exact z_ireturn hY eX7_countPresentUpTo_65 rfl (by rw [hφ]; first | (exfalso; omega) | exact ⟨congrArg (fun q => some (z_i q)) (by unfold cCu; rw [show κ 24 0 0 = o by omega, ← hn]), rfl⟩) ⟨Nat.zero_le _, Nat.zero_le _⟩
      · refine z_iload hY eX7_countPresentUpTo_15 3 rfl ?_
        refine z_aload hY eX7_countPresentUpTo_16 0 rfl ?_
        refine c_gf hY hJ eX7_countPresentUpTo_17 (t := 0) (i := 0) (v := .ref (B 7 0)) (by omega) rfl rfl ?_
        refine z_iload hY eX7_countPresentUpTo_20 2 rfl ?_
        refine z_callVr (As := [z_i o]) (rest := [z_i n]) (r := .ref (B 20 o)) hY eX7_countPresentUpTo_21 (c_get0 hG hJ hB hV hS (by omega)) (cH_at (t := 7) (i := 0) hJ (by omega)) (by decide) (Nat.le_of_ble_eq_true rfl) ⟨Nat.zero_le _, Nat.zero_le _⟩ ?_
        refine z_cast hY eX7_countPresentUpTo_24 (ci := 0) (nm := "StandingsHall$Entrant") (T := TX0) (N := 11) rfl (cH_at (t := 20) (i := o) hJ (by omega)) ?_
        have hb1 := hS.s36 o 0
        refine c_gf hY hJ eX7_countPresentUpTo_27 (t := 20) (i := o) (v := z_i (κ 36 o 0)) (by omega) rfl rfl ?_
        refine z_ifeq hY eX7_countPresentUpTo_30 (by omega) (fun c30 => ?_) (fun c30 => ?_)
        · refine z_const hY eX7_countPresentUpTo_55 ?_
          refine z_iadd hY eX7_countPresentUpTo_56 ?_
          refine z_top (b := n) (by omega) ?_
          refine z_istore hY eX7_countPresentUpTo_57 (ls' := [(2, z_i n), (0, .ref (B 0 0)), (1, z_i p), (3, z_i o)]) rfl ?_
          refine z_iinc hY eX7_countPresentUpTo_58 3 rfl (ls' := [(3, z_i (o + 1)), (2, z_i n), (0, .ref (B 0 0)), (1, z_i p)]) rfl ?_
          refine z_goto hY eX7_countPresentUpTo_61 ?_
          refine z_sub [2, 3, 0, 1] (ls' := [(0, .ref (B 0 0)), (1, z_i p), (3, z_i (o + 1)), (2, z_i n)]) rfl ?_
          exact ih4 (o + 1) n (by omega) (by omega) (by rw [z_smS (by omega), ← hn]; split <;> omega) (by omega)
        · refine z_aload hY eX7_countPresentUpTo_33 0 rfl ?_
          refine c_gf hY hJ eX7_countPresentUpTo_34 (t := 0) (i := 0) (v := .ref (B 7 0)) (by omega) rfl rfl ?_
          refine z_iload hY eX7_countPresentUpTo_37 2 rfl ?_
          refine z_callVr (As := [z_i o]) (rest := [z_i n]) (r := .ref (B 20 o)) hY eX7_countPresentUpTo_38 (c_get0 hG hJ hB hV hS (by omega)) (cH_at (t := 7) (i := 0) hJ (by omega)) (by decide) (Nat.le_of_ble_eq_true rfl) ⟨Nat.zero_le _, Nat.zero_le _⟩ ?_
          refine z_cast hY eX7_countPresentUpTo_41 (ci := 0) (nm := "StandingsHall$Entrant") (T := TX0) (N := 11) rfl (cH_at (t := 20) (i := o) hJ (by omega)) ?_
          refine z_callVr (As := []) (rest := [z_i n]) (r := z_i (κ 30 o 0)) hY eX7_countPresentUpTo_44 (e_points hG hJ hB hV (by omega)) (cH_at (t := 20) (i := o) hJ (by omega)) (by decide) (Nat.le_of_ble_eq_true rfl) ⟨Nat.zero_le _, Nat.zero_le _⟩ ?_
          have hc2 := hS.s30 o 0
          refine z_iload hY eX7_countPresentUpTo_47 1 rfl ?_
          refine z_icmpgt hY eX7_countPresentUpTo_48 (by omega) (fun c48 => ?_) (fun c48 => ?_)
          · refine z_const hY eX7_countPresentUpTo_55 ?_
            refine z_iadd hY eX7_countPresentUpTo_56 ?_
            refine z_top (b := n) (by omega) ?_
            refine z_istore hY eX7_countPresentUpTo_57 (ls' := [(2, z_i n), (0, .ref (B 0 0)), (1, z_i p), (3, z_i o)]) rfl ?_
            refine z_iinc hY eX7_countPresentUpTo_58 3 rfl (ls' := [(3, z_i (o + 1)), (2, z_i n), (0, .ref (B 0 0)), (1, z_i p)]) rfl ?_
            refine z_goto hY eX7_countPresentUpTo_61 ?_
            refine z_sub [2, 3, 0, 1] (ls' := [(0, .ref (B 0 0)), (1, z_i p), (3, z_i (o + 1)), (2, z_i n)]) rfl ?_
            exact ih4 (o + 1) n (by omega) (by omega) (by rw [z_smS (by omega), ← hn]; split <;> omega) (by omega)
          · refine z_const hY eX7_countPresentUpTo_51 ?_
            refine z_goto hY eX7_countPresentUpTo_52 ?_
            refine z_iadd hY eX7_countPresentUpTo_56 ?_
            refine z_istore hY eX7_countPresentUpTo_57 (ls' := [(2, z_i (n + 1)), (0, .ref (B 0 0)), (1, z_i p), (3, z_i o)]) rfl ?_
            refine z_iinc hY eX7_countPresentUpTo_58 3 rfl (ls' := [(3, z_i (o + 1)), (2, z_i (n + 1)), (0, .ref (B 0 0)), (1, z_i p)]) rfl ?_
            refine z_goto hY eX7_countPresentUpTo_61 ?_
            refine z_sub [2, 3, 0, 1] (ls' := [(0, .ref (B 0 0)), (1, z_i p), (3, z_i (o + 1)), (2, z_i (n + 1))]) rfl ?_
            exact ih4 (o + 1) (n + 1) (by omega) (by omega) (by rw [z_smS (by omega), ← hn]; split <;> omega) (by omega)
  exact lp4 _ 0 0 (Nat.lt_succ_self _) (by omega) (z_sm0 (by omega)).symm (by omega)
theorem c_isFirst {G : z_G} {D : Nat} {B : Nat → Int → Nat} {κ : c_K} {h : z_H} (hG : z_OK G) (hJ : cJ B κ) (hB : cB κ) (hV : cV κ) (hS : cS κ) {e : Int} (he : 0 ≤ e ∧ e < κ 24 0 0) : z_T G mX7_isFirstWithItsPoints [.ref (B 0 0), .ref (B 20 e)] (cH D B κ h) 4 0 0 (fun v h' => v = some (z_i (cFp κ e)) ∧ h' = cH D B κ h) (z_no) := by
  obtain ⟨hn, hsz, hrw, hcu, htl, hth⟩ := id hV
  have hs0 := hsz 0 (by omega) (by omega)
  have hs1 := hsz 1 (by omega) (by omega)
  have hs2 := hsz 2 (by omega) (by omega)
  have hs3 := hsz 3 (by omega) (by omega)
  refine z_T_of hG pX7_isFirstWithItsPoints (Nat.le_of_ble_eq_true rfl) (ls0 := [(0, .ref (B 0 0)), (1, .ref (B 20 e))]) rfl fun Y hY hg hmc hms hφ hψ => ?_
  subst hg
  have hn0 := hS.n0 e he.1 he.2
  refine z_const hY eX7_isFirstWithItsPoints_0 ?_
  refine z_istore hY eX7_isFirstWithItsPoints_1 (ls' := [(2, z_i 0), (0, .ref (B 0 0)), (1, .ref (B 20 e))]) rfl ?_
  refine z_sub [1, 2, 0] (ls' := [(0, .ref (B 0 0)), (1, .ref (B 20 e)), (2, z_i 0)]) rfl ?_
  have lp2 : ∀ (fu : Nat) (o : Int), (κ 34 e 0 - o).toNat < fu → (0 ≤ o ∧ o ≤ κ 34 e 0) → (z_fi (fun o => κ 36 o 0 ≠ 0 ∧ κ 30 o 0 = κ 30 e 0) (κ 34 e 0 - o).toNat o = z_ff (fun o => κ 36 o 0 ≠ 0 ∧ κ 30 o 0 = κ 30 e 0) (κ 34 e 0)) → z_W Y 2 [(0, .ref (B 0 0)), (1, .ref (B 20 e)), (2, z_i o)] [] (cH D B κ h) 0 0 := by
    intro fu
    induction fu with
    | zero => intro o hf; exact absurd hf (Nat.not_lt_zero _)
    | succ fu ih2 =>
      intro o hf h0 hn
      refine z_iload hY eX7_isFirstWithItsPoints_2 2 rfl ?_
      refine z_aload hY eX7_isFirstWithItsPoints_3 1 rfl ?_
      have hb1 := hS.s34 e 0
      refine c_gf hY hJ eX7_isFirstWithItsPoints_4 (t := 20) (i := e) (v := z_i (κ 34 e 0)) (by omega) rfl rfl ?_
      refine z_icmpge hY eX7_isFirstWithItsPoints_7 (by omega) (fun c7 => ?_) (fun c7 => ?_)
      · refine z_const hY eX7_isFirstWithItsPoints_67 ?_
        exact z_zreturn hY eX7_isFirstWithItsPoints_68 rfl (by omega) (by rw [hφ]; exact ⟨congrArg (fun q => some (z_i q)) (by have h1 := (z_fi_e (P := fun o => κ 36 o 0 ≠ 0 ∧ κ 30 o 0 = κ 30 e 0) (n := κ 34 e 0) (i := o) (by omega)).symm.trans hn; unfold cFp; rw [← h1, if_pos rfl]), rfl⟩) ⟨Nat.zero_le _, Nat.zero_le _⟩
      · refine z_iload hY eX7_isFirstWithItsPoints_10 2 rfl ?_
        refine z_aload hY eX7_isFirstWithItsPoints_11 0 rfl ?_
        refine c_gf hY hJ eX7_isFirstWithItsPoints_12 (t := 0) (i := 0) (v := .ref (B 7 0)) (by omega) rfl rfl ?_
        refine z_callVr (As := []) (rest := [z_i o]) (r := z_i (κ 24 0 0)) hY eX7_isFirstWithItsPoints_15 (c_size hG hJ hB hV (by omega)) (cH_at (t := 7) (i := 0) hJ (by omega)) (by decide) (Nat.le_of_ble_eq_true rfl) ⟨Nat.zero_le _, Nat.zero_le _⟩ ?_
        refine z_icmpge hY eX7_isFirstWithItsPoints_18 (by omega) (fun c18 => ?_) (fun c18 => ?_)
        · refine z_const hY eX7_isFirstWithItsPoints_67 ?_
          exact z_zreturn hY eX7_isFirstWithItsPoints_68 rfl (by omega) (by rw [hφ]; exact ⟨congrArg (fun q => some (z_i q)) (by have h1 := (z_fi_e (P := fun o => κ 36 o 0 ≠ 0 ∧ κ 30 o 0 = κ 30 e 0) (n := κ 34 e 0) (i := o) (by omega)).symm.trans hn; unfold cFp; rw [← h1, if_pos rfl]), rfl⟩) ⟨Nat.zero_le _, Nat.zero_le _⟩
        · refine z_aload hY eX7_isFirstWithItsPoints_21 0 rfl ?_
          refine c_gf hY hJ eX7_isFirstWithItsPoints_22 (t := 0) (i := 0) (v := .ref (B 7 0)) (by omega) rfl rfl ?_
          refine z_iload hY eX7_isFirstWithItsPoints_25 2 rfl ?_
          refine z_callVr (As := [z_i o]) (rest := []) (r := .ref (B 20 o)) hY eX7_isFirstWithItsPoints_26 (c_get0 hG hJ hB hV hS (by omega)) (cH_at (t := 7) (i := 0) hJ (by omega)) (by decide) (Nat.le_of_ble_eq_true rfl) ⟨Nat.zero_le _, Nat.zero_le _⟩ ?_
          refine z_cast hY eX7_isFirstWithItsPoints_29 (ci := 0) (nm := "StandingsHall$Entrant") (T := TX0) (N := 11) rfl (cH_at (t := 20) (i := o) hJ (by omega)) ?_
          have hb2 := hS.s36 o 0
          refine c_gf hY hJ eX7_isFirstWithItsPoints_32 (t := 20) (i := o) (v := z_i (κ 36 o 0)) (by omega) rfl rfl ?_
          refine z_ifeq hY eX7_isFirstWithItsPoints_35 (by omega) (fun c35 => ?_) (fun c35 => ?_)
          · refine z_iinc hY eX7_isFirstWithItsPoints_61 2 rfl (ls' := [(2, z_i (o + 1)), (0, .ref (B 0 0)), (1, .ref (B 20 e))]) rfl ?_
            refine z_goto hY eX7_isFirstWithItsPoints_64 ?_
            refine z_sub [1, 2, 0] (ls' := [(0, .ref (B 0 0)), (1, .ref (B 20 e)), (2, z_i (o + 1))]) rfl ?_
            exact ih2 (o + 1) (by omega) (by omega) ((z_fi_f (by omega) (by omega)).symm.trans hn)
          · refine z_aload hY eX7_isFirstWithItsPoints_38 0 rfl ?_
            refine c_gf hY hJ eX7_isFirstWithItsPoints_39 (t := 0) (i := 0) (v := .ref (B 7 0)) (by omega) rfl rfl ?_
            refine z_iload hY eX7_isFirstWithItsPoints_42 2 rfl ?_
            refine z_callVr (As := [z_i o]) (rest := []) (r := .ref (B 20 o)) hY eX7_isFirstWithItsPoints_43 (c_get0 hG hJ hB hV hS (by omega)) (cH_at (t := 7) (i := 0) hJ (by omega)) (by decide) (Nat.le_of_ble_eq_true rfl) ⟨Nat.zero_le _, Nat.zero_le _⟩ ?_
            refine z_cast hY eX7_isFirstWithItsPoints_46 (ci := 0) (nm := "StandingsHall$Entrant") (T := TX0) (N := 11) rfl (cH_at (t := 20) (i := o) hJ (by omega)) ?_
            refine z_callVr (As := []) (rest := []) (r := z_i (κ 30 o 0)) hY eX7_isFirstWithItsPoints_49 (e_points hG hJ hB hV (by omega)) (cH_at (t := 20) (i := o) hJ (by omega)) (by decide) (Nat.le_of_ble_eq_true rfl) ⟨Nat.zero_le _, Nat.zero_le _⟩ ?_
            have hc3 := hS.s30 o 0
            refine z_aload hY eX7_isFirstWithItsPoints_52 1 rfl ?_
            refine z_callVr (As := []) (rest := [z_i (κ 30 o 0)]) (r := z_i (κ 30 e 0)) hY eX7_isFirstWithItsPoints_53 (e_points hG hJ hB hV (by omega)) (cH_at (t := 20) (i := e) hJ (by omega)) (by decide) (Nat.le_of_ble_eq_true rfl) ⟨Nat.zero_le _, Nat.zero_le _⟩ ?_
            have hc4 := hS.s30 e 0
            refine z_icmpne hY eX7_isFirstWithItsPoints_56 (by omega) (fun c56 => ?_) (fun c56 => ?_)
            · refine z_iinc hY eX7_isFirstWithItsPoints_61 2 rfl (ls' := [(2, z_i (o + 1)), (0, .ref (B 0 0)), (1, .ref (B 20 e))]) rfl ?_
              refine z_goto hY eX7_isFirstWithItsPoints_64 ?_
              refine z_sub [1, 2, 0] (ls' := [(0, .ref (B 0 0)), (1, .ref (B 20 e)), (2, z_i (o + 1))]) rfl ?_
              exact ih2 (o + 1) (by omega) (by omega) ((z_fi_f (by omega) (by omega)).symm.trans hn)
            · refine z_const hY eX7_isFirstWithItsPoints_59 ?_
              exact z_zreturn hY eX7_isFirstWithItsPoints_60 rfl (by omega) (by rw [hφ]; exact ⟨congrArg (fun q => some (z_i q)) (by have h1 := (z_fi_t (P := fun o => κ 36 o 0 ≠ 0 ∧ κ 30 o 0 = κ 30 e 0) (n := κ 34 e 0) (i := o) (by omega) (by omega)).symm.trans hn; unfold cFp; rw [← h1, if_neg (by omega)]), rfl⟩) ⟨Nat.zero_le _, Nat.zero_le _⟩
  exact lp2 _ 0 (Nat.lt_succ_self _) (by omega) rfl
theorem c_wrongPoints {G : z_G} {D : Nat} {B : Nat → Int → Nat} {κ : c_K} {h : z_H} (hG : z_OK G) (hJ : cJ B κ) (hB : cB κ) (hV : cV κ) (hS : cS κ)  : z_T G mX7_wrongPoints [.ref (B 0 0)] (cH D B κ h) 5 0 0 (fun v h' => v = some (z_i (cWp κ)) ∧ h' = cH D B κ h) (z_no) := by
  obtain ⟨hn, hsz, hrw, hcu, htl, hth⟩ := id hV
  have hs0 := hsz 0 (by omega) (by omega)
  have hs1 := hsz 1 (by omega) (by omega)
  have hs2 := hsz 2 (by omega) (by omega)
  have hs3 := hsz 3 (by omega) (by omega)
  refine z_T_of hG pX7_wrongPoints (Nat.le_of_ble_eq_true rfl) (ls0 := [(0, .ref (B 0 0))]) rfl fun Y hY hg hmc hms hφ hψ => ?_
  subst hg
  refine z_const hY eX7_wrongPoints_0 ?_
  refine z_istore hY eX7_wrongPoints_1 (ls' := [(1, z_i 0), (0, .ref (B 0 0))]) rfl ?_
  refine z_const hY eX7_wrongPoints_2 ?_
  refine z_istore hY eX7_wrongPoints_3 (ls' := [(2, z_i 0), (1, z_i 0), (0, .ref (B 0 0))]) rfl ?_
  refine z_sub [2, 0, 1] (ls' := [(0, .ref (B 0 0)), (2, z_i 0), (1, z_i 0)]) rfl ?_
  have lp4 : ∀ (fu : Nat) (e : Int) (n : Int), (κ 24 0 0 - e).toNat < fu → (0 ≤ e ∧ e ≤ κ 24 0 0) → (n = z_sm (fun e => if κ 36 e 0 ≠ 0 ∧ cFp κ e ≠ 0 ∧ ¬ (cCu κ (κ 30 e 0) = cUp κ (κ 30 e 0) ∧ cCu κ (κ 30 e 0 - 1) = cLw κ (κ 30 e 0)) then (1 : Int) else 0) e) → (0 ≤ n ∧ n ≤ e) → z_W Y 4 [(0, .ref (B 0 0)), (2, z_i e), (1, z_i n)] [] (cH D B κ h) 0 0 := by
    intro fu
    induction fu with
    | zero => intro e n hf; exact absurd hf (Nat.not_lt_zero _)
    | succ fu ih4 =>
      intro e n hf h0 hn hnb
      refine z_iload hY eX7_wrongPoints_4 1 rfl ?_
      refine z_aload hY eX7_wrongPoints_5 0 rfl ?_
      refine c_gf hY hJ eX7_wrongPoints_6 (t := 0) (i := 0) (v := .ref (B 7 0)) (by omega) rfl rfl ?_
      refine z_callVr (As := []) (rest := [z_i e]) (r := z_i (κ 24 0 0)) hY eX7_wrongPoints_9 (c_size hG hJ hB hV (by omega)) (cH_at (t := 7) (i := 0) hJ (by omega)) (by decide) (Nat.le_of_ble_eq_true rfl) ⟨Nat.zero_le _, Nat.zero_le _⟩ ?_
      refine z_icmpge hY eX7_wrongPoints_12 (by omega) (fun c12 => ?_) (fun c12 => ?_)
      · refine z_iload hY eX7_wrongPoints_102 2 rfl ?_
        exact z_ireturn hY eX7_wrongPoints_103 rfl (by rw [hφ]; first | (exfalso; omega) | exact ⟨congrArg (fun q => some (z_i q)) (by unfold cWp; rw [show κ 24 0 0 = e by omega, ← hn]), rfl⟩) ⟨Nat.zero_le _, Nat.zero_le _⟩
      · refine z_aload hY eX7_wrongPoints_15 0 rfl ?_
        refine c_gf hY hJ eX7_wrongPoints_16 (t := 0) (i := 0) (v := .ref (B 7 0)) (by omega) rfl rfl ?_
        refine z_iload hY eX7_wrongPoints_19 1 rfl ?_
        refine z_callVr (As := [z_i e]) (rest := []) (r := .ref (B 20 e)) hY eX7_wrongPoints_20 (c_get0 hG hJ hB hV hS (by omega)) (cH_at (t := 7) (i := 0) hJ (by omega)) (by decide) (Nat.le_of_ble_eq_true rfl) ⟨Nat.zero_le _, Nat.zero_le _⟩ ?_
        refine z_cast hY eX7_wrongPoints_23 (ci := 0) (nm := "StandingsHall$Entrant") (T := TX0) (N := 11) rfl (cH_at (t := 20) (i := e) hJ (by omega)) ?_
        refine z_astore hY eX7_wrongPoints_26 (ls' := [(3, .ref (B 20 e)), (0, .ref (B 0 0)), (2, z_i e), (1, z_i n)]) rfl ?_
        refine z_aload hY eX7_wrongPoints_27 0 rfl ?_
        have hb1 := hS.s36 e 0
        refine c_gf hY hJ eX7_wrongPoints_28 (t := 20) (i := e) (v := z_i (κ 36 e 0)) (by omega) rfl rfl ?_
        refine z_ifeq hY eX7_wrongPoints_31 (by omega) (fun c31 => ?_) (fun c31 => ?_)
        · refine z_iinc hY eX7_wrongPoints_96 2 rfl (ls' := [(2, z_i (e + 1)), (3, .ref (B 20 e)), (0, .ref (B 0 0)), (1, z_i n)]) rfl ?_
          refine z_goto hY eX7_wrongPoints_99 ?_
          refine z_sub [2, 0, 3] (ls' := [(0, .ref (B 0 0)), (2, z_i (e + 1)), (1, z_i n)]) rfl ?_
          exact ih4 (e + 1) n (by omega) (by omega) (by rw [z_smS (by omega), ← hn]; split <;> omega) (by omega)
        · refine z_aload hY eX7_wrongPoints_34 1 rfl ?_
          refine z_aload hY eX7_wrongPoints_35 0 rfl ?_
          refine z_callVr (As := [.ref (B 20 e)]) (rest := []) (r := z_i (cFp κ e)) hY eX7_wrongPoints_36 (c_isFirst hG hJ hB hV hS (by omega)) (cH_at (t := 0) (i := 0) hJ (by omega)) (by decide) (Nat.le_of_ble_eq_true rfl) ⟨Nat.zero_le _, Nat.zero_le _⟩ ?_
          have hcf : 0 ≤ cFp κ e ∧ cFp κ e ≤ 1 := by unfold cFp; split <;> omega
          refine z_ifeq hY eX7_wrongPoints_39 (by omega) (fun c39 => ?_) (fun c39 => ?_)
          · refine z_iinc hY eX7_wrongPoints_96 2 rfl (ls' := [(2, z_i (e + 1)), (3, .ref (B 20 e)), (0, .ref (B 0 0)), (1, z_i n)]) rfl ?_
            refine z_goto hY eX7_wrongPoints_99 ?_
            refine z_sub [2, 0, 3] (ls' := [(0, .ref (B 0 0)), (2, z_i (e + 1)), (1, z_i n)]) rfl ?_
            exact ih4 (e + 1) n (by omega) (by omega) (by rw [z_smS (by omega), ← hn]; split <;> omega) (by omega)
          · refine z_iload hY eX7_wrongPoints_42 3 rfl ?_
            refine z_aload hY eX7_wrongPoints_43 1 rfl ?_
            refine z_aload hY eX7_wrongPoints_44 0 rfl ?_
            refine z_callVr (As := []) (rest := [.ref (B 0 0), z_i n]) (r := z_i (κ 30 e 0)) hY eX7_wrongPoints_45 (e_points hG hJ hB hV (by omega)) (cH_at (t := 20) (i := e) hJ (by omega)) (by decide) (Nat.le_of_ble_eq_true rfl) ⟨Nat.zero_le _, Nat.zero_le _⟩ ?_
            have hc2 := hS.s30 e 0
            refine z_callVr (As := [z_i (κ 30 e 0)]) (rest := [z_i n]) (r := z_i (cCu κ (κ 30 e 0))) hY eX7_wrongPoints_48 (c_countPresentUpTo hG hJ hB hV hS (by omega)) (cH_at (t := 0) (i := 0) hJ (by omega)) (by decide) (Nat.le_of_ble_eq_true rfl) ⟨Nat.zero_le _, Nat.zero_le _⟩ ?_
            have hc48 := cCu_b hV (κ 30 e 0)
            refine z_aload hY eX7_wrongPoints_51 1 rfl ?_
            refine c_gf hY hJ eX7_wrongPoints_52 (t := 0) (i := 0) (v := .ref (B 10 0)) (by omega) rfl rfl ?_
            refine z_aload hY eX7_wrongPoints_55 0 rfl ?_
            refine z_callVr (As := []) (rest := [.ref (B 10 0), z_i (cCu κ (κ 30 e 0)), z_i n]) (r := z_i (κ 30 e 0)) hY eX7_wrongPoints_56 (e_points hG hJ hB hV (by omega)) (cH_at (t := 20) (i := e) hJ (by omega)) (by decide) (Nat.le_of_ble_eq_true rfl) ⟨Nat.zero_le _, Nat.zero_le _⟩ ?_
            have hc3 := hS.s30 e 0
            refine z_callVr (As := [z_i (κ 30 e 0)]) (rest := [z_i (cCu κ (κ 30 e 0)), z_i n]) (r := z_i (cUp κ (κ 30 e 0))) hY eX7_wrongPoints_59 (p_countUpTo hG hJ hB hV (by omega)) (cH_at (t := 10) (i := 0) hJ (by omega)) (by decide) (Nat.le_of_ble_eq_true rfl) ⟨Nat.zero_le _, Nat.zero_le _⟩ ?_
            have hc4 := cUp_b hV (κ 30 e 0)
            refine z_icmpne hY eX7_wrongPoints_62 (by omega) (fun c62 => ?_) (fun c62 => ?_)
            · refine z_const hY eX7_wrongPoints_93 ?_
              refine z_iadd hY eX7_wrongPoints_94 ?_
              refine z_istore hY eX7_wrongPoints_95 (ls' := [(1, z_i (n + 1)), (3, .ref (B 20 e)), (0, .ref (B 0 0)), (2, z_i e)]) rfl ?_
              refine z_iinc hY eX7_wrongPoints_96 3 rfl (ls' := [(2, z_i (e + 1)), (1, z_i (n + 1)), (3, .ref (B 20 e)), (0, .ref (B 0 0))]) rfl ?_
              refine z_goto hY eX7_wrongPoints_99 ?_
              refine z_sub [3, 0, 1] (ls' := [(0, .ref (B 0 0)), (2, z_i (e + 1)), (1, z_i (n + 1))]) rfl ?_
              exact ih4 (e + 1) (n + 1) (by omega) (by omega) (by rw [z_smS (by omega), ← hn]; split <;> omega) (by omega)
            · refine z_aload hY eX7_wrongPoints_65 1 rfl ?_
              refine z_aload hY eX7_wrongPoints_66 0 rfl ?_
              refine z_callVr (As := []) (rest := [.ref (B 0 0), z_i n]) (r := z_i (κ 30 e 0)) hY eX7_wrongPoints_67 (e_points hG hJ hB hV (by omega)) (cH_at (t := 20) (i := e) hJ (by omega)) (by decide) (Nat.le_of_ble_eq_true rfl) ⟨Nat.zero_le _, Nat.zero_le _⟩ ?_
              have hc5 := hS.s30 e 0
              refine z_const hY eX7_wrongPoints_70 ?_
              refine z_isub hY eX7_wrongPoints_71 ?_
              refine z_callVr (As := [z_i ((κ 30 e 0) - 1)]) (rest := [z_i n]) (r := z_i (cCu κ ((κ 30 e 0) - 1))) hY eX7_wrongPoints_72 (c_countPresentUpTo hG hJ hB hV hS (by omega)) (cH_at (t := 0) (i := 0) hJ (by omega)) (by decide) (Nat.le_of_ble_eq_true rfl) ⟨Nat.zero_le _, Nat.zero_le _⟩ ?_
              have hc72 := cCu_b hV ((κ 30 e 0) - 1)
              refine z_aload hY eX7_wrongPoints_75 1 rfl ?_
              refine c_gf hY hJ eX7_wrongPoints_76 (t := 0) (i := 0) (v := .ref (B 10 0)) (by omega) rfl rfl ?_
              refine z_aload hY eX7_wrongPoints_79 0 rfl ?_
              refine z_callVr (As := []) (rest := [.ref (B 10 0), z_i (cCu κ ((κ 30 e 0) - 1)), z_i n]) (r := z_i (κ 30 e 0)) hY eX7_wrongPoints_80 (e_points hG hJ hB hV (by omega)) (cH_at (t := 20) (i := e) hJ (by omega)) (by decide) (Nat.le_of_ble_eq_true rfl) ⟨Nat.zero_le _, Nat.zero_le _⟩ ?_
              have hc6 := hS.s30 e 0
              refine z_callVr (As := [z_i (κ 30 e 0)]) (rest := [z_i (cCu κ ((κ 30 e 0) - 1)), z_i n]) (r := z_i (cLw κ (κ 30 e 0))) hY eX7_wrongPoints_83 (p_countBelow hG hJ hB hV (by omega)) (cH_at (t := 10) (i := 0) hJ (by omega)) (by decide) (Nat.le_of_ble_eq_true rfl) ⟨Nat.zero_le _, Nat.zero_le _⟩ ?_
              have hc7 := cLw_b hV (κ 30 e 0)
              refine z_icmpne hY eX7_wrongPoints_86 (by omega) (fun c86 => ?_) (fun c86 => ?_)
              · refine z_const hY eX7_wrongPoints_93 ?_
                refine z_iadd hY eX7_wrongPoints_94 ?_
                refine z_istore hY eX7_wrongPoints_95 (ls' := [(1, z_i (n + 1)), (3, .ref (B 20 e)), (0, .ref (B 0 0)), (2, z_i e)]) rfl ?_
                refine z_iinc hY eX7_wrongPoints_96 3 rfl (ls' := [(2, z_i (e + 1)), (1, z_i (n + 1)), (3, .ref (B 20 e)), (0, .ref (B 0 0))]) rfl ?_
                refine z_goto hY eX7_wrongPoints_99 ?_
                refine z_sub [3, 0, 1] (ls' := [(0, .ref (B 0 0)), (2, z_i (e + 1)), (1, z_i (n + 1))]) rfl ?_
                exact ih4 (e + 1) (n + 1) (by omega) (by omega) (by rw [z_smS (by omega), ← hn]; split <;> omega) (by omega)
              · refine z_const hY eX7_wrongPoints_89 ?_
                refine z_goto hY eX7_wrongPoints_90 ?_
                refine z_iadd hY eX7_wrongPoints_94 ?_
                refine z_top (b := n) (by omega) ?_
                refine z_istore hY eX7_wrongPoints_95 (ls' := [(1, z_i n), (3, .ref (B 20 e)), (0, .ref (B 0 0)), (2, z_i e)]) rfl ?_
                refine z_iinc hY eX7_wrongPoints_96 3 rfl (ls' := [(2, z_i (e + 1)), (1, z_i n), (3, .ref (B 20 e)), (0, .ref (B 0 0))]) rfl ?_
                refine z_goto hY eX7_wrongPoints_99 ?_
                refine z_sub [3, 0, 1] (ls' := [(0, .ref (B 0 0)), (2, z_i (e + 1)), (1, z_i n)]) rfl ?_
                exact ih4 (e + 1) n (by omega) (by omega) (by rw [z_smS (by omega), ← hn]; split <;> omega) (by omega)
  exact lp4 _ 0 0 (Nat.lt_succ_self _) (by omega) (z_sm0 (by omega)).symm (by omega)
theorem c_wrongMedian {G : z_G} {D : Nat} {B : Nat → Int → Nat} {κ : c_K} {h : z_H} (hG : z_OK G) (hJ : cJ B κ) (hB : cB κ) (hV : cV κ) (hS : cS κ) {b : Int} (hb : b = 0 ∨ b = 1) : z_T G mX7_wrongMedian [.ref (B 0 0), z_i b] (cH D B κ h) 5 0 0 (fun v h' => v = some (z_i (cWm κ b)) ∧ h' = cH D B κ h) (z_no) := by
  obtain ⟨hn, hsz, hrw, hcu, htl, hth⟩ := id hV
  have hs0 := hsz 0 (by omega) (by omega)
  have hs1 := hsz 1 (by omega) (by omega)
  have hs2 := hsz 2 (by omega) (by omega)
  have hs3 := hsz 3 (by omega) (by omega)
  refine z_T_of hG pX7_wrongMedian (Nat.le_of_ble_eq_true rfl) (ls0 := [(0, .ref (B 0 0)), (1, z_i b)]) rfl fun Y hY hg hmc hms hφ hψ => ?_
  subst hg
  refine z_aload hY eX7_wrongMedian_0 0 rfl ?_
  refine c_gf hY hJ eX7_wrongMedian_1 (t := 0) (i := 0) (v := .ref (B 9 0)) (by omega) rfl rfl ?_
  refine c_gfN hY hJ eX7_wrongMedian_4 (t := 9) (i := 0) (v := .ref (B 7 1)) (by omega) rfl rfl ?_
  refine z_callVr (As := []) (rest := []) (r := z_i (z_bl (κ 24 1 0 = 0))) hY eX7_wrongMedian_7 (c_isEmpty hG hJ hB hV (by omega)) (cH_at (t := 7) (i := 1) hJ (by omega)) (by decide) (Nat.le_of_ble_eq_true rfl) ⟨Nat.zero_le _, Nat.zero_le _⟩ ?_
  refine z_ifeqb hY eX7_wrongMedian_10 (fun c10 => ?_) (fun c10 => ?_)
  · refine z_aload hY eX7_wrongMedian_15 0 rfl ?_
    refine z_iload hY eX7_wrongMedian_16 1 rfl ?_
    refine z_callVr (As := [z_i b]) (rest := []) (r := z_i (cMp κ b)) hY eX7_wrongMedian_17 (c_medianPlace hG hJ hB hV hS (by omega)) (cH_at (t := 0) (i := 0) hJ (by omega)) (by decide) (Nat.le_of_ble_eq_true rfl) ⟨Nat.zero_le _, Nat.zero_le _⟩ ?_
    have hcm := cMp_b hV b
    refine z_istore hY eX7_wrongMedian_20 (ls' := [(2, z_i (cMp κ b)), (0, .ref (B 0 0)), (1, z_i b)]) rfl ?_
    refine z_aload hY eX7_wrongMedian_21 1 rfl ?_
    refine c_gf hY hJ eX7_wrongMedian_22 (t := 0) (i := 0) (v := .ref (B 10 0)) (by omega) rfl rfl ?_
    refine z_iload hY eX7_wrongMedian_25 0 rfl ?_
    refine z_callVr (As := [z_i (cMp κ b)]) (rest := []) (r := z_i (cAt κ (cMp κ b))) hY eX7_wrongMedian_26 (p_pointsAt hG hJ hB hV (by omega)) (cH_at (t := 10) (i := 0) hJ (by omega)) (by decide) (Nat.le_of_ble_eq_true rfl) ⟨Nat.zero_le _, Nat.zero_le _⟩ ?_
    have hc1 := cAt_b hS (cMp κ b)
    refine z_istore hY eX7_wrongMedian_29 (ls' := [(3, z_i (cAt κ (cMp κ b))), (2, z_i (cMp κ b)), (0, .ref (B 0 0)), (1, z_i b)]) rfl ?_
    refine z_aload hY eX7_wrongMedian_30 2 rfl ?_
    refine z_iload hY eX7_wrongMedian_31 0 rfl ?_
    refine z_callVr (As := [z_i (cAt κ (cMp κ b))]) (rest := []) (r := z_i (cCu κ (cAt κ (cMp κ b)))) hY eX7_wrongMedian_32 (c_countPresentUpTo hG hJ hB hV hS (by omega)) (cH_at (t := 0) (i := 0) hJ (by omega)) (by decide) (Nat.le_of_ble_eq_true rfl) ⟨Nat.zero_le _, Nat.zero_le _⟩ ?_
    have hc32 := cCu_b hV (cAt κ (cMp κ b))
    refine z_iload hY eX7_wrongMedian_35 1 rfl ?_
    refine z_icmplt hY eX7_wrongMedian_36 (by omega) (fun c36 => ?_) (fun c36 => ?_)
    · refine z_const hY eX7_wrongMedian_54 ?_
      exact z_ireturn hY eX7_wrongMedian_55 rfl (by rw [hφ]; first | (exfalso; omega) | exact ⟨congrArg (fun q => some (z_i q)) (by unfold cWm; (repeat' split) <;> omega), rfl⟩) ⟨Nat.zero_le _, Nat.zero_le _⟩
    · refine z_aload hY eX7_wrongMedian_39 2 rfl ?_
      refine z_iload hY eX7_wrongMedian_40 0 rfl ?_
      refine z_const hY eX7_wrongMedian_41 ?_
      refine z_isub hY eX7_wrongMedian_42 ?_
      refine z_callVr (As := [z_i ((cAt κ (cMp κ b)) - 1)]) (rest := []) (r := z_i (cCu κ ((cAt κ (cMp κ b)) - 1))) hY eX7_wrongMedian_43 (c_countPresentUpTo hG hJ hB hV hS (by omega)) (cH_at (t := 0) (i := 0) hJ (by omega)) (by decide) (Nat.le_of_ble_eq_true rfl) ⟨Nat.zero_le _, Nat.zero_le _⟩ ?_
      have hc43 := cCu_b hV ((cAt κ (cMp κ b)) - 1)
      refine z_iload hY eX7_wrongMedian_46 1 rfl ?_
      refine z_icmpge hY eX7_wrongMedian_47 (by omega) (fun c47 => ?_) (fun c47 => ?_)
      · refine z_const hY eX7_wrongMedian_54 ?_
        exact z_ireturn hY eX7_wrongMedian_55 rfl (by rw [hφ]; first | (exfalso; omega) | exact ⟨congrArg (fun q => some (z_i q)) (by unfold cWm; (repeat' split) <;> omega), rfl⟩) ⟨Nat.zero_le _, Nat.zero_le _⟩
      · refine z_const hY eX7_wrongMedian_50 ?_
        refine z_goto hY eX7_wrongMedian_51 ?_
        exact z_ireturn hY eX7_wrongMedian_55 rfl (by rw [hφ]; first | (exfalso; omega) | exact ⟨congrArg (fun q => some (z_i q)) (by unfold cWm; (repeat' split) <;> omega), rfl⟩) ⟨Nat.zero_le _, Nat.zero_le _⟩
  · refine z_const hY eX7_wrongMedian_13 ?_
    exact z_ireturn hY eX7_wrongMedian_14 rfl (by rw [hφ]; first | (exfalso; omega) | exact ⟨congrArg (fun q => some (z_i q)) (by unfold cWm; (repeat' split) <;> omega), rfl⟩) ⟨Nat.zero_le _, Nat.zero_le _⟩
theorem q_errorPosition {G : z_G} {D : Nat} {B : Nat → Int → Nat} {κ : c_K} {h : z_H} (hG : z_OK G) (hJ : cJ B κ) (hB : cB κ) (hV : cV κ) (hS : cS κ)  : z_T G mX7_errorPosition [.ref (B 0 0)] (cH D B κ h) 1 0 0 (fun v h' => v = some (z_i (κ 0 0 0)) ∧ h' = cH D B κ h) (z_no) := by
  obtain ⟨hn, hsz, hrw, hcu, htl, hth⟩ := id hV
  have hs0 := hsz 0 (by omega) (by omega)
  have hs1 := hsz 1 (by omega) (by omega)
  have hs2 := hsz 2 (by omega) (by omega)
  have hs3 := hsz 3 (by omega) (by omega)
  refine z_T_of hG pX7_errorPosition (Nat.le_of_ble_eq_true rfl) (ls0 := [(0, .ref (B 0 0))]) rfl fun Y hY hg hmc hms hφ hψ => ?_
  subst hg
  refine z_aload hY eX7_errorPosition_0 0 rfl ?_
  have hb1 := hS.s0 0 0
  refine c_gf hY hJ eX7_errorPosition_1 (t := 0) (i := 0) (v := z_i (κ 0 0 0)) (by omega) rfl rfl ?_
  exact z_ireturn hY eX7_errorPosition_4 rfl (by rw [hφ]; first | (exfalso; omega) | exact ⟨congrArg (fun q => some (z_i q)) (by first | rfl | omega), rfl⟩) ⟨Nat.zero_le _, Nat.zero_le _⟩
theorem q_criterion {G : z_G} {D : Nat} {B : Nat → Int → Nat} {κ : c_K} {h : z_H} (hG : z_OK G) (hJ : cJ B κ) (hB : cB κ) (hV : cV κ) (hS : cS κ) {e k : Int} (hre : -2147483648 ≤ e ∧ e ≤ 2147483647) (hrk : -2147483648 ≤ k ∧ k ≤ 2147483647) : z_T G mX7_criterion [.ref (B 0 0), z_i e, z_i k] (cH D B κ h) 5 2 12 (fun v h' => ((0 ≤ e ∧ e < κ 24 0 0 ∧ κ 36 e 0 ≠ 0) ∧ 0 ≤ k ∧ k < κ 16 (κ 17 0 0) 0) ∧ v = some (z_i (cVl κ (κ 17 0 0) e k)) ∧ h' = cH D B κ h) (fun E h' => h' = cH D B κ h ∧ ((E = "java/lang/IndexOutOfBoundsException" ∧ ¬ (0 ≤ e ∧ e < κ 24 0 0 ∧ κ 36 e 0 ≠ 0)) ∨ (E = "java/lang/IllegalArgumentException" ∧ (0 ≤ e ∧ e < κ 24 0 0 ∧ κ 36 e 0 ≠ 0) ∧ ¬ (0 ≤ k ∧ k < κ 16 (κ 17 0 0) 0)))) := by
  obtain ⟨hn, hsz, hrw, hcu, htl, hth⟩ := id hV
  have hs0 := hsz 0 (by omega) (by omega)
  have hs1 := hsz 1 (by omega) (by omega)
  have hs2 := hsz 2 (by omega) (by omega)
  have hs3 := hsz 3 (by omega) (by omega)
  refine z_T_of hG pX7_criterion (Nat.le_of_ble_eq_true rfl) (ls0 := [(0, .ref (B 0 0)), (1, z_i e), (2, z_i k)]) rfl fun Y hY hg hmc hms hφ hψ => ?_
  subst hg
  refine z_aload hY eX7_criterion_0 0 rfl ?_
  refine z_iload hY eX7_criterion_1 1 rfl ?_
  refine z_callV (As := [z_i e]) (rest := []) hY eX7_criterion_2 (c_presentOne hG hJ hB hV hS (by omega)) (cH_at (t := 0) (i := 0) hJ (by omega)) (by decide) (Nat.le_of_ble_eq_true rfl) (by rw [hmc, hms]; omega) (fun E' h1 q => by obtain ⟨rfl, q⟩ := q; rw [hψ]; refine ⟨rfl, ?_⟩; obtain ⟨rfl, q⟩ := q <;> (first | exact ⟨rfl, by omega⟩ | exact Or.inl ⟨rfl, by omega⟩ | exact Or.inr ⟨rfl, by omega⟩ | exact Or.inr (Or.inl ⟨rfl, by omega⟩) | exact Or.inr (Or.inr ⟨rfl, by omega⟩))) (fun vv1 hh1 q1 => ?_)
  obtain ⟨hq1, rfl, rfl⟩ := q1
  refine z_astore hY eX7_criterion_5 (ls' := [(3, .ref (B 20 e)), (0, .ref (B 0 0)), (1, z_i e), (2, z_i k)]) rfl ?_
  refine z_iload hY eX7_criterion_6 3 rfl ?_
  refine z_iflt hY eX7_criterion_7 (by omega) (fun c7 => ?_) (fun c7 => ?_)
  · exact z_thr hY xX7_criterion_21 (by rw [hmc, hms]; omega) (by rw [hψ]; refine ⟨rfl, ?_⟩; first | exact ⟨rfl, by omega⟩ | exact Or.inl ⟨rfl, by omega⟩ | exact Or.inr ⟨rfl, by omega⟩ | exact Or.inr (Or.inl ⟨rfl, by omega⟩) | exact Or.inr (Or.inr ⟨rfl, by omega⟩))
  · refine z_iload hY eX7_criterion_10 3 rfl ?_
    refine z_aload hY eX7_criterion_11 1 rfl ?_
    have hb2 := hS.s17 0 0
    refine c_gf hY hJ eX7_criterion_12 (t := 0) (i := 0) (v := .ref (B 4 (κ 17 0 0))) (by omega) rfl rfl ?_
    have hb3 := hS.s16 (κ 17 0 0) 0
    refine c_gf hY hJ eX7_criterion_15 (t := 4) (i := (κ 17 0 0)) (v := z_i (κ 16 (κ 17 0 0) 0)) (by omega) rfl rfl ?_
    refine z_icmplt hY eX7_criterion_18 (by omega) (fun c18 => ?_) (fun c18 => ?_)
    · refine z_aload hY eX7_criterion_31 1 rfl ?_
      refine c_gf hY hJ eX7_criterion_32 (t := 0) (i := 0) (v := .ref (B 4 (κ 17 0 0))) (by omega) rfl rfl ?_
      refine z_aload hY eX7_criterion_35 0 rfl ?_
      refine z_iload hY eX7_criterion_36 3 rfl ?_
      refine z_callVr (As := [.ref (B 20 e), z_i k]) (rest := []) (r := z_i (cVl κ (κ 17 0 0) e k)) hY eX7_criterion_37 (o_valueFor hG hJ hB hV (by omega) (by omega) (by omega)) (cH_at (t := 4) (i := (κ 17 0 0)) hJ (by omega)) (by decide) (Nat.le_of_ble_eq_true rfl) (by rw [hmc, hms]; omega) ?_
      exact z_ireturn hY eX7_criterion_40 rfl (by rw [hφ]; first | (exfalso; omega) | exact ⟨by omega, congrArg (fun q => some (z_i q)) (by first | rfl | omega), rfl⟩) (by rw [hmc, hms]; omega)
    · exact z_thr hY xX7_criterion_21 (by rw [hmc, hms]; omega) (by rw [hψ]; refine ⟨rfl, ?_⟩; first | exact ⟨rfl, by omega⟩ | exact Or.inl ⟨rfl, by omega⟩ | exact Or.inr ⟨rfl, by omega⟩ | exact Or.inr (Or.inl ⟨rfl, by omega⟩) | exact Or.inr (Or.inr ⟨rfl, by omega⟩))
theorem q_scoreOf {G : z_G} {D : Nat} {B : Nat → Int → Nat} {κ : c_K} {h : z_H} (hG : z_OK G) (hJ : cJ B κ) (hB : cB κ) (hV : cV κ) (hS : cS κ) {e k : Int} (hre : -2147483648 ≤ e ∧ e ≤ 2147483647) (hrk : -2147483648 ≤ k ∧ k ≤ 2147483647) : z_T G mX7_scoreOf [.ref (B 0 0), z_i e, z_i k] (cH D B κ h) 5 2 12 (fun v h' => ((0 ≤ e ∧ e < κ 24 0 0 ∧ κ 36 e 0 ≠ 0) ∧ 0 ≤ k ∧ k ≤ 3) ∧ v = some (z_i (κ 30 e k)) ∧ h' = cH D B κ h) (fun E h' => h' = cH D B κ h ∧ ((E = "java/lang/IndexOutOfBoundsException" ∧ ¬ (0 ≤ e ∧ e < κ 24 0 0 ∧ κ 36 e 0 ≠ 0)) ∨ (E = "java/lang/IllegalArgumentException" ∧ (0 ≤ e ∧ e < κ 24 0 0 ∧ κ 36 e 0 ≠ 0) ∧ ¬ (0 ≤ k ∧ k ≤ 3)))) := by
  obtain ⟨hn, hsz, hrw, hcu, htl, hth⟩ := id hV
  have hs0 := hsz 0 (by omega) (by omega)
  have hs1 := hsz 1 (by omega) (by omega)
  have hs2 := hsz 2 (by omega) (by omega)
  have hs3 := hsz 3 (by omega) (by omega)
  refine z_T_of hG pX7_scoreOf (Nat.le_of_ble_eq_true rfl) (ls0 := [(0, .ref (B 0 0)), (1, z_i e), (2, z_i k)]) rfl fun Y hY hg hmc hms hφ hψ => ?_
  subst hg
  refine z_aload hY eX7_scoreOf_0 0 rfl ?_
  refine z_iload hY eX7_scoreOf_1 1 rfl ?_
  refine z_callV (As := [z_i e]) (rest := []) hY eX7_scoreOf_2 (c_presentOne hG hJ hB hV hS (by omega)) (cH_at (t := 0) (i := 0) hJ (by omega)) (by decide) (Nat.le_of_ble_eq_true rfl) (by rw [hmc, hms]; omega) (fun E' h1 q => by obtain ⟨rfl, q⟩ := q; rw [hψ]; refine ⟨rfl, ?_⟩; obtain ⟨rfl, q⟩ := q <;> (first | exact ⟨rfl, by omega⟩ | exact Or.inl ⟨rfl, by omega⟩ | exact Or.inr ⟨rfl, by omega⟩ | exact Or.inr (Or.inl ⟨rfl, by omega⟩) | exact Or.inr (Or.inr ⟨rfl, by omega⟩))) (fun vv1 hh1 q1 => ?_)
  obtain ⟨hq1, rfl, rfl⟩ := q1
  refine z_astore hY eX7_scoreOf_5 (ls' := [(3, .ref (B 20 e)), (0, .ref (B 0 0)), (1, z_i e), (2, z_i k)]) rfl ?_
  refine z_aload hY eX7_scoreOf_6 1 rfl ?_
  refine z_iload hY eX7_scoreOf_7 3 rfl ?_
  refine z_callV (As := [z_i k]) (rest := []) hY eX7_scoreOf_8 (c_checkKind hG hJ hB hV hS (by omega)) (cH_at (t := 0) (i := 0) hJ (by omega)) (by decide) (Nat.le_of_ble_eq_true rfl) (by rw [hmc, hms]; omega) (fun E' h1 q => by obtain ⟨rfl, q⟩ := q; rw [hψ]; refine ⟨rfl, ?_⟩; obtain ⟨rfl, q⟩ := q <;> (first | exact ⟨rfl, by omega⟩ | exact Or.inl ⟨rfl, by omega⟩ | exact Or.inr ⟨rfl, by omega⟩ | exact Or.inr (Or.inl ⟨rfl, by omega⟩) | exact Or.inr (Or.inr ⟨rfl, by omega⟩))) (fun vv2 hh2 q2 => ?_)
  obtain ⟨hq2, rfl, rfl⟩ := q2
  refine z_aload hY eX7_scoreOf_11 0 rfl ?_
  refine z_iload hY eX7_scoreOf_12 3 rfl ?_
  refine z_callVr (As := [z_i k]) (rest := []) (r := z_i (κ 30 e k)) hY eX7_scoreOf_13 (e_scoreIn4 hG hJ hB hV (by omega) (by omega)) (cH_at (t := 20) (i := e) hJ (by omega)) (by decide) (Nat.le_of_ble_eq_true rfl) (by rw [hmc, hms]; omega) ?_
  have hc3 := hS.s30 e k
  exact z_ireturn hY eX7_scoreOf_16 rfl (by rw [hφ]; first | (exfalso; omega) | exact ⟨by omega, congrArg (fun q => some (z_i q)) (by first | rfl | omega), rfl⟩) (by rw [hmc, hms]; omega)
theorem q_groupOf {G : z_G} {D : Nat} {B : Nat → Int → Nat} {κ : c_K} {h : z_H} (hG : z_OK G) (hJ : cJ B κ) (hB : cB κ) (hV : cV κ) (hS : cS κ) {e : Int} (hre : -2147483648 ≤ e ∧ e ≤ 2147483647) : z_T G mX7_groupOf [.ref (B 0 0), z_i e] (cH D B κ h) 5 1 6 (fun v h' => ((0 ≤ e ∧ e < κ 24 0 0 ∧ κ 36 e 0 ≠ 0)) ∧ v = some (z_i (κ 35 e 0)) ∧ h' = cH D B κ h) (fun E h' => h' = cH D B κ h ∧ ((E = "java/lang/IndexOutOfBoundsException" ∧ ¬ (0 ≤ e ∧ e < κ 24 0 0 ∧ κ 36 e 0 ≠ 0)))) := by
  obtain ⟨hn, hsz, hrw, hcu, htl, hth⟩ := id hV
  have hs0 := hsz 0 (by omega) (by omega)
  have hs1 := hsz 1 (by omega) (by omega)
  have hs2 := hsz 2 (by omega) (by omega)
  have hs3 := hsz 3 (by omega) (by omega)
  refine z_T_of hG pX7_groupOf (Nat.le_of_ble_eq_true rfl) (ls0 := [(0, .ref (B 0 0)), (1, z_i e)]) rfl fun Y hY hg hmc hms hφ hψ => ?_
  subst hg
  refine z_aload hY eX7_groupOf_0 0 rfl ?_
  refine z_iload hY eX7_groupOf_1 1 rfl ?_
  refine z_callV (As := [z_i e]) (rest := []) hY eX7_groupOf_2 (c_presentOne hG hJ hB hV hS (by omega)) (cH_at (t := 0) (i := 0) hJ (by omega)) (by decide) (Nat.le_of_ble_eq_true rfl) (by rw [hmc, hms]; omega) (fun E' h1 q => by obtain ⟨rfl, q⟩ := q; rw [hψ]; refine ⟨rfl, ?_⟩; obtain ⟨rfl, q⟩ := q <;> (first | exact ⟨rfl, by omega⟩ | exact Or.inl ⟨rfl, by omega⟩ | exact Or.inr ⟨rfl, by omega⟩ | exact Or.inr (Or.inl ⟨rfl, by omega⟩) | exact Or.inr (Or.inr ⟨rfl, by omega⟩))) (fun vv1 hh1 q1 => ?_)
  obtain ⟨hq1, rfl, rfl⟩ := q1
  have hb2 := hS.s35 e 0
  refine c_gfN hY hJ eX7_groupOf_5 (t := 20) (i := e) (v := z_i (κ 35 e 0)) (by omega) rfl rfl ?_
  exact z_ireturn hY eX7_groupOf_8 rfl (by rw [hφ]; first | (exfalso; omega) | exact ⟨by omega, congrArg (fun q => some (z_i q)) (by first | rfl | omega), rfl⟩) (by rw [hmc, hms]; omega)
theorem q_entrants {G : z_G} {D : Nat} {B : Nat → Int → Nat} {κ : c_K} {h : z_H} (hG : z_OK G) (hJ : cJ B κ) (hB : cB κ) (hV : cV κ) (hS : cS κ)  : z_T G mX7_entrants [.ref (B 0 0)] (cH D B κ h) 1 0 0 (fun v h' => v = some (z_i (κ 24 1 0)) ∧ h' = cH D B κ h) (z_no) := by
  obtain ⟨hn, hsz, hrw, hcu, htl, hth⟩ := id hV
  have hs0 := hsz 0 (by omega) (by omega)
  have hs1 := hsz 1 (by omega) (by omega)
  have hs2 := hsz 2 (by omega) (by omega)
  have hs3 := hsz 3 (by omega) (by omega)
  refine z_T_of hG pX7_entrants (Nat.le_of_ble_eq_true rfl) (ls0 := [(0, .ref (B 0 0))]) rfl fun Y hY hg hmc hms hφ hψ => ?_
  subst hg
  refine z_aload hY eX7_entrants_0 0 rfl ?_
  refine c_gf hY hJ eX7_entrants_1 (t := 0) (i := 0) (v := .ref (B 9 0)) (by omega) rfl rfl ?_
  refine c_gfN hY hJ eX7_entrants_4 (t := 9) (i := 0) (v := .ref (B 7 1)) (by omega) rfl rfl ?_
  refine z_callVr (As := []) (rest := []) (r := z_i (κ 24 1 0)) hY eX7_entrants_7 (c_size hG hJ hB hV (by omega)) (cH_at (t := 7) (i := 1) hJ (by omega)) (by decide) (Nat.le_of_ble_eq_true rfl) ⟨Nat.zero_le _, Nat.zero_le _⟩ ?_
  exact z_ireturn hY eX7_entrants_10 rfl (by rw [hφ]; first | (exfalso; omega) | exact ⟨congrArg (fun q => some (z_i q)) (by first | rfl | omega), rfl⟩) ⟨Nat.zero_le _, Nat.zero_le _⟩
theorem q_at {G : z_G} {D : Nat} {B : Nat → Int → Nat} {κ : c_K} {h : z_H} (hG : z_OK G) (hJ : cJ B κ) (hB : cB κ) (hV : cV κ) (hS : cS κ) {p : Int} (hrp : -2147483648 ≤ p ∧ p ≤ 2147483647) : z_T G mX7_at [.ref (B 0 0), z_i p] (cH D B κ h) 3 1 6 (fun v h' => (1 ≤ p ∧ p ≤ κ 24 1 0) ∧ v = some (z_i (κ 34 (κ 20 1 (p - 1)) 0)) ∧ h' = cH D B κ h) (fun E h' => h' = cH D B κ h ∧ ((E = "java/lang/IndexOutOfBoundsException" ∧ ¬ (1 ≤ p ∧ p ≤ κ 24 1 0)))) := by
  obtain ⟨hn, hsz, hrw, hcu, htl, hth⟩ := id hV
  have hs0 := hsz 0 (by omega) (by omega)
  have hs1 := hsz 1 (by omega) (by omega)
  have hs2 := hsz 2 (by omega) (by omega)
  have hs3 := hsz 3 (by omega) (by omega)
  refine z_T_of hG pX7_at (Nat.le_of_ble_eq_true rfl) (ls0 := [(0, .ref (B 0 0)), (1, z_i p)]) rfl fun Y hY hg hmc hms hφ hψ => ?_
  subst hg
  refine z_iload hY eX7_at_0 1 rfl ?_
  refine z_const hY eX7_at_1 ?_
  refine z_icmplt hY eX7_at_2 (by omega) (fun c2 => ?_) (fun c2 => ?_)
  · exact z_thr hY xX7_at_19 (by rw [hmc, hms]; omega) (by rw [hψ]; refine ⟨rfl, ?_⟩; first | exact ⟨rfl, by omega⟩ | exact Or.inl ⟨rfl, by omega⟩ | exact Or.inr ⟨rfl, by omega⟩ | exact Or.inr (Or.inl ⟨rfl, by omega⟩) | exact Or.inr (Or.inr ⟨rfl, by omega⟩))
  · refine z_iload hY eX7_at_5 1 rfl ?_
    refine z_aload hY eX7_at_6 0 rfl ?_
    refine c_gf hY hJ eX7_at_7 (t := 0) (i := 0) (v := .ref (B 9 0)) (by omega) rfl rfl ?_
    refine c_gfN hY hJ eX7_at_10 (t := 9) (i := 0) (v := .ref (B 7 1)) (by omega) rfl rfl ?_
    refine z_callVr (As := []) (rest := [z_i p]) (r := z_i (κ 24 1 0)) hY eX7_at_13 (c_size hG hJ hB hV (by omega)) (cH_at (t := 7) (i := 1) hJ (by omega)) (by decide) (Nat.le_of_ble_eq_true rfl) ⟨Nat.zero_le _, Nat.zero_le _⟩ ?_
    refine z_icmple hY eX7_at_16 (by omega) (fun c16 => ?_) (fun c16 => ?_)
    · refine z_aload hY eX7_at_29 0 rfl ?_
      refine c_gf hY hJ eX7_at_30 (t := 0) (i := 0) (v := .ref (B 9 0)) (by omega) rfl rfl ?_
      refine c_gfN hY hJ eX7_at_33 (t := 9) (i := 0) (v := .ref (B 7 1)) (by omega) rfl rfl ?_
      refine z_iload hY eX7_at_36 1 rfl ?_
      refine z_const hY eX7_at_37 ?_
      refine z_isub hY eX7_at_38 ?_
      refine z_callVr (As := [z_i (p - 1)]) (rest := []) (r := .ref (B 20 (κ 20 1 (p - 1)))) hY eX7_at_39 (c_get hG hJ hB hV (by omega) (by omega)) (cH_at (t := 7) (i := 1) hJ (by omega)) (by decide) (Nat.le_of_ble_eq_true rfl) ⟨Nat.zero_le _, Nat.zero_le _⟩ ?_
      have hc1 := hrw 1 (p - 1) (by omega) (by omega) (by omega) (by omega)
      refine z_cast hY eX7_at_42 (ci := 0) (nm := "StandingsHall$Entrant") (T := TX0) (N := 11) rfl (cH_at (t := 20) (i := (κ 20 1 (p - 1))) hJ (by omega)) ?_
      have hb2 := hS.s34 (κ 20 1 (p - 1)) 0
      refine c_gf hY hJ eX7_at_45 (t := 20) (i := (κ 20 1 (p - 1))) (v := z_i (κ 34 (κ 20 1 (p - 1)) 0)) (by omega) rfl rfl ?_
      exact z_ireturn hY eX7_at_48 rfl (by rw [hφ]; first | (exfalso; omega) | exact ⟨by omega, congrArg (fun q => some (z_i q)) (by first | rfl | omega), rfl⟩) ⟨Nat.zero_le _, Nat.zero_le _⟩
    · exact z_thr hY xX7_at_19 (by rw [hmc, hms]; omega) (by rw [hψ]; refine ⟨rfl, ?_⟩; first | exact ⟨rfl, by omega⟩ | exact Or.inl ⟨rfl, by omega⟩ | exact Or.inr ⟨rfl, by omega⟩ | exact Or.inr (Or.inl ⟨rfl, by omega⟩) | exact Or.inr (Or.inr ⟨rfl, by omega⟩))
theorem q_place {G : z_G} {D : Nat} {B : Nat → Int → Nat} {κ : c_K} {h : z_H} (hG : z_OK G) (hJ : cJ B κ) (hB : cB κ) (hV : cV κ) (hS : cS κ) {e : Int} (hre : -2147483648 ≤ e ∧ e ≤ 2147483647) : z_T G mX7_place [.ref (B 0 0), z_i e] (cH D B κ h) 5 1 6 (fun v h' => ((0 ≤ e ∧ e < κ 24 0 0 ∧ κ 36 e 0 ≠ 0)) ∧ v = some (z_i (κ 37 e 0)) ∧ h' = cH D B κ h) (fun E h' => h' = cH D B κ h ∧ ((E = "java/lang/IndexOutOfBoundsException" ∧ ¬ (0 ≤ e ∧ e < κ 24 0 0 ∧ κ 36 e 0 ≠ 0)))) := by
  obtain ⟨hn, hsz, hrw, hcu, htl, hth⟩ := id hV
  have hs0 := hsz 0 (by omega) (by omega)
  have hs1 := hsz 1 (by omega) (by omega)
  have hs2 := hsz 2 (by omega) (by omega)
  have hs3 := hsz 3 (by omega) (by omega)
  refine z_T_of hG pX7_place (Nat.le_of_ble_eq_true rfl) (ls0 := [(0, .ref (B 0 0)), (1, z_i e)]) rfl fun Y hY hg hmc hms hφ hψ => ?_
  subst hg
  refine z_aload hY eX7_place_0 0 rfl ?_
  refine z_iload hY eX7_place_1 1 rfl ?_
  refine z_callV (As := [z_i e]) (rest := []) hY eX7_place_2 (c_presentOne hG hJ hB hV hS (by omega)) (cH_at (t := 0) (i := 0) hJ (by omega)) (by decide) (Nat.le_of_ble_eq_true rfl) (by rw [hmc, hms]; omega) (fun E' h1 q => by obtain ⟨rfl, q⟩ := q; rw [hψ]; refine ⟨rfl, ?_⟩; obtain ⟨rfl, q⟩ := q <;> (first | exact ⟨rfl, by omega⟩ | exact Or.inl ⟨rfl, by omega⟩ | exact Or.inr ⟨rfl, by omega⟩ | exact Or.inr (Or.inl ⟨rfl, by omega⟩) | exact Or.inr (Or.inr ⟨rfl, by omega⟩))) (fun vv1 hh1 q1 => ?_)
  obtain ⟨hq1, rfl, rfl⟩ := q1
  have hb2 := hS.s37 e 0
  refine c_gf hY hJ eX7_place_5 (t := 20) (i := e) (v := z_i (κ 37 e 0)) (by omega) rfl rfl ?_
  exact z_ireturn hY eX7_place_8 rfl (by rw [hφ]; first | (exfalso; omega) | exact ⟨by omega, congrArg (fun q => some (z_i q)) (by first | rfl | omega), rfl⟩) (by rw [hmc, hms]; omega)
theorem q_rank {G : z_G} {D : Nat} {B : Nat → Int → Nat} {κ : c_K} {h : z_H} (hG : z_OK G) (hJ : cJ B κ) (hB : cB κ) (hV : cV κ) (hS : cS κ) {e s : Int} (hre : -2147483648 ≤ e ∧ e ≤ 2147483647) (hrs : -2147483648 ≤ s ∧ s ≤ 2147483647) : z_T G mX7_rank [.ref (B 0 0), z_i e, z_i s] (cH D B κ h) 6 2 12 (fun v h' => ((0 ≤ e ∧ e < κ 24 0 0 ∧ κ 36 e 0 ≠ 0) ∧ 0 ≤ s ∧ s ≤ 2) ∧ v = some (z_i (if s = 0 then sRk κ e else if s = 1 then cDn κ e else 2 * sRk κ e + cAl κ e - 1)) ∧ h' = cH D B κ h) (fun E h' => h' = cH D B κ h ∧ ((E = "java/lang/IndexOutOfBoundsException" ∧ ¬ (0 ≤ e ∧ e < κ 24 0 0 ∧ κ 36 e 0 ≠ 0)) ∨ (E = "java/lang/IllegalArgumentException" ∧ (0 ≤ e ∧ e < κ 24 0 0 ∧ κ 36 e 0 ≠ 0) ∧ ¬ (0 ≤ s ∧ s ≤ 2)))) := by
  obtain ⟨hn, hsz, hrw, hcu, htl, hth⟩ := id hV
  have hs0 := hsz 0 (by omega) (by omega)
  have hs1 := hsz 1 (by omega) (by omega)
  have hs2 := hsz 2 (by omega) (by omega)
  have hs3 := hsz 3 (by omega) (by omega)
  refine z_T_of hG pX7_rank (Nat.le_of_ble_eq_true rfl) (ls0 := [(0, .ref (B 0 0)), (1, z_i e), (2, z_i s)]) rfl fun Y hY hg hmc hms hφ hψ => ?_
  subst hg
  refine z_aload hY eX7_rank_0 0 rfl ?_
  refine z_iload hY eX7_rank_1 1 rfl ?_
  refine z_callV (As := [z_i e]) (rest := []) hY eX7_rank_2 (c_presentOne hG hJ hB hV hS (by omega)) (cH_at (t := 0) (i := 0) hJ (by omega)) (by decide) (Nat.le_of_ble_eq_true rfl) (by rw [hmc, hms]; omega) (fun E' h1 q => by obtain ⟨rfl, q⟩ := q; rw [hψ]; refine ⟨rfl, ?_⟩; obtain ⟨rfl, q⟩ := q <;> (first | exact ⟨rfl, by omega⟩ | exact Or.inl ⟨rfl, by omega⟩ | exact Or.inr ⟨rfl, by omega⟩ | exact Or.inr (Or.inl ⟨rfl, by omega⟩) | exact Or.inr (Or.inr ⟨rfl, by omega⟩))) (fun vv1 hh1 q1 => ?_)
  obtain ⟨hq1, rfl, rfl⟩ := q1
  refine z_astore hY eX7_rank_5 (ls' := [(3, .ref (B 20 e)), (0, .ref (B 0 0)), (1, z_i e), (2, z_i s)]) rfl ?_
  refine z_iload hY eX7_rank_6 3 rfl ?_
  refine z_iflt hY eX7_rank_7 (by omega) (fun c7 => ?_) (fun c7 => ?_)
  · exact z_thr hY xX7_rank_15 (by rw [hmc, hms]; omega) (by rw [hψ]; refine ⟨rfl, ?_⟩; first | exact ⟨rfl, by omega⟩ | exact Or.inl ⟨rfl, by omega⟩ | exact Or.inr ⟨rfl, by omega⟩ | exact Or.inr (Or.inl ⟨rfl, by omega⟩) | exact Or.inr (Or.inr ⟨rfl, by omega⟩))
  · refine z_iload hY eX7_rank_10 3 rfl ?_
    refine z_const hY eX7_rank_11 ?_
    refine z_icmple hY eX7_rank_12 (by omega) (fun c12 => ?_) (fun c12 => ?_)
    · refine z_iload hY eX7_rank_25 3 rfl ?_
      refine z_ifne hY eX7_rank_26 (by omega) (fun c26 => ?_) (fun c26 => ?_)
      · refine z_iload hY eX7_rank_38 3 rfl ?_
        refine z_const hY eX7_rank_39 ?_
        refine z_icmpne hY eX7_rank_40 (by omega) (fun c40 => ?_) (fun c40 => ?_)
        · refine z_aload hY eX7_rank_54 1 rfl ?_
          refine c_gf hY hJ eX7_rank_55 (t := 0) (i := 0) (v := .ref (B 9 0)) (by omega) rfl rfl ?_
          refine z_aload hY eX7_rank_58 0 rfl ?_
          refine z_callVr (As := [.ref (B 20 e)]) (rest := []) (r := z_i (2 * (sRk κ e) + (cAl κ e) - 1)) hY eX7_rank_59 (s_twiceMeanRank hG hJ hB hV (by omega)) (cH_at (t := 9) (i := 0) hJ (by omega)) (by decide) (Nat.le_of_ble_eq_true rfl) (by rw [hmc, hms]; omega) ?_
          have hc2 := sRk_b hV e
          have hc3 := cAl_b hV e
          exact z_ireturn hY eX7_rank_62 rfl (by rw [hφ]; first | (exfalso; omega) | exact ⟨by omega, congrArg (fun q => some (z_i q)) (by (repeat' split) <;> omega), rfl⟩) (by rw [hmc, hms]; omega)
        · refine z_aload hY eX7_rank_43 1 rfl ?_
          refine c_gf hY hJ eX7_rank_44 (t := 0) (i := 0) (v := .ref (B 9 0)) (by omega) rfl rfl ?_
          refine z_aload hY eX7_rank_47 0 rfl ?_
          refine z_callVr (As := [.ref (B 20 e)]) (rest := []) (r := z_i (cDn κ e)) hY eX7_rank_48 (s_denseRank hG hJ hB hV (by omega)) (cH_at (t := 9) (i := 0) hJ (by omega)) (by decide) (Nat.le_of_ble_eq_true rfl) (by rw [hmc, hms]; omega) ?_
          refine z_goto hY eX7_rank_51 ?_
          exact z_ireturn hY eX7_rank_62 rfl (by rw [hφ]; first | (exfalso; omega) | exact ⟨by omega, congrArg (fun q => some (z_i q)) (by (repeat' split) <;> omega), rfl⟩) (by rw [hmc, hms]; omega)
      · refine z_aload hY eX7_rank_29 1 rfl ?_
        refine c_gf hY hJ eX7_rank_30 (t := 0) (i := 0) (v := .ref (B 9 0)) (by omega) rfl rfl ?_
        refine z_aload hY eX7_rank_33 0 rfl ?_
        refine z_callVr (As := [.ref (B 20 e)]) (rest := []) (r := z_i (sRk κ e)) hY eX7_rank_34 (s_sharedRank hG hJ hB hV (by omega)) (cH_at (t := 9) (i := 0) hJ (by omega)) (by decide) (Nat.le_of_ble_eq_true rfl) (by rw [hmc, hms]; omega) ?_
        have hc4 := sRk_b hV e
        exact z_ireturn hY eX7_rank_37 rfl (by rw [hφ]; first | (exfalso; omega) | exact ⟨by omega, congrArg (fun q => some (z_i q)) (by (repeat' split) <;> omega), rfl⟩) (by rw [hmc, hms]; omega)
    · exact z_thr hY xX7_rank_15 (by rw [hmc, hms]; omega) (by rw [hψ]; refine ⟨rfl, ?_⟩; first | exact ⟨rfl, by omega⟩ | exact Or.inl ⟨rfl, by omega⟩ | exact Or.inr ⟨rfl, by omega⟩ | exact Or.inr (Or.inl ⟨rfl, by omega⟩) | exact Or.inr (Or.inr ⟨rfl, by omega⟩))
theorem q_alike {G : z_G} {D : Nat} {B : Nat → Int → Nat} {κ : c_K} {h : z_H} (hG : z_OK G) (hJ : cJ B κ) (hB : cB κ) (hV : cV κ) (hS : cS κ) {e : Int} (hre : -2147483648 ≤ e ∧ e ≤ 2147483647) : z_T G mX7_alike [.ref (B 0 0), z_i e] (cH D B κ h) 5 1 6 (fun v h' => ((0 ≤ e ∧ e < κ 24 0 0 ∧ κ 36 e 0 ≠ 0)) ∧ v = some (z_i (cAl κ e)) ∧ h' = cH D B κ h) (fun E h' => h' = cH D B κ h ∧ ((E = "java/lang/IndexOutOfBoundsException" ∧ ¬ (0 ≤ e ∧ e < κ 24 0 0 ∧ κ 36 e 0 ≠ 0)))) := by
  obtain ⟨hn, hsz, hrw, hcu, htl, hth⟩ := id hV
  have hs0 := hsz 0 (by omega) (by omega)
  have hs1 := hsz 1 (by omega) (by omega)
  have hs2 := hsz 2 (by omega) (by omega)
  have hs3 := hsz 3 (by omega) (by omega)
  refine z_T_of hG pX7_alike (Nat.le_of_ble_eq_true rfl) (ls0 := [(0, .ref (B 0 0)), (1, z_i e)]) rfl fun Y hY hg hmc hms hφ hψ => ?_
  subst hg
  refine z_aload hY eX7_alike_0 0 rfl ?_
  refine c_gf hY hJ eX7_alike_1 (t := 0) (i := 0) (v := .ref (B 9 0)) (by omega) rfl rfl ?_
  refine z_aload hY eX7_alike_4 0 rfl ?_
  refine z_iload hY eX7_alike_5 1 rfl ?_
  refine z_callV (As := [z_i e]) (rest := [.ref (B 9 0)]) hY eX7_alike_6 (c_presentOne hG hJ hB hV hS (by omega)) (cH_at (t := 0) (i := 0) hJ (by omega)) (by decide) (Nat.le_of_ble_eq_true rfl) (by rw [hmc, hms]; omega) (fun E' h1 q => by obtain ⟨rfl, q⟩ := q; rw [hψ]; refine ⟨rfl, ?_⟩; obtain ⟨rfl, q⟩ := q <;> (first | exact ⟨rfl, by omega⟩ | exact Or.inl ⟨rfl, by omega⟩ | exact Or.inr ⟨rfl, by omega⟩ | exact Or.inr (Or.inl ⟨rfl, by omega⟩) | exact Or.inr (Or.inr ⟨rfl, by omega⟩))) (fun vv1 hh1 q1 => ?_)
  obtain ⟨hq1, rfl, rfl⟩ := q1
  refine z_callVr (As := [.ref (B 20 e)]) (rest := []) (r := z_i (cAl κ e)) hY eX7_alike_9 (s_countAlike hG hJ hB hV (by omega)) (cH_at (t := 9) (i := 0) hJ (by omega)) (by decide) (Nat.le_of_ble_eq_true rfl) (by rw [hmc, hms]; omega) ?_
  have hc2 := cAl_b hV e
  exact z_ireturn hY eX7_alike_12 rfl (by rw [hφ]; first | (exfalso; omega) | exact ⟨by omega, congrArg (fun q => some (z_i q)) (by first | rfl | omega), rfl⟩) (by rw [hmc, hms]; omega)
theorem q_results {G : z_G} {D : Nat} {B : Nat → Int → Nat} {κ : c_K} {h : z_H} (hG : z_OK G) (hJ : cJ B κ) (hB : cB κ) (hV : cV κ) (hS : cS κ)  : z_T G mX7_results [.ref (B 0 0)] (cH D B κ h) 5 0 0 (fun v h' => v = some (z_i (cRe κ)) ∧ h' = cH D B κ h) (z_no) := by
  obtain ⟨hn, hsz, hrw, hcu, htl, hth⟩ := id hV
  have hs0 := hsz 0 (by omega) (by omega)
  have hs1 := hsz 1 (by omega) (by omega)
  have hs2 := hsz 2 (by omega) (by omega)
  have hs3 := hsz 3 (by omega) (by omega)
  refine z_T_of hG pX7_results (Nat.le_of_ble_eq_true rfl) (ls0 := [(0, .ref (B 0 0))]) rfl fun Y hY hg hmc hms hφ hψ => ?_
  subst hg
  refine z_aload hY eX7_results_0 0 rfl ?_
  refine c_gf hY hJ eX7_results_1 (t := 0) (i := 0) (v := .ref (B 9 0)) (by omega) rfl rfl ?_
  refine z_callVr (As := []) (rest := []) (r := z_i (cRe κ)) hY eX7_results_4 (s_countResults hG hJ hB hV ) (cH_at (t := 9) (i := 0) hJ (by omega)) (by decide) (Nat.le_of_ble_eq_true rfl) ⟨Nat.zero_le _, Nat.zero_le _⟩ ?_
  exact z_ireturn hY eX7_results_7 rfl (by rw [hφ]; first | (exfalso; omega) | exact ⟨congrArg (fun q => some (z_i q)) (by first | rfl | omega), rfl⟩) ⟨Nat.zero_le _, Nat.zero_le _⟩
theorem q_rankSum {G : z_G} {D : Nat} {B : Nat → Int → Nat} {κ : c_K} {h : z_H} (hG : z_OK G) (hJ : cJ B κ) (hB : cB κ) (hV : cV κ) (hS : cS κ)  : z_T G mX7_rankSum [.ref (B 0 0)] (cH D B κ h) 5 0 0 (fun v h' => v = some (z_i (z_sm (fun i => 2 * sRk κ (κ 20 1 i) + cAl κ (κ 20 1 i) - 1) (κ 24 1 0))) ∧ h' = cH D B κ h) (z_no) := by
  obtain ⟨hn, hsz, hrw, hcu, htl, hth⟩ := id hV
  have hs0 := hsz 0 (by omega) (by omega)
  have hs1 := hsz 1 (by omega) (by omega)
  have hs2 := hsz 2 (by omega) (by omega)
  have hs3 := hsz 3 (by omega) (by omega)
  refine z_T_of hG pX7_rankSum (Nat.le_of_ble_eq_true rfl) (ls0 := [(0, .ref (B 0 0))]) rfl fun Y hY hg hmc hms hφ hψ => ?_
  subst hg
  refine z_const hY eX7_rankSum_0 ?_
  refine z_istore hY eX7_rankSum_1 (ls' := [(1, z_i 0), (0, .ref (B 0 0))]) rfl ?_
  refine z_const hY eX7_rankSum_2 ?_
  refine z_istore hY eX7_rankSum_3 (ls' := [(2, z_i 0), (1, z_i 0), (0, .ref (B 0 0))]) rfl ?_
  refine z_sub [2, 0, 1] (ls' := [(0, .ref (B 0 0)), (2, z_i 0), (1, z_i 0)]) rfl ?_
  have lp4 : ∀ (fu : Nat) (i : Int) (n : Int), (κ 24 1 0 - i).toNat < fu → (0 ≤ i ∧ i ≤ κ 24 1 0) → (n = z_sm (fun i => 2 * sRk κ (κ 20 1 i) + cAl κ (κ 20 1 i) - 1) i) → (0 ≤ n ∧ n ≤ 100 * i) → z_W Y 4 [(0, .ref (B 0 0)), (2, z_i i), (1, z_i n)] [] (cH D B κ h) 0 0 := by
    intro fu
    induction fu with
    | zero => intro i n hf; exact absurd hf (Nat.not_lt_zero _)
    | succ fu ih4 =>
      intro i n hf h0 hn hnb
      refine z_iload hY eX7_rankSum_4 1 rfl ?_
      refine z_aload hY eX7_rankSum_5 0 rfl ?_
      refine c_gf hY hJ eX7_rankSum_6 (t := 0) (i := 0) (v := .ref (B 9 0)) (by omega) rfl rfl ?_
      refine c_gfN hY hJ eX7_rankSum_9 (t := 9) (i := 0) (v := .ref (B 7 1)) (by omega) rfl rfl ?_
      refine z_callVr (As := []) (rest := [z_i i]) (r := z_i (κ 24 1 0)) hY eX7_rankSum_12 (c_size hG hJ hB hV (by omega)) (cH_at (t := 7) (i := 1) hJ (by omega)) (by decide) (Nat.le_of_ble_eq_true rfl) ⟨Nat.zero_le _, Nat.zero_le _⟩ ?_
      refine z_icmpge hY eX7_rankSum_15 (by omega) (fun c15 => ?_) (fun c15 => ?_)
      · refine z_iload hY eX7_rankSum_48 2 rfl ?_
        exact z_ireturn hY eX7_rankSum_49 rfl (by rw [hφ]; first | (exfalso; omega) | exact ⟨congrArg (fun q => some (z_i q)) (by rw [show κ 24 1 0 = i by omega, ← hn]), rfl⟩) ⟨Nat.zero_le _, Nat.zero_le _⟩
      · refine z_iload hY eX7_rankSum_18 2 rfl ?_
        refine z_aload hY eX7_rankSum_19 0 rfl ?_
        refine c_gf hY hJ eX7_rankSum_20 (t := 0) (i := 0) (v := .ref (B 9 0)) (by omega) rfl rfl ?_
        refine z_aload hY eX7_rankSum_23 0 rfl ?_
        refine c_gf hY hJ eX7_rankSum_24 (t := 0) (i := 0) (v := .ref (B 9 0)) (by omega) rfl rfl ?_
        refine c_gfN hY hJ eX7_rankSum_27 (t := 9) (i := 0) (v := .ref (B 7 1)) (by omega) rfl rfl ?_
        refine z_iload hY eX7_rankSum_30 1 rfl ?_
        refine z_callVr (As := [z_i i]) (rest := [.ref (B 9 0), z_i n]) (r := .ref (B 20 (κ 20 1 i))) hY eX7_rankSum_31 (c_get hG hJ hB hV (by omega) (by omega)) (cH_at (t := 7) (i := 1) hJ (by omega)) (by decide) (Nat.le_of_ble_eq_true rfl) ⟨Nat.zero_le _, Nat.zero_le _⟩ ?_
        have hc1 := hrw 1 i (by omega) (by omega) (by omega) (by omega)
        refine z_cast hY eX7_rankSum_34 (ci := 0) (nm := "StandingsHall$Entrant") (T := TX0) (N := 11) rfl (cH_at (t := 20) (i := (κ 20 1 i)) hJ (by omega)) ?_
        refine z_callVr (As := [.ref (B 20 (κ 20 1 i))]) (rest := [z_i n]) (r := z_i (2 * (sRk κ (κ 20 1 i)) + (cAl κ (κ 20 1 i)) - 1)) hY eX7_rankSum_37 (s_twiceMeanRank hG hJ hB hV (by omega)) (cH_at (t := 9) (i := 0) hJ (by omega)) (by decide) (Nat.le_of_ble_eq_true rfl) ⟨Nat.zero_le _, Nat.zero_le _⟩ ?_
        have hc2 := sRk_b hV (κ 20 1 i)
        have hc3 := cAl_b hV (κ 20 1 i)
        refine z_iadd hY eX7_rankSum_40 ?_
        refine z_top (b := n + 2 * (sRk κ (κ 20 1 i)) + (cAl κ (κ 20 1 i)) - 1) (by omega) ?_
        refine z_istore hY eX7_rankSum_41 (ls' := [(1, z_i (n + 2 * (sRk κ (κ 20 1 i)) + (cAl κ (κ 20 1 i)) - 1)), (0, .ref (B 0 0)), (2, z_i i)]) rfl ?_
        refine z_iinc hY eX7_rankSum_42 2 rfl (ls' := [(2, z_i (i + 1)), (1, z_i (n + 2 * (sRk κ (κ 20 1 i)) + (cAl κ (κ 20 1 i)) - 1)), (0, .ref (B 0 0))]) rfl ?_
        refine z_goto hY eX7_rankSum_45 ?_
        refine z_sub [2, 0, 1] (ls' := [(0, .ref (B 0 0)), (2, z_i (i + 1)), (1, z_i (n + 2 * (sRk κ (κ 20 1 i)) + (cAl κ (κ 20 1 i)) - 1))]) rfl ?_
        exact ih4 (i + 1) (n + 2 * (sRk κ (κ 20 1 i)) + (cAl κ (κ 20 1 i)) - 1) (by omega) (by omega) (by rw [z_smS (by omega), ← hn]; omega) (by omega)
  exact lp4 _ 0 0 (Nat.lt_succ_self _) (by omega) (z_sm0 (by omega)).symm (by omega)
theorem q_above {G : z_G} {D : Nat} {B : Nat → Int → Nat} {κ : c_K} {h : z_H} (hG : z_OK G) (hJ : cJ B κ) (hB : cB κ) (hV : cV κ) (hS : cS κ) {p : Int} (hrp : -2147483648 ≤ p ∧ p ≤ 2147483647) : z_T G mX7_above [.ref (B 0 0), z_i p] (cH D B κ h) 4 0 0 (fun v h' => v = some (z_i (κ 24 2 0 - cUp κ p)) ∧ h' = cH D B κ h) (z_no) := by
  obtain ⟨hn, hsz, hrw, hcu, htl, hth⟩ := id hV
  have hs0 := hsz 0 (by omega) (by omega)
  have hs1 := hsz 1 (by omega) (by omega)
  have hs2 := hsz 2 (by omega) (by omega)
  have hs3 := hsz 3 (by omega) (by omega)
  refine z_T_of hG pX7_above (Nat.le_of_ble_eq_true rfl) (ls0 := [(0, .ref (B 0 0)), (1, z_i p)]) rfl fun Y hY hg hmc hms hφ hψ => ?_
  subst hg
  refine z_aload hY eX7_above_0 0 rfl ?_
  refine c_gf hY hJ eX7_above_1 (t := 0) (i := 0) (v := .ref (B 10 0)) (by omega) rfl rfl ?_
  refine c_gfN hY hJ eX7_above_4 (t := 10) (i := 0) (v := .ref (B 7 2)) (by omega) rfl rfl ?_
  refine z_callVr (As := []) (rest := []) (r := z_i (κ 24 2 0)) hY eX7_above_7 (c_size hG hJ hB hV (by omega)) (cH_at (t := 7) (i := 2) hJ (by omega)) (by decide) (Nat.le_of_ble_eq_true rfl) ⟨Nat.zero_le _, Nat.zero_le _⟩ ?_
  refine z_aload hY eX7_above_10 0 rfl ?_
  refine c_gf hY hJ eX7_above_11 (t := 0) (i := 0) (v := .ref (B 10 0)) (by omega) rfl rfl ?_
  refine z_iload hY eX7_above_14 1 rfl ?_
  refine z_callVr (As := [z_i p]) (rest := [z_i (κ 24 2 0)]) (r := z_i (cUp κ p)) hY eX7_above_15 (p_countUpTo hG hJ hB hV (by omega)) (cH_at (t := 10) (i := 0) hJ (by omega)) (by decide) (Nat.le_of_ble_eq_true rfl) ⟨Nat.zero_le _, Nat.zero_le _⟩ ?_
  have hc1 := cUp_b hV p
  refine z_isub hY eX7_above_18 ?_
  exact z_ireturn hY eX7_above_19 rfl (by rw [hφ]; first | (exfalso; omega) | exact ⟨congrArg (fun q => some (z_i q)) (by first | rfl | omega), rfl⟩) ⟨Nat.zero_le _, Nat.zero_le _⟩
theorem q_with {G : z_G} {D : Nat} {B : Nat → Int → Nat} {κ : c_K} {h : z_H} (hG : z_OK G) (hJ : cJ B κ) (hB : cB κ) (hV : cV κ) (hS : cS κ) {p : Int} (hrp : -2147483648 ≤ p ∧ p ≤ 2147483647) : z_T G mX7_with [.ref (B 0 0), z_i p] (cH D B κ h) 4 0 0 (fun v h' => v = some (z_i (cUp κ p - cLw κ p)) ∧ h' = cH D B κ h) (z_no) := by
  obtain ⟨hn, hsz, hrw, hcu, htl, hth⟩ := id hV
  have hs0 := hsz 0 (by omega) (by omega)
  have hs1 := hsz 1 (by omega) (by omega)
  have hs2 := hsz 2 (by omega) (by omega)
  have hs3 := hsz 3 (by omega) (by omega)
  refine z_T_of hG pX7_with (Nat.le_of_ble_eq_true rfl) (ls0 := [(0, .ref (B 0 0)), (1, z_i p)]) rfl fun Y hY hg hmc hms hφ hψ => ?_
  subst hg
  refine z_aload hY eX7_with_0 0 rfl ?_
  refine c_gf hY hJ eX7_with_1 (t := 0) (i := 0) (v := .ref (B 10 0)) (by omega) rfl rfl ?_
  refine z_iload hY eX7_with_4 1 rfl ?_
  refine z_callVr (As := [z_i p]) (rest := []) (r := z_i (cUp κ p)) hY eX7_with_5 (p_countUpTo hG hJ hB hV (by omega)) (cH_at (t := 10) (i := 0) hJ (by omega)) (by decide) (Nat.le_of_ble_eq_true rfl) ⟨Nat.zero_le _, Nat.zero_le _⟩ ?_
  have hc1 := cUp_b hV p
  refine z_aload hY eX7_with_8 0 rfl ?_
  refine c_gf hY hJ eX7_with_9 (t := 0) (i := 0) (v := .ref (B 10 0)) (by omega) rfl rfl ?_
  refine z_iload hY eX7_with_12 1 rfl ?_
  refine z_callVr (As := [z_i p]) (rest := [z_i (cUp κ p)]) (r := z_i (cLw κ p)) hY eX7_with_13 (p_countBelow hG hJ hB hV (by omega)) (cH_at (t := 10) (i := 0) hJ (by omega)) (by decide) (Nat.le_of_ble_eq_true rfl) ⟨Nat.zero_le _, Nat.zero_le _⟩ ?_
  have hc2 := cLw_b hV p
  refine z_isub hY eX7_with_16 ?_
  exact z_ireturn hY eX7_with_17 rfl (by rw [hφ]; first | (exfalso; omega) | exact ⟨congrArg (fun q => some (z_i q)) (by first | rfl | omega), rfl⟩) ⟨Nat.zero_le _, Nat.zero_le _⟩
theorem q_withAt {G : z_G} {D : Nat} {B : Nat → Int → Nat} {κ : c_K} {h : z_H} (hG : z_OK G) (hJ : cJ B κ) (hB : cB κ) (hV : cV κ) (hS : cS κ) {p i : Int} (hrp : -2147483648 ≤ p ∧ p ≤ 2147483647) (hri : -2147483648 ≤ i ∧ i ≤ 2147483647) : z_T G mX7_withAt [.ref (B 0 0), z_i p, z_i i] (cH D B κ h) 4 0 0 (fun v h' => v = some (z_i (if 0 ≤ i ∧ i < cUp κ p - cLw κ p then κ 34 (κ 20 2 (cLw κ p + i)) 0 else -1)) ∧ h' = cH D B κ h) (z_no) := by
  obtain ⟨hn, hsz, hrw, hcu, htl, hth⟩ := id hV
  have hs0 := hsz 0 (by omega) (by omega)
  have hs1 := hsz 1 (by omega) (by omega)
  have hs2 := hsz 2 (by omega) (by omega)
  have hs3 := hsz 3 (by omega) (by omega)
  refine z_T_of hG pX7_withAt (Nat.le_of_ble_eq_true rfl) (ls0 := [(0, .ref (B 0 0)), (1, z_i p), (2, z_i i)]) rfl fun Y hY hg hmc hms hφ hψ => ?_
  subst hg
  refine z_aload hY eX7_withAt_0 0 rfl ?_
  refine c_gf hY hJ eX7_withAt_1 (t := 0) (i := 0) (v := .ref (B 10 0)) (by omega) rfl rfl ?_
  refine z_iload hY eX7_withAt_4 1 rfl ?_
  refine z_callVr (As := [z_i p]) (rest := []) (r := z_i (cLw κ p)) hY eX7_withAt_5 (p_countBelow hG hJ hB hV (by omega)) (cH_at (t := 10) (i := 0) hJ (by omega)) (by decide) (Nat.le_of_ble_eq_true rfl) ⟨Nat.zero_le _, Nat.zero_le _⟩ ?_
  have hc1 := cLw_b hV p
  refine z_istore hY eX7_withAt_8 (ls' := [(3, z_i (cLw κ p)), (0, .ref (B 0 0)), (1, z_i p), (2, z_i i)]) rfl ?_
  refine z_aload hY eX7_withAt_9 1 rfl ?_
  refine c_gf hY hJ eX7_withAt_10 (t := 0) (i := 0) (v := .ref (B 10 0)) (by omega) rfl rfl ?_
  refine z_iload hY eX7_withAt_13 2 rfl ?_
  refine z_callVr (As := [z_i p]) (rest := []) (r := z_i (cUp κ p)) hY eX7_withAt_14 (p_countUpTo hG hJ hB hV (by omega)) (cH_at (t := 10) (i := 0) hJ (by omega)) (by decide) (Nat.le_of_ble_eq_true rfl) ⟨Nat.zero_le _, Nat.zero_le _⟩ ?_
  have hc2 := cUp_b hV p
  refine z_istore hY eX7_withAt_17 (ls' := [(4, z_i (cUp κ p)), (3, z_i (cLw κ p)), (0, .ref (B 0 0)), (1, z_i p), (2, z_i i)]) rfl ?_
  refine z_iload hY eX7_withAt_19 4 rfl ?_
  refine z_iflt hY eX7_withAt_20 (by omega) (fun c20 => ?_) (fun c20 => ?_)
  · refine z_const hY eX7_withAt_31 ?_
    exact z_ireturn hY eX7_withAt_32 rfl (by rw [hφ]; first | (exfalso; omega) | exact ⟨congrArg (fun q => some (z_i q)) (by split <;> omega), rfl⟩) ⟨Nat.zero_le _, Nat.zero_le _⟩
  · refine z_iload hY eX7_withAt_23 4 rfl ?_
    refine z_iload hY eX7_withAt_24 0 rfl ?_
    refine z_iload hY eX7_withAt_26 1 rfl ?_
    refine z_isub hY eX7_withAt_27 ?_
    refine z_icmplt hY eX7_withAt_28 (by omega) (fun c28 => ?_) (fun c28 => ?_)
    · refine z_aload hY eX7_withAt_33 2 rfl ?_
      refine c_gf hY hJ eX7_withAt_34 (t := 0) (i := 0) (v := .ref (B 10 0)) (by omega) rfl rfl ?_
      refine c_gfN hY hJ eX7_withAt_37 (t := 10) (i := 0) (v := .ref (B 7 2)) (by omega) rfl rfl ?_
      refine z_iload hY eX7_withAt_40 1 rfl ?_
      refine z_iload hY eX7_withAt_41 4 rfl ?_
      refine z_iadd hY eX7_withAt_42 ?_
      refine z_callVr (As := [z_i ((cLw κ p) + i)]) (rest := []) (r := .ref (B 20 (κ 20 2 ((cLw κ p) + i)))) hY eX7_withAt_43 (c_get hG hJ hB hV (by omega) (by omega)) (cH_at (t := 7) (i := 2) hJ (by omega)) (by decide) (Nat.le_of_ble_eq_true rfl) ⟨Nat.zero_le _, Nat.zero_le _⟩ ?_
      have hc3 := hrw 2 ((cLw κ p) + i) (by omega) (by omega) (by omega) (by omega)
      refine z_cast hY eX7_withAt_46 (ci := 0) (nm := "StandingsHall$Entrant") (T := TX0) (N := 11) rfl (cH_at (t := 20) (i := (κ 20 2 ((cLw κ p) + i))) hJ (by omega)) ?_
      have hb4 := hS.s34 (κ 20 2 ((cLw κ p) + i)) 0
      refine c_gf hY hJ eX7_withAt_49 (t := 20) (i := (κ 20 2 ((cLw κ p) + i))) (v := z_i (κ 34 (κ 20 2 ((cLw κ p) + i)) 0)) (by omega) rfl rfl ?_
      exact z_ireturn hY eX7_withAt_52 rfl (by rw [hφ]; first | (exfalso; omega) | exact ⟨congrArg (fun q => some (z_i q)) (by split <;> omega), rfl⟩) ⟨Nat.zero_le _, Nat.zero_le _⟩
    · refine z_const hY eX7_withAt_31 ?_
      exact z_ireturn hY eX7_withAt_32 rfl (by rw [hφ]; first | (exfalso; omega) | exact ⟨congrArg (fun q => some (z_i q)) (by split <;> omega), rfl⟩) ⟨Nat.zero_le _, Nat.zero_le _⟩
theorem q_next {G : z_G} {D : Nat} {B : Nat → Int → Nat} {κ : c_K} {h : z_H} (hG : z_OK G) (hJ : cJ B κ) (hB : cB κ) (hV : cV κ) (hS : cS κ) {p : Int} (hrp : -2147483648 ≤ p ∧ p ≤ 2147483647) : z_T G mX7_next [.ref (B 0 0), z_i p] (cH D B κ h) 4 1 6 (fun v h' => (cUp κ p < κ 24 2 0) ∧ v = some (z_i (κ 30 (κ 20 2 (cUp κ p)) 0)) ∧ h' = cH D B κ h) (fun E h' => h' = cH D B κ h ∧ ((E = "java/util/NoSuchElementException" ∧ ¬ cUp κ p < κ 24 2 0))) := by
  obtain ⟨hn, hsz, hrw, hcu, htl, hth⟩ := id hV
  have hs0 := hsz 0 (by omega) (by omega)
  have hs1 := hsz 1 (by omega) (by omega)
  have hs2 := hsz 2 (by omega) (by omega)
  have hs3 := hsz 3 (by omega) (by omega)
  refine z_T_of hG pX7_next (Nat.le_of_ble_eq_true rfl) (ls0 := [(0, .ref (B 0 0)), (1, z_i p)]) rfl fun Y hY hg hmc hms hφ hψ => ?_
  subst hg
  refine z_aload hY eX7_next_0 0 rfl ?_
  refine c_gf hY hJ eX7_next_1 (t := 0) (i := 0) (v := .ref (B 10 0)) (by omega) rfl rfl ?_
  refine z_iload hY eX7_next_4 1 rfl ?_
  refine z_callVr (As := [z_i p]) (rest := []) (r := z_i (cUp κ p)) hY eX7_next_5 (p_countUpTo hG hJ hB hV (by omega)) (cH_at (t := 10) (i := 0) hJ (by omega)) (by decide) (Nat.le_of_ble_eq_true rfl) ⟨Nat.zero_le _, Nat.zero_le _⟩ ?_
  have hc1 := cUp_b hV p
  refine z_istore hY eX7_next_8 (ls' := [(2, z_i (cUp κ p)), (0, .ref (B 0 0)), (1, z_i p)]) rfl ?_
  refine z_iload hY eX7_next_9 0 rfl ?_
  refine z_aload hY eX7_next_10 1 rfl ?_
  refine c_gf hY hJ eX7_next_11 (t := 0) (i := 0) (v := .ref (B 10 0)) (by omega) rfl rfl ?_
  refine c_gfN hY hJ eX7_next_14 (t := 10) (i := 0) (v := .ref (B 7 2)) (by omega) rfl rfl ?_
  refine z_callVr (As := []) (rest := [z_i (cUp κ p)]) (r := z_i (κ 24 2 0)) hY eX7_next_17 (c_size hG hJ hB hV (by omega)) (cH_at (t := 7) (i := 2) hJ (by omega)) (by decide) (Nat.le_of_ble_eq_true rfl) ⟨Nat.zero_le _, Nat.zero_le _⟩ ?_
  refine z_icmplt hY eX7_next_20 (by omega) (fun c20 => ?_) (fun c20 => ?_)
  · refine z_aload hY eX7_next_34 1 rfl ?_
    refine c_gf hY hJ eX7_next_35 (t := 0) (i := 0) (v := .ref (B 10 0)) (by omega) rfl rfl ?_
    refine c_gfN hY hJ eX7_next_38 (t := 10) (i := 0) (v := .ref (B 7 2)) (by omega) rfl rfl ?_
    refine z_iload hY eX7_next_41 0 rfl ?_
    refine z_callVr (As := [z_i (cUp κ p)]) (rest := []) (r := .ref (B 20 (κ 20 2 (cUp κ p)))) hY eX7_next_42 (c_get hG hJ hB hV (by omega) (by omega)) (cH_at (t := 7) (i := 2) hJ (by omega)) (by decide) (Nat.le_of_ble_eq_true rfl) ⟨Nat.zero_le _, Nat.zero_le _⟩ ?_
    have hc2 := hrw 2 (cUp κ p) (by omega) (by omega) (by omega) (by omega)
    refine z_cast hY eX7_next_45 (ci := 0) (nm := "StandingsHall$Entrant") (T := TX0) (N := 11) rfl (cH_at (t := 20) (i := (κ 20 2 (cUp κ p))) hJ (by omega)) ?_
    refine z_callVr (As := []) (rest := []) (r := z_i (κ 30 (κ 20 2 (cUp κ p)) 0)) hY eX7_next_48 (e_points hG hJ hB hV (by omega)) (cH_at (t := 20) (i := (κ 20 2 (cUp κ p))) hJ (by omega)) (by decide) (Nat.le_of_ble_eq_true rfl) ⟨Nat.zero_le _, Nat.zero_le _⟩ ?_
    have hc3 := hS.s30 (κ 20 2 (cUp κ p)) 0
    exact z_ireturn hY eX7_next_51 rfl (by rw [hφ]; first | (exfalso; omega) | exact ⟨by omega, congrArg (fun q => some (z_i q)) (by first | rfl | omega), rfl⟩) ⟨Nat.zero_le _, Nat.zero_le _⟩
  · exact z_thr hY xX7_next_23 (by rw [hmc, hms]; omega) (by rw [hψ]; refine ⟨rfl, ?_⟩; first | exact ⟨rfl, by omega⟩ | exact Or.inl ⟨rfl, by omega⟩ | exact Or.inr ⟨rfl, by omega⟩ | exact Or.inr (Or.inl ⟨rfl, by omega⟩) | exact Or.inr (Or.inr ⟨rfl, by omega⟩))
theorem q_between {G : z_G} {D : Nat} {B : Nat → Int → Nat} {κ : c_K} {h : z_H} (hG : z_OK G) (hJ : cJ B κ) (hB : cB κ) (hV : cV κ) (hS : cS κ) {p q : Int} (hrp : -2147483648 ≤ p ∧ p ≤ 2147483647) (hrq : -2147483648 ≤ q ∧ q ≤ 2147483647) : z_T G mX7_between [.ref (B 0 0), z_i p, z_i q] (cH D B κ h) 4 1 6 (fun v h' => (p ≤ q) ∧ v = some (z_i (cLw κ q - cLw κ p)) ∧ h' = cH D B κ h) (fun E h' => h' = cH D B κ h ∧ ((E = "java/lang/IllegalArgumentException" ∧ ¬ p ≤ q))) := by
  obtain ⟨hn, hsz, hrw, hcu, htl, hth⟩ := id hV
  have hs0 := hsz 0 (by omega) (by omega)
  have hs1 := hsz 1 (by omega) (by omega)
  have hs2 := hsz 2 (by omega) (by omega)
  have hs3 := hsz 3 (by omega) (by omega)
  refine z_T_of hG pX7_between (Nat.le_of_ble_eq_true rfl) (ls0 := [(0, .ref (B 0 0)), (1, z_i p), (2, z_i q)]) rfl fun Y hY hg hmc hms hφ hψ => ?_
  subst hg
  refine z_iload hY eX7_between_0 1 rfl ?_
  refine z_iload hY eX7_between_1 2 rfl ?_
  refine z_icmple hY eX7_between_2 (by omega) (fun c2 => ?_) (fun c2 => ?_)
  · refine z_aload hY eX7_between_16 0 rfl ?_
    refine c_gf hY hJ eX7_between_17 (t := 0) (i := 0) (v := .ref (B 10 0)) (by omega) rfl rfl ?_
    refine z_iload hY eX7_between_20 2 rfl ?_
    refine z_callVr (As := [z_i q]) (rest := []) (r := z_i (cLw κ q)) hY eX7_between_21 (p_countBelow hG hJ hB hV (by omega)) (cH_at (t := 10) (i := 0) hJ (by omega)) (by decide) (Nat.le_of_ble_eq_true rfl) ⟨Nat.zero_le _, Nat.zero_le _⟩ ?_
    have hc1 := cLw_b hV q
    refine z_aload hY eX7_between_24 0 rfl ?_
    refine c_gf hY hJ eX7_between_25 (t := 0) (i := 0) (v := .ref (B 10 0)) (by omega) rfl rfl ?_
    refine z_iload hY eX7_between_28 1 rfl ?_
    refine z_callVr (As := [z_i p]) (rest := [z_i (cLw κ q)]) (r := z_i (cLw κ p)) hY eX7_between_29 (p_countBelow hG hJ hB hV (by omega)) (cH_at (t := 10) (i := 0) hJ (by omega)) (by decide) (Nat.le_of_ble_eq_true rfl) ⟨Nat.zero_le _, Nat.zero_le _⟩ ?_
    have hc2 := cLw_b hV p
    refine z_isub hY eX7_between_32 ?_
    exact z_ireturn hY eX7_between_33 rfl (by rw [hφ]; first | (exfalso; omega) | exact ⟨by omega, congrArg (fun q => some (z_i q)) (by first | rfl | omega), rfl⟩) ⟨Nat.zero_le _, Nat.zero_le _⟩
  · exact z_thr hY xX7_between_5 (by rw [hmc, hms]; omega) (by rw [hψ]; refine ⟨rfl, ?_⟩; first | exact ⟨rfl, by omega⟩ | exact Or.inl ⟨rfl, by omega⟩ | exact Or.inr ⟨rfl, by omega⟩ | exact Or.inr (Or.inl ⟨rfl, by omega⟩) | exact Or.inr (Or.inr ⟨rfl, by omega⟩))
theorem q_median {G : z_G} {D : Nat} {B : Nat → Int → Nat} {κ : c_K} {h : z_H} (hG : z_OK G) (hJ : cJ B κ) (hB : cB κ) (hV : cV κ) (hS : cS κ) {b : Int} (hb : b = 0 ∨ b = 1) : z_T G mX7_median [.ref (B 0 0), z_i b] (cH D B κ h) 4 1 6 (fun v h' => (0 < κ 24 1 0) ∧ v = some (z_i (cAt κ (cMp κ b))) ∧ h' = cH D B κ h) (fun E h' => h' = cH D B κ h ∧ ((E = "java/util/NoSuchElementException" ∧ ¬ 0 < κ 24 1 0))) := by
  obtain ⟨hn, hsz, hrw, hcu, htl, hth⟩ := id hV
  have hs0 := hsz 0 (by omega) (by omega)
  have hs1 := hsz 1 (by omega) (by omega)
  have hs2 := hsz 2 (by omega) (by omega)
  have hs3 := hsz 3 (by omega) (by omega)
  refine z_T_of hG pX7_median (Nat.le_of_ble_eq_true rfl) (ls0 := [(0, .ref (B 0 0)), (1, z_i b)]) rfl fun Y hY hg hmc hms hφ hψ => ?_
  subst hg
  refine z_aload hY eX7_median_0 0 rfl ?_
  refine z_callV (As := []) (rest := []) hY eX7_median_1 (c_checkSomebodyIsThere hG hJ hB hV hS ) (cH_at (t := 0) (i := 0) hJ (by omega)) (by decide) (Nat.le_of_ble_eq_true rfl) (by rw [hmc, hms]; omega) (fun E' h1 q => by obtain ⟨rfl, q⟩ := q; rw [hψ]; refine ⟨rfl, ?_⟩; obtain ⟨rfl, q⟩ := q <;> (first | exact ⟨rfl, by omega⟩ | exact Or.inl ⟨rfl, by omega⟩ | exact Or.inr ⟨rfl, by omega⟩ | exact Or.inr (Or.inl ⟨rfl, by omega⟩) | exact Or.inr (Or.inr ⟨rfl, by omega⟩))) (fun vv1 hh1 q1 => ?_)
  obtain ⟨hq1, rfl, rfl⟩ := q1
  refine z_aload hY eX7_median_4 0 rfl ?_
  refine c_gf hY hJ eX7_median_5 (t := 0) (i := 0) (v := .ref (B 10 0)) (by omega) rfl rfl ?_
  refine z_aload hY eX7_median_8 0 rfl ?_
  refine z_iload hY eX7_median_9 1 rfl ?_
  refine z_callVr (As := [z_i b]) (rest := [.ref (B 10 0)]) (r := z_i (cMp κ b)) hY eX7_median_10 (c_medianPlace hG hJ hB hV hS (by omega)) (cH_at (t := 0) (i := 0) hJ (by omega)) (by decide) (Nat.le_of_ble_eq_true rfl) (by rw [hmc, hms]; omega) ?_
  have hcm := cMp_b hV b
  refine z_callVr (As := [z_i (cMp κ b)]) (rest := []) (r := z_i (cAt κ (cMp κ b))) hY eX7_median_13 (p_pointsAt hG hJ hB hV (by omega)) (cH_at (t := 10) (i := 0) hJ (by omega)) (by decide) (Nat.le_of_ble_eq_true rfl) (by rw [hmc, hms]; omega) ?_
  have hc2 := cAt_b hS (cMp κ b)
  exact z_ireturn hY eX7_median_16 rfl (by rw [hφ]; first | (exfalso; omega) | exact ⟨by omega, congrArg (fun q => some (z_i q)) (by first | rfl | omega), rfl⟩) (by rw [hmc, hms]; omega)
end D1
