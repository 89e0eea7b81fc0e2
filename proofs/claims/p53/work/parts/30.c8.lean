/-! The class's lists: contracts of what changes them (laid by wip/whole/gen/gm30.py). -/
section C8
theorem c_rowOf {G : z_G} {D : Nat} {B : Nat → Int → Nat} {κ : c_K} {h : z_H} (hJ : cJ B κ) (hV : cV κ) (hD : D = z_dc G) {r : Int} (hr : 0 ≤ r ∧ r ≤ 3) : z_row G (cH D B κ h) (if 0 < κ 26 r 0 then B 8 r else D) (κ 26 r 0).toNat (fun j => B 20 (κ 20 r j)) (κ 24 r 0) := by
  have h1 := hV.2.1 r hr.1 hr.2
  by_cases hc : 0 < κ 26 r 0
  · rw [if_pos hc]
    exact Or.inr ⟨by omega, cH_at (t := 8) (i := r) hJ (by omega)⟩
  · rw [if_neg hc]
    exact Or.inl ⟨by omega, hD, by omega⟩
theorem c_helOf {D : Nat} {B : Nat → Int → Nat} {κ : c_K} {h : z_H} (hJ : cJ B κ) (hV : cV κ) {r : Int} (hr : 0 ≤ r ∧ r ≤ 3) : ∀ j : Int, 0 ≤ j → j < κ 24 r 0 → ∃ fs, cH D B κ h (B 20 (κ 20 r j)) = some (z_ob 0 fs) := by
  intro j h1 h2
  have h3 := hV.2.2.1 r j hr.1 hr.2 h1 h2
  exact ⟨_, cH_at (t := 20) (i := κ 20 r j) hJ (by omega)⟩
def fIn (κ : c_K) (r i e : Int) : Int → Int := fun j => if j < i then κ 20 r j else if j = i then e else κ 20 r (j - 1)
def fDl (κ : c_K) (r i : Int) : Int → Int := fun j => if j < i then κ 20 r j else κ 20 r (j + 1)
/-- the end of a call that puts one into a row -/
def cPut (D : Nat) (B : Nat → Int → Nat) (κ : c_K) (h : z_H) (r : Int) (f : Int → Int) (h' : z_H) : Prop := ∃ (e1 : Nat) (N1 : Int) (h2 : z_H), h' = cH D (bU B r e1) (kAd κ r f (kW (κ 25 r 0)) N1) h2 ∧ cJ (bU B r e1) (kAd κ r f (kW (κ 25 r 0)) N1) ∧ (κ 24 r 0 + 1 ≤ N1 ∧ 0 < N1 ∧ N1 ≤ 45) ∧ cFr D B κ h (bU B r e1) (kAd κ r f (kW (κ 25 r 0)) N1) h2
theorem c_add {G : z_G} {D : Nat} {B : Nat → Int → Nat} {κ : c_K} {h : z_H} (hG : z_OK G) (hJ : cJ B κ) (hV : cV κ) (hD : D = z_dc G) (hM : z_MI G) {r e : Int} (hr : 1 ≤ r ∧ r ≤ 3) (he : 0 ≤ e ∧ e < κ 24 0 0) : z_T G mJx4a65c_add_9ea2d [.ref (B 7 r), .ref (B 20 e)] (cH D B κ h) 6 1 45 (fun v h' => v = some (z_i 1) ∧ cPut D B κ h r (fun j => if j = κ 24 r 0 then e else κ 20 r j) h') z_no := by
  obtain ⟨mi, hM⟩ := hM
  have h1 := hV.2.1 r (by omega) hr.2
  have h0 := hV.1
  refine z_T.mono (al_add hG hM (N := (κ 26 r 0).toNat) (l := fun j => B 20 (κ 20 r j)) (mo := κ 25 r 0) (s := κ 24 r 0) (by omega) (cH_at (t := 7) (i := r) hJ (by omega)) (c_rowOf hJ hV hD (by omega)) (c_helOf hJ hV (by omega)) (cH_at (t := 20) (i := e) hJ (by omega))) (fun v h' q => ⟨q.1, ?_⟩) (fun _ _ q => q)
  refine c_addE hr hJ ?_
  have e1 : (z_up (fun j => B 20 (κ 20 r j)) (κ 24 r 0) (B 20 e)) = fun j => B 20 ((fun j => if j = κ 24 r 0 then e else κ 20 r j) j) := by
    funext j
    unfold z_up
    dsimp only
    split <;> rfl
  rw [← e1]
  exact q.2
theorem c_ins {G : z_G} {D : Nat} {B : Nat → Int → Nat} {κ : c_K} {h : z_H} (hG : z_OK G) (hJ : cJ B κ) (hV : cV κ) (hD : D = z_dc G) (hM : z_MI G) {r e i : Int} (hr : 1 ≤ r ∧ r ≤ 3) (he : 0 ≤ e ∧ e < κ 24 0 0) (hi : 0 ≤ i ∧ i ≤ κ 24 r 0) : z_T G mJx4a65c_add_7a177 [.ref (B 7 r), z_i i, .ref (B 20 e)] (cH D B κ h) 6 1 45 (fun v h' => v = none ∧ cPut D B κ h r (fIn κ r i e) h') z_no := by
  obtain ⟨mi, hM⟩ := hM
  have h1 := hV.2.1 r (by omega) hr.2
  have h0 := hV.1
  refine z_T.mono (al_ins hG hM (N := (κ 26 r 0).toNat) (l := fun j => B 20 (κ 20 r j)) (mo := κ 25 r 0) (s := κ 24 r 0) (by omega) (cH_at (t := 7) (i := r) hJ (by omega)) (c_rowOf hJ hV hD (by omega)) (c_helOf hJ hV (by omega)) (cH_at (t := 20) (i := e) hJ (by omega)) hi) (fun v h' q => ⟨q.1, ?_⟩) (fun _ _ q => q)
  refine c_addE hr hJ ?_
  have e1 : (z_ins (fun j => B 20 (κ 20 r j)) i (B 20 e)) = fun j => B 20 (fIn κ r i e j) := by
    funext j
    unfold z_ins fIn
    (repeat' split) <;> rfl
  rw [← e1]
  exact q.2
/-- a row whose content and size are others, in the same place -/
def kRw (κ : c_K) (r : Int) (f : Int → Int) (n mo : Int) : c_K := k_u (k_u (k_r κ 20 r f) 24 r 0 n) 25 r 0 mo
theorem kRw_ne {κ : c_K} {r n mo : Int} {f : Int → Int} {k : Nat} (h : k ≠ 20 ∧ k ≠ 24 ∧ k ≠ 25) : kRw κ r f n mo k = κ k := by
  unfold kRw
  rw [k_u_ne h.2.2, k_u_ne h.2.1, k_r_ne h.1]
theorem kRw_ni {κ : c_K} {r n mo i : Int} {f : Int → Int} {k : Nat} (h : i ≠ r) : kRw κ r f n mo k i = κ k i := by
  unfold kRw
  funext j
  unfold k_u k_r
  (repeat' split) <;> first | rfl | (exfalso; omega)
theorem kRw_24 {κ : c_K} {r n mo : Int} {f : Int → Int} : kRw κ r f n mo 24 r 0 = n := by
  unfold kRw
  rw [k_u_ne (by decide)]
  exact k_u_at
theorem kRw_25 {κ : c_K} {r n mo : Int} {f : Int → Int} : kRw κ r f n mo 25 r 0 = mo := k_u_at
theorem kRw_20 {κ : c_K} {r n mo : Int} {f : Int → Int} : kRw κ r f n mo 20 r = f := by
  unfold kRw
  rw [k_u_ne (by decide), k_u_ne (by decide)]
  exact k_r_eq
theorem cL_Rw {κ : c_K} {r n mo : Int} {f : Int → Int} (hr : 1 ≤ r ∧ r ≤ 3) (t : Nat) (i : Int) : cL (kRw κ r f n mo) t i ↔ cL κ t i := cL_other (by rw [kRw_ni (by omega)]) (fun i => by rw [kRw_ne (by decide)]) t i
theorem c_rw {D : Nat} {B : Nat → Int → Nat} {κ : c_K} {h : z_H} {r n mo : Int} {f : Int → Int} {l : Int → Nat} (hr : 1 ≤ r ∧ r ≤ 3) (hJ : cJ B κ) (hc : 0 < κ 26 r 0) (hl : ∀ j, l j = B 20 (f j)) : z_set (z_set (cH D B κ h) (B 8 r) (z_qa (κ 26 r 0).toNat (z_lf l n))) (B 7 r) (z_ob 9 [z_i mo, .ref (B 8 r), z_i n]) = cH D B (kRw κ r f n (Int32.ofInt mo).toInt) h := by
  have h7 : cL κ 7 r := by omega
  have h8 : cL κ 8 r := by omega
  have hLL := cL_Rw (κ := κ) (n := n) (mo := (Int32.ofInt mo).toInt) (f := f) hr
  refine cH_ext (cJ_of hJ hLL) (fun t i hlv => ?_) (fun a ha => ?_)
  · have hl1 := (hLL t i).mp hlv
    by_cases c7 : t = 7 ∧ i = r
    · rw [c7.1, c7.2, z_set_at]
      refine congrArg some ?_
      show _ = z_ob 9 [z_i (kRw κ r f n (Int32.ofInt mo).toInt 25 r 0), .ref (if 0 < kRw κ r f n (Int32.ofInt mo).toInt 26 r 0 then B 8 r else D), z_i (kRw κ r f n (Int32.ofInt mo).toInt 24 r 0)]
      rw [kRw_25, kRw_24, kRw_ne (by decide), if_pos hc, ← z_wrap]
    · by_cases c8 : t = 8 ∧ i = r
      · rw [c8.1, c8.2, z_set_ne (fun e => absurd (hJ _ _ _ _ h8 h7 e).1 (by decide)), z_set_at]
        refine congrArg some ?_
        show _ = z_qa (kRw κ r f n (Int32.ofInt mo).toInt 26 r 0).toNat (z_lf (fun j => B 20 (kRw κ r f n (Int32.ofInt mo).toInt 20 r j)) (kRw κ r f n (Int32.ofInt mo).toInt 24 r 0))
        rw [kRw_24, kRw_20, kRw_ne (by decide), show l = fun j => B 20 (f j) from funext hl]
      · rw [z_set_ne (fun e => c7 (hJ _ _ _ _ hl1 h7 e)), z_set_ne (fun e => c8 (hJ _ _ _ _ hl1 h8 e)), cH_at hJ hl1]
        refine congrArg some (cC_congr hl1 fun k hk => ?_).symm
        by_cases hk2 : k = 20 ∨ k = 24 ∨ k = 25 ∨ k = 26
        · refine kRw_ni fun e => ?_
          rcases cR_78 hk hk2 with ht | ht
          · exact c7 ⟨ht, e⟩
          · exact c8 ⟨ht, e⟩
        · rw [kRw_ne (by omega)]
  · rw [z_set_ne (fun e => ha 7 r ((hLL 7 r).mpr h7) e.symm), z_set_ne (fun e => ha 8 r ((hLL 8 r).mpr h8) e.symm)]
    exact cH_no (fun t i hl => ha t i ((hLL t i).mpr hl))
theorem c_remove {G : z_G} {D : Nat} {B : Nat → Int → Nat} {κ : c_K} {h : z_H} (hG : z_OK G) (hJ : cJ B κ) (hV : cV κ) {r i : Int} (hr : 1 ≤ r ∧ r ≤ 3) (hi : 0 ≤ i ∧ i < κ 24 r 0) : z_T G mJx4a65c_remove_915e3 [.ref (B 7 r), z_i i] (cH D B κ h) 2 0 0 (fun v h' => v = some (.ref (B 20 (κ 20 r i))) ∧ h' = cH D B (kRw κ r (fDl κ r i) (κ 24 r 0 - 1) (kW (κ 25 r 0))) h) z_no := by
  have h1 := hV.2.1 r (by omega) hr.2
  have h0 := hV.1
  have hc : 0 < κ 26 r 0 := by omega
  have h7 : cH D B κ h (B 7 r) = some (z_ob 9 [z_i (κ 25 r 0), .ref (B 8 r), z_i (κ 24 r 0)]) := by
    rw [cH_at (t := 7) (i := r) hJ (by omega)]
    show some (z_ob 9 [z_i (κ 25 r 0), .ref (if 0 < κ 26 r 0 then B 8 r else D), z_i (κ 24 r 0)]) = _
    rw [if_pos hc]
  refine z_T.mono (al_remove hG (N := (κ 26 r 0).toNat) (l := fun j => B 20 (κ 20 r j)) h7 (cH_at (t := 8) (i := r) hJ (by omega)) (by omega) (c_helOf hJ hV (by omega)) hi) (fun v h' q => ⟨q.1, q.2.trans ?_⟩) (fun _ _ q => q)
  refine c_rw hr hJ hc fun j => ?_
  unfold z_del fDl
  split <;> rfl
theorem c_set {G : z_G} {D : Nat} {B : Nat → Int → Nat} {κ : c_K} {h : z_H} (hG : z_OK G) (hJ : cJ B κ) (hV : cV κ) {r i e : Int} (hr : 0 ≤ r ∧ r ≤ 3) (hi : 0 ≤ i ∧ i < κ 24 r 0) (he : 0 ≤ e ∧ e < κ 24 0 0) : z_T G mJx4a65c_set_bcc79 [.ref (B 7 r), z_i i, .ref (B 20 e)] (cH D B κ h) 2 0 0 (fun v h' => v = some (.ref (B 20 (κ 20 r i))) ∧ h' = cH D B (k_u κ 20 r i e) h) z_no := by
  have h1 := hV.2.1 r (by omega) hr.2
  have h0 := hV.1
  have hc : 0 < κ 26 r 0 := by omega
  have h7 : cH D B κ h (B 7 r) = some (z_ob 9 [z_i (κ 25 r 0), .ref (B 8 r), z_i (κ 24 r 0)]) := by
    rw [cH_at (t := 7) (i := r) hJ (by omega)]
    show some (z_ob 9 [z_i (κ 25 r 0), .ref (if 0 < κ 26 r 0 then B 8 r else D), z_i (κ 24 r 0)]) = _
    rw [if_pos hc]
  refine z_T.mono (al_set hG (N := (κ 26 r 0).toNat) (l := fun j => B 20 (κ 20 r j)) h7 (cH_at (t := 8) (i := r) hJ (by omega)) (by omega) (cH_at (t := 20) (i := e) hJ (by omega)) hi) (fun v h' q => ⟨q.1, q.2.trans ?_⟩) (fun _ _ q => q)
  refine cH_u (k := 20) hJ (by decide) rfl (by omega) ?_
  show z_qa (k_u κ 20 r i e 26 r 0).toNat (z_lf (fun j => B 20 (k_u κ 20 r i e 20 r j)) (k_u κ 20 r i e 24 r 0)) = _
  rw [k_u_ne (k := 20) (k' := 26) (by decide), k_u_ne (k := 20) (k' := 24) (by decide), k_u_eq]
  refine congrArg (fun l => z_qa _ (z_lf l _)) (funext fun j => ?_)
  unfold z_up
  split <;> rfl
theorem c_clear {G : z_G} {D : Nat} {B : Nat → Int → Nat} {κ : c_K} {h : z_H} (hG : z_OK G) (hJ : cJ B κ) (hV : cV κ) (hD : D = z_dc G) {r : Int} (hr : 1 ≤ r ∧ r ≤ 3) : z_T G mJx4a65c_clear_da8c8 [.ref (B 7 r)] (cH D B κ h) 0 0 0 (fun v h' => v = none ∧ h' = cH D B (kRw κ r (κ 20 r) 0 (kW (κ 25 r 0))) h) z_no := by
  have h1 := hV.2.1 r (by omega) hr.2
  have h0 := hV.1
  refine z_T.mono (al_clear hG (N := (κ 26 r 0).toNat) (l := fun j => B 20 (κ 20 r j)) (mo := κ 25 r 0) (cH_at (t := 7) (i := r) hJ (by omega)) (c_rowOf hJ hV hD (by omega)) (by omega)) (fun v h' q => ⟨q.1, ?_⟩) (fun _ _ q => q)
  rcases q.2 with ⟨q1, q2⟩ | ⟨q1, q2⟩
  · have hc : ¬ 0 < κ 26 r 0 := by omega
    have hs : κ 24 r 0 = 0 := by omega
    rw [q2, if_neg hc]
    have e1 : kRw κ r (κ 20 r) 0 (kW (κ 25 r 0)) = k_u κ 25 r 0 (kW (κ 25 r 0)) := by
      unfold kRw
      rw [← k_r_id (κ := κ) (k := 20) (i := r) (f := κ 20 r) (fun _ => rfl), k_u_same hs]
    rw [e1]
    refine cH_u (k := 25) hJ (by decide) rfl (by omega) ?_
    show z_ob 9 [z_i (k_u κ 25 r 0 (kW (κ 25 r 0)) 25 r 0), .ref (if 0 < k_u κ 25 r 0 (kW (κ 25 r 0)) 26 r 0 then B 8 r else D), z_i (k_u κ 25 r 0 (kW (κ 25 r 0)) 24 r 0)] = _
    rw [k_u_at, k_u_ne (by decide), k_u_ne (by decide), if_neg hc, ← kW_i, hs]
  · have hc : 0 < κ 26 r 0 := by omega
    rw [q2, if_pos hc]
    exact c_rw hr hJ hc fun j => rfl
end C8
