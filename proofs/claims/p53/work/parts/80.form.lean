/-! THE LAW's FORMS: the greatest of what is not yet taken, again and again (laid by wip/p53/gen/gl80.py). -/
section LV7
section
variable {Y : z_Y} {d : Nat} {M : z_M} {pc pc' : Nat} {ls ls' : List (Nat × Value)} {st st' : List Value} {h : z_H} {k n : Nat}
theorem w_shr {x r : Int} (hx : -2147483648 ≤ x ∧ x ≤ 2147483647) (hr : 0 ≤ r ∧ r ≤ 9) : Int32.ofInt x >>> (Int32.ofInt r &&& 31) = Int32.ofInt (x / 2 ^ r.toNat) := by
  have hc : r = 0 ∨ r = 1 ∨ r = 2 ∨ r = 3 ∨ r = 4 ∨ r = 5 ∨ r = 6 ∨ r = 7 ∨ r = 8 ∨ r = 9 := by omega
  rcases hc with rfl | rfl | rfl | rfl | rfl | rfl | rfl | rfl | rfl | rfl
  · exact z_shr1 (n := 0) hx (by decide) (by omega) rfl (by decide)
  · exact z_shr1 (n := 1) hx (by decide) (by omega) rfl (by decide)
  · exact z_shr1 (n := 2) hx (by decide) (by omega) rfl (by decide)
  · exact z_shr1 (n := 3) hx (by decide) (by omega) rfl (by decide)
  · exact z_shr1 (n := 4) hx (by decide) (by omega) rfl (by decide)
  · exact z_shr1 (n := 5) hx (by decide) (by omega) rfl (by decide)
  · exact z_shr1 (n := 6) hx (by decide) (by omega) rfl (by decide)
  · exact z_shr1 (n := 7) hx (by decide) (by omega) rfl (by decide)
  · exact z_shr1 (n := 8) hx (by decide) (by omega) rfl (by decide)
  · exact z_shr1 (n := 9) hx (by decide) (by omega) rfl (by decide)
theorem z_ishrN {a r : Int} {w : Nat} (hY : z_ok Y d M) (dd : z_at M pc .ishr 1 pc') (ha : a = (w : Int)) (hw : w < 1024) (hr : 0 ≤ r ∧ r ≤ 9) (kk : z_W Y pc' ls (z_i ((w / 2 ^ r.toNat : Nat) : Int) :: st) h k n) : z_W Y pc ls (z_i r :: z_i a :: st) h k n := by
  refine z_lift hY (fun p l e R s m args below meth c H locs cells slots Q lsA hx hb kk => ?_) kk
  obtain ⟨d1, rfl⟩ := dd
  refine lv_ishr hx hb d1 ?_
  rw [w_shr (by omega) hr, ha, show ((w : Int) / 2 ^ r.toNat) = ((w / 2 ^ r.toNat : Nat) : Int) by rw [Int.natCast_ediv]; rfl]
  exact kk
theorem w_and1 (y : Int) : Int32.ofInt y &&& 1 = Int32.ofInt (y % 2) := by
  apply Int32.toBitVec_inj.mp
  rw [Int32.toBitVec_and]
  apply BitVec.eq_of_toNat_eq
  rw [BitVec.toNat_and]
  show (BitVec.ofInt 32 y).toNat &&& 1 = (BitVec.ofInt 32 (y % 2)).toNat
  rw [BitVec.toNat_ofInt, BitVec.toNat_ofInt, show (1 : Nat) = 2 ^ 1 - 1 from rfl, Nat.and_two_pow_sub_one_eq_mod]
  omega
theorem z_iand1 {a : Int} (hY : z_ok Y d M) (dd : z_at M pc .iand 1 pc') (kk : z_W Y pc' ls (z_i (a % 2) :: st) h k n) : z_W Y pc ls (z_i 1 :: z_i a :: st) h k n := by
  refine z_lift hY (fun p l e R s m args below meth c H locs cells slots Q lsA hx hb kk => ?_) kk
  obtain ⟨d1, rfl⟩ := dd
  refine lv_iand hx hb d1 ?_
  rw [z_i, ← w_and1] at kk
  exact kk
theorem w_bit (w i : Nat) : (((w / 2 ^ i : Nat) : Int)) % 2 = z_bl (Nat.testBit w i = true) := by
  have := Nat.testBit_eq_decide_div_mod_eq (x := w) (i := i)
  rw [this]
  unfold z_bl
  by_cases c : w / 2 ^ i % 2 = 1
  · rw [if_pos (by simpa using c)]; omega
  · rw [if_neg (by simpa using c)]; omega
theorem z_ishl1 {b : Int} (hY : z_ok Y d M) (dd : z_at M pc .ishl 1 pc') (hr : 0 ≤ b ∧ b ≤ 9) (kk : z_W Y pc' ls (z_i ((2 ^ b.toNat : Nat) : Int) :: st) h k n) : z_W Y pc ls (z_i b :: z_i 1 :: st) h k n := by
  refine z_lift hY (fun p l e R s m args below meth c H locs cells slots Q lsA hx hb kk => ?_) kk
  obtain ⟨d1, rfl⟩ := dd
  refine lv_ishl hx hb d1 ?_
  have hc : b = 0 ∨ b = 1 ∨ b = 2 ∨ b = 3 ∨ b = 4 ∨ b = 5 ∨ b = 6 ∨ b = 7 ∨ b = 8 ∨ b = 9 := by omega
  have e : Int32.ofInt 1 <<< (Int32.ofInt b &&& 31) = Int32.ofInt ((2 ^ b.toNat : Nat) : Int) := by rcases hc with rfl | rfl | rfl | rfl | rfl | rfl | rfl | rfl | rfl | rfl <;> decide
  rw [e]
  exact kk
theorem z_iorN {a b : Int} {w v : Nat} (hY : z_ok Y d M) (dd : z_at M pc .ior 1 pc') (ha : a = (w : Int)) (hb2 : b = (v : Int)) (hw : w < 1024) (hv : v < 1024) (kk : z_W Y pc' ls (z_i ((w ||| v : Nat) : Int) :: st) h k n) : z_W Y pc ls (z_i b :: z_i a :: st) h k n := by
  refine z_lift hY (fun p l e R s m args below meth c H locs cells slots Q lsA hx hb kk => ?_) kk
  obtain ⟨d1, rfl⟩ := dd
  refine lv_ior hx hb d1 ?_
  have e : Int32.ofInt a ||| Int32.ofInt b = Int32.ofInt ((w ||| v : Nat) : Int) := by
    apply Int32.toBitVec_inj.mp
    rw [Int32.toBitVec_or]
    apply BitVec.eq_of_toNat_eq
    rw [BitVec.toNat_or]
    show (BitVec.ofInt 32 a).toNat ||| (BitVec.ofInt 32 b).toNat = (BitVec.ofInt 32 ((w ||| v : Nat) : Int)).toNat
    have h1 : w ||| v < 2 ^ 10 := Nat.or_lt_two_pow hw hv
    rw [BitVec.toNat_ofInt, BitVec.toNat_ofInt, BitVec.toNat_ofInt, ha, hb2]
    have f : ∀ u : Nat, u < 1024 → ((u : Int) % ((2 ^ 32 : Nat) : Int)).toNat = u := fun u hu => by omega
    rw [f w hw, f v hv, f _ h1]
  rw [e]
  exact kk
end
/-- how often a value is not yet taken -/
def uc (w : Nat) (g : Int → Int) (n v : Int) : Int := z_sm (fun r => if Nat.testBit w r.toNat = false ∧ g r = v then (1 : Int) else 0) n
theorem w_or2 {w : Nat} {b r : Int} (hb : 0 ≤ b) (hr : 0 ≤ r) : Nat.testBit (w ||| 2 ^ b.toNat) r.toNat = false ↔ (Nat.testBit w r.toNat = false ∧ r ≠ b) := by
  rw [Nat.testBit_or, Nat.testBit_two_pow, Bool.or_eq_false_iff, decide_eq_false_iff_not]
  exact ⟨fun q => ⟨q.1, fun z => q.2 (by rw [z])⟩, fun q => ⟨q.1, fun z => q.2 (by omega)⟩⟩
theorem uc_or {w : Nat} {g : Int → Int} {b v : Int} (hb : 0 ≤ b) (hw : Nat.testBit w b.toNat = false) : ∀ n : Int, 0 ≤ n → uc (w ||| 2 ^ b.toNat) g n v + (if b < n ∧ g b = v then 1 else 0) = uc w g n v := by
  unfold uc
  refine jn_ind ?_ ?_
  · rw [z_sm0 (by omega), z_sm0 (by omega), if_neg (by omega)]; rfl
  · intro n h0 ih
    rw [z_smS h0, z_smS h0, ← ih]
    have e := w_or2 (w := w) hb h0
    by_cases c : n = b
    · subst c
      rw [if_neg (fun q => (e.mp q.1).2 rfl), if_neg (show ¬ (n < n ∧ g n = v) from fun q => by have := q.1; omega)]
      by_cases c2 : g n = v
      · rw [if_pos ⟨by omega, c2⟩, if_pos ⟨hw, c2⟩]
      · rw [if_neg (fun q => c2 q.2), if_neg (fun q => c2 q.2)]
    · have e3 : (if Nat.testBit (w ||| 2 ^ b.toNat) n.toNat = false ∧ g n = v then (1 : Int) else 0) = if Nat.testBit w n.toNat = false ∧ g n = v then 1 else 0 := by
        by_cases c2 : Nat.testBit w n.toNat = false ∧ g n = v
        · rw [if_pos c2, if_pos ⟨e.mpr ⟨c2.1, c⟩, c2.2⟩]
        · rw [if_neg c2, if_neg (fun q => c2 ⟨(e.mp q.1).1, q.2⟩)]
      have e4 : (if b < n + 1 ∧ g b = v then (1 : Int) else 0) = if b < n ∧ g b = v then 1 else 0 := by
        by_cases c2 : b < n ∧ g b = v
        · rw [if_pos c2, if_pos ⟨by omega, c2.2⟩]
        · rw [if_neg c2, if_neg (fun q => c2 ⟨by have := q.1; omega, q.2⟩)]
      rw [e3, e4]
      omega
theorem uc_p {w : Nat} {g : Int → Int} {n b : Int} (hb : 0 ≤ b ∧ b < n) (hw : Nat.testBit w b.toNat = false) : 1 ≤ uc w g n (g b) := by
  have h1 := jn_ge (f := fun r => if Nat.testBit w r.toNat = false ∧ g r = g b then (1 : Int) else 0) (fun q => by show (0 : Int) ≤ if _ then _ else _; split <;> omega) hb
  have h2 : (if Nat.testBit w b.toNat = false ∧ g b = g b then (1 : Int) else 0) = 1 := if_pos ⟨hw, rfl⟩
  have h3 : (if Nat.testBit w b.toNat = false ∧ g b = g b then (1 : Int) else 0) ≤ uc w g n (g b) := h1
  omega
theorem uc_x {w : Nat} {g : Int → Int} {n v : Int} (h : 1 ≤ uc w g n v) : ∃ r, (0 ≤ r ∧ r < n) ∧ Nat.testBit w r.toNat = false ∧ g r = v := by
  by_cases c : ∃ r, (0 ≤ r ∧ r < n) ∧ Nat.testBit w r.toNat = false ∧ g r = v
  · exact c
  · exfalso
    have : uc w g n v = 0 := z_sm_zero fun j h0 h1 => if_neg fun q => c ⟨j, ⟨h0, h1⟩, q.1, q.2⟩
    omega
/-- the best of those not taken before r -/
def fB (w : Nat) (g : Int → Int) (b r : Int) : Prop := (b = -1 ∧ ∀ q, 0 ≤ q → q < r → Nat.testBit w q.toNat = true) ∨ (0 ≤ b ∧ b < r ∧ Nat.testBit w b.toNat = false ∧ ∀ q, 0 ≤ q → q < r → Nat.testBit w q.toNat = false → g q ≤ g b)
theorem fB_0 {w : Nat} {g : Int → Int} : fB w g (-1) 0 := Or.inl ⟨rfl, fun q _ _ => by omega⟩
theorem fB_t {w : Nat} {g : Int → Int} {b r : Int} (h : fB w g b r) (hr : 0 ≤ r) (ht : Nat.testBit w r.toNat = true) : fB w g b (r + 1) := by
  rcases h with ⟨h1, h2⟩ | ⟨h1, h2, h3, h4⟩
  · exact Or.inl ⟨h1, fun q q0 q1 => by
      by_cases c : q = r
      · rw [c]; exact ht
      · exact h2 q q0 (by omega)⟩
  · exact Or.inr ⟨h1, by omega, h3, fun q q0 q1 q2 => by
      by_cases c : q = r
      · rw [c, ht] at q2; exact absurd q2 (by decide)
      · exact h4 q q0 (by omega) q2⟩
theorem fB_k {w : Nat} {g : Int → Int} {b r : Int} (h : fB w g b r) (hb : b ≠ -1) (hg : g r ≤ g b) : fB w g b (r + 1) := by
  rcases h with ⟨h1, h2⟩ | ⟨h1, h2, h3, h4⟩
  · exact absurd h1 hb
  · exact Or.inr ⟨h1, by omega, h3, fun q q0 q1 q2 => by
      by_cases c : q = r
      · rw [c]; exact hg
      · exact h4 q q0 (by omega) q2⟩
theorem fB_n {w : Nat} {g : Int → Int} {b r : Int} (h : fB w g b r) (hr : 0 ≤ r) (ht : ¬ Nat.testBit w r.toNat = true) (hg : b = -1 ∨ g b < g r) : fB w g r (r + 1) := by
  have ht' : Nat.testBit w r.toNat = false := by cases hh : Nat.testBit w r.toNat; rfl; exact absurd hh ht
  refine Or.inr ⟨hr, by omega, ht', fun q q0 q1 q2 => ?_⟩
  by_cases c : q = r
  · rw [c]; exact Int.le_refl _
  · rcases h with ⟨h1, h2⟩ | ⟨h1, h2, h3, h4⟩
    · rw [h2 q q0 (by omega)] at q2; exact absurd q2 (by decide)
    · have := h4 q q0 (by omega) q2
      omega
theorem fB_b {w : Nat} {g : Int → Int} {b r : Int} (h : fB w g b r) : b = -1 ∨ (0 ≤ b ∧ b < r) := by
  rcases h with ⟨h1, h2⟩ | ⟨h1, h2, h3, h4⟩
  · exact Or.inl h1
  · exact Or.inr ⟨h1, h2⟩
theorem fm_step {g Yr : Int → Int} {n i b : Int} {w : Nat} (hd : jd Yr n) (hi : 0 ≤ i ∧ i < n) (hc : ∀ v, uc w g n v = jc Yr n i v) (hb : fB w g b n) : (0 ≤ b ∧ b < n) ∧ g b = Yr i ∧ ∀ v, uc (w ||| 2 ^ b.toNat) g n v = jc Yr n (i + 1) v := by
  have h1 := jc_p (R := Yr) (n := n) (i := i) (j := i) ⟨hi.1, Int.le_refl _, hi.2⟩
  rw [← hc] at h1
  obtain ⟨r, hr, r1, r2⟩ := uc_x h1
  rcases hb with ⟨-, b2⟩ | ⟨b1, b2, b3, b4⟩
  · rw [b2 r hr.1 hr.2] at r1; exact absurd r1 (by decide)
  · have h2 := b4 r hr.1 hr.2 r1
    have h3 := uc_p (g := g) ⟨b1, b2⟩ b3
    rw [hc] at h3
    obtain ⟨j, hj, j2⟩ := jc_x h3
    have h4 : Yr j ≤ Yr i := by
      by_cases c : j = i
      · rw [c]; exact Int.le_refl _
      · exact hd i j hi.1 (by omega) hj.2.2
    have h5 : g b = Yr i := by omega
    refine ⟨⟨b1, b2⟩, h5, fun v => ?_⟩
    have e1 := uc_or (g := g) (v := v) b1 b3 n (by omega)
    have e2 := jc_up (R := Yr) (n := n) (i := i) (g := i) (v := v) hi.1 ⟨Int.le_refl _, hi.2⟩
    have e3 : z_up Yr i (Yr i) = Yr := by
      funext q
      unfold z_up
      split
      · next c => rw [c]
      · rfl
    rw [e3] at e2
    rw [hc v] at e1
    have e4 : (if b < n ∧ g b = v then (1 : Int) else 0) = if Yr i = v then 1 else 0 := by
      rw [h5]
      by_cases c : Yr i = v
      · rw [if_pos ⟨b2, c⟩, if_pos c]
      · rw [if_neg (fun q => c q.2), if_neg c]
    omega
theorem fm_0 {ρ : z_S} {e n : Int} (hn : 0 ≤ n) : jd (yRw ρ e (fun _ => 0) n.toNat) n ∧ ∀ v, uc 0 (yGn ρ e) n v = jc (yRw ρ e (fun _ => 0) n.toNat) n 0 v := by
  obtain ⟨hd, hc⟩ := yRw_d ρ e (fun _ => 0) n.toNat
  have en : ((n.toNat : Nat) : Int) = n := by omega
  rw [en] at hd hc
  refine ⟨hd, fun v => ?_⟩
  have e2 : jc (yRw ρ e (fun _ => 0) n.toNat) n 0 v = z_sm (fun j => if yRw ρ e (fun _ => 0) n.toNat j = v then (1 : Int) else 0) n := jn_ct fun j h0 h1 => ⟨fun q => q.2, fun q => ⟨h0, q⟩⟩
  rw [e2, hc v]
  unfold uc
  exact jn_ct fun j h0 h1 => ⟨fun q => q.2, fun q => ⟨Nat.zero_testBit _, q⟩⟩
/-- the gains, as the law keeps them -/
theorem w_gn {t : Nat} {m : Int} {o : Prop} {B : Nat → Int → Nat} {κ : c_K} {A : Nat → Nat} {ρ σ : z_S} (h : gS t m o B κ A ρ σ) {e : Int} (he : 0 ≤ e ∧ e < 30) (r : Int) (hr : 0 ≤ r) : (σ 19 0 - 1 - r < 0 → yGn ρ e r = 0) ∧ (0 ≤ σ 19 0 - 1 - r → σ 12 (40 * e + σ 19 0 - r - 1) = yGn ρ e r) ∧ -1000000 ≤ yGn ρ e r ∧ yGn ρ e r ≤ 1000000 := by
  have h30 := gS_30 h
  refine ⟨fun q => ?_, fun q => ?_, ?_⟩
  · unfold yGn
    rw [if_pos (by omega)]
  · unfold yGn
    rw [if_neg (by omega), show 200 * e + ρ 30 0 - r - 1 = 200 * e + (σ 19 0 - 1 - r) by omega, (gS_L h).2.2.2.1 e (σ 19 0 - 1 - r) he.1 he.2 q (by omega)]
    congr 1
    omega
  · unfold yGn
    split
    · omega
    · exact (gS_j h).B 28 _
theorem la_form {G : z_G} {D : Nat} {B : Nat → Int → Nat} {κ : c_K} {A : Nat → Nat} {ρ σ : z_S} {h : z_H} {t : Nat} {m : Int} {o : Prop} (hG : z_OK G) (hI : gS t m o B κ A ρ σ) {e k n : Int} (he : 0 ≤ e ∧ e < 30) (hn : 1 ≤ n ∧ n ≤ 10 ∧ 1 ≤ k ∧ k ≤ n) : z_Tr G mL_form [.ref (A 40), z_i e, z_i k, z_i n] (gH D B κ A σ h) 0 (z_i (yFo ρ e k n)) := by
  refine z_T_of hG pL_form (Nat.le_of_ble_eq_true rfl) (ls0 := [(0, .ref (A 40)), (1, z_i e), (2, z_i k), (3, z_i n)]) rfl fun Y hY hg hmc hms hφ hψ => ?_
  subst hg
  have hb19 := (gS_b hI).s19 0
  obtain ⟨hd, hc0⟩ := fm_0 (ρ := ρ) (e := e) (n := n) (by omega)
  obtain ⟨Yr, hYr⟩ : ∃ Yr, Yr = yRw ρ e (fun _ => 0) n.toNat := ⟨_, rfl⟩
  have hyf : yFo ρ e k n = z_sm Yr k := by rw [hYr]; rfl
  rw [← hYr] at hd hc0
  refine z_const hY eL_form_0 ?_
  refine z_istore hY eL_form_1 (ls' := [(4, z_i 0), (0, .ref (A 40)), (1, z_i e), (2, z_i k), (3, z_i n)]) rfl ?_
  refine z_const hY eL_form_3 ?_
  refine z_istore hY eL_form_4 (ls' := [(5, z_i 0), (4, z_i 0), (0, .ref (A 40)), (1, z_i e), (2, z_i k), (3, z_i n)]) rfl ?_
  refine z_const hY eL_form_6 ?_
  refine z_istore hY eL_form_7 (ls' := [(6, z_i 0), (5, z_i 0), (4, z_i 0), (0, .ref (A 40)), (1, z_i e), (2, z_i k), (3, z_i n)]) rfl ?_
  refine z_sub [3, 4, 5, 6, 0, 2, 1] (ls' := [(0, .ref (A 40)), (1, z_i e), (2, z_i k), (3, z_i n), (6, z_i 0), (4, z_i 0), (5, z_i 0)]) rfl ?_
  have lp9 : ∀ (fu : Nat) (i : Int) (u : Int) (T : Int) (w : Nat), (k - i).toNat < fu → (0 ≤ i ∧ i ≤ k) → (u = z_sm Yr i) → (T = (w : Int) ∧ w < 1024) → (∀ v, uc w (yGn ρ e) n v = jc Yr n i v) → z_W Y 9 [(0, .ref (A 40)), (1, z_i e), (2, z_i k), (3, z_i n), (6, z_i i), (4, z_i u), (5, z_i T)] [] (gH D B κ A σ h) 0 0 := by
    intro fu
    induction fu with
    | zero => intro i u T w hf; exact absurd hf (Nat.not_lt_zero _)
    | succ fu ih9 =>
      intro i u T w hf hi hu hT hc
      refine z_iload hY eL_form_9 4 rfl ?_
      refine z_iload hY eL_form_11 2 rfl ?_
      refine z_icmpge hY eL_form_12 (by omega) (fun c12 => ?_) (fun c12 => ?_)
      · refine z_iload hY eL_form_195 5 rfl ?_
        exact z_ireturn hY eL_form_197 rfl (by rw [hφ]; exact ⟨congrArg (fun q => some (z_i q)) (by rw [hyf, hu, show i = k by omega]), rfl⟩) ⟨Nat.zero_le _, Nat.zero_le _⟩
      · refine z_const hY eL_form_15 ?_
        refine z_istore hY eL_form_16 (ls' := [(7, z_i (-1)), (0, .ref (A 40)), (1, z_i e), (2, z_i k), (3, z_i n), (6, z_i i), (4, z_i u), (5, z_i T)]) rfl ?_
        refine z_const hY eL_form_18 ?_
        refine z_istore hY eL_form_19 (ls' := [(8, z_i 0), (7, z_i (-1)), (0, .ref (A 40)), (1, z_i e), (2, z_i k), (3, z_i n), (6, z_i i), (4, z_i u), (5, z_i T)]) rfl ?_
        refine z_sub [2, 3, 4, 5, 7, 8, 6, 0, 1] (ls' := [(0, .ref (A 40)), (1, z_i e), (2, z_i k), (3, z_i n), (4, z_i u), (5, z_i T), (6, z_i i), (8, z_i 0), (7, z_i (-1))]) rfl ?_
        have lp21 : ∀ (fu : Nat) (r : Int) (b : Int), (n - r).toNat < fu → (0 ≤ r ∧ r ≤ n) → (fB w (yGn ρ e) b r) → z_W Y 21 [(0, .ref (A 40)), (1, z_i e), (2, z_i k), (3, z_i n), (4, z_i u), (5, z_i T), (6, z_i i), (8, z_i r), (7, z_i b)] [] (gH D B κ A σ h) 0 0 := by
          intro fu
          induction fu with
          | zero => intro r b hf; exact absurd hf (Nat.not_lt_zero _)
          | succ fu ih21 =>
            intro r b hf hr hfb
            refine z_iload hY eL_form_21 7 rfl ?_
            refine z_iload hY eL_form_23 3 rfl ?_
            refine z_icmpge hY eL_form_24 (by omega) (fun c24 => ?_) (fun c24 => ?_)
            · refine z_iload hY eL_form_140 5 rfl ?_
              refine z_const hY eL_form_142 ?_
              refine z_iload hY eL_form_143 8 rfl ?_
              obtain ⟨hbn, hgy, hcn⟩ := fm_step hd (by omega) hc (show fB w (yGn ρ e) b n from (show r = n by omega) ▸ hfb)
              have hp2 : 2 ^ b.toNat < 1024 := Nat.lt_of_le_of_lt (Nat.pow_le_pow_right (by decide) (show b.toNat ≤ 9 by omega)) (by decide)
              refine z_ishl1 hY eL_form_145 (by omega) ?_
              refine z_iorN hY eL_form_146 hT.1 rfl hT.2 hp2 ?_
              refine z_istore hY eL_form_147 (ls' := [(5, z_i ((w ||| 2 ^ b.toNat : Nat) : Int)), (0, .ref (A 40)), (1, z_i e), (2, z_i k), (3, z_i n), (4, z_i u), (6, z_i i), (8, z_i r), (7, z_i b)]) rfl ?_
              refine z_iload hY eL_form_149 5 rfl ?_
              refine z_aload hY eL_form_151 1 rfl ?_
              have hb1 := (gS_b hI).s19 0
              refine g_gf hY (gS_X hI) eL_form_152 (v := z_i (σ 19 0)) rfl ?_
              refine z_const hY eL_form_155 ?_
              refine z_isub hY eL_form_156 ?_
              refine z_iload hY eL_form_157 8 rfl ?_
              refine z_isub hY eL_form_159 ?_
              refine z_top (b := (σ 19 0) - b - 1) (by omega) ?_
              refine z_ifge hY eL_form_160 (by omega) (fun c160 => ?_) (fun c160 => ?_)
              · refine z_aload hY eL_form_167 1 rfl ?_
                refine g_gf hY (gS_X hI) eL_form_168 (v := .ref (A 12)) rfl ?_
                refine z_const hY eL_form_171 ?_
                refine z_iload hY eL_form_173 2 rfl ?_
                refine z_imul hY eL_form_174 ?_
                refine z_aload hY eL_form_175 1 rfl ?_
                refine g_gf hY (gS_X hI) eL_form_176 (v := z_i (σ 19 0)) rfl ?_
                refine z_iadd hY eL_form_179 ?_
                refine z_const hY eL_form_180 ?_
                refine z_isub hY eL_form_181 ?_
                refine z_iload hY eL_form_182 8 rfl ?_
                refine z_isub hY eL_form_184 ?_
                refine z_top (b := 40 * e + (σ 19 0) - b - 1) (by omega) ?_
                have hb2 := (gS_b hI).s12 (40 * e + (σ 19 0) - b - 1)
                refine g_ial hY (gS_X hI) eL_form_185 (j := 12) (N := 1200) (x := σ 12 (40 * e + (σ 19 0) - b - 1)) (by decide) rfl (by omega) rfl ?_
                have hgb := w_gn hI he b (by omega)
                refine z_top (b := yGn ρ e b) (hgb.2.1 (by omega)) ?_
                refine z_iadd hY eL_form_186 ?_
                refine z_istore hY eL_form_187 (ls' := [(4, z_i (u + (yGn ρ e b))), (5, z_i ((w ||| 2 ^ b.toNat : Nat) : Int)), (0, .ref (A 40)), (1, z_i e), (2, z_i k), (3, z_i n), (6, z_i i), (8, z_i r), (7, z_i b)]) rfl ?_
                refine z_iinc hY eL_form_189 6 rfl (ls' := [(6, z_i (i + 1)), (4, z_i (u + (yGn ρ e b))), (5, z_i ((w ||| 2 ^ b.toNat : Nat) : Int)), (0, .ref (A 40)), (1, z_i e), (2, z_i k), (3, z_i n), (8, z_i r), (7, z_i b)]) rfl ?_
                refine z_goto hY eL_form_192 ?_
                refine z_sub [3, 4, 5, 6, 0, 1, 2] (ls' := [(0, .ref (A 40)), (1, z_i e), (2, z_i k), (3, z_i n), (6, z_i (i + 1)), (4, z_i (u + (yGn ρ e b))), (5, z_i ((w ||| 2 ^ b.toNat : Nat) : Int))]) rfl ?_
                exact ih9 (i + 1) (u + (yGn ρ e b)) ((w ||| 2 ^ b.toNat : Nat) : Int) (w ||| 2 ^ b.toNat) (by omega) (by omega) (by rw [z_smS (by omega)]; omega) ⟨rfl, Nat.or_lt_two_pow (n := 10) hT.2 hp2⟩ hcn
              · refine z_const hY eL_form_163 ?_
                refine z_goto hY eL_form_164 ?_
                have hgb := w_gn hI he b (by omega)
                refine z_top (b := yGn ρ e b) (hgb.1 (by omega)).symm ?_
                refine z_iadd hY eL_form_186 ?_
                refine z_istore hY eL_form_187 (ls' := [(4, z_i (u + (yGn ρ e b))), (5, z_i ((w ||| 2 ^ b.toNat : Nat) : Int)), (0, .ref (A 40)), (1, z_i e), (2, z_i k), (3, z_i n), (6, z_i i), (8, z_i r), (7, z_i b)]) rfl ?_
                refine z_iinc hY eL_form_189 6 rfl (ls' := [(6, z_i (i + 1)), (4, z_i (u + (yGn ρ e b))), (5, z_i ((w ||| 2 ^ b.toNat : Nat) : Int)), (0, .ref (A 40)), (1, z_i e), (2, z_i k), (3, z_i n), (8, z_i r), (7, z_i b)]) rfl ?_
                refine z_goto hY eL_form_192 ?_
                refine z_sub [3, 4, 5, 6, 0, 1, 2] (ls' := [(0, .ref (A 40)), (1, z_i e), (2, z_i k), (3, z_i n), (6, z_i (i + 1)), (4, z_i (u + (yGn ρ e b))), (5, z_i ((w ||| 2 ^ b.toNat : Nat) : Int))]) rfl ?_
                exact ih9 (i + 1) (u + (yGn ρ e b)) ((w ||| 2 ^ b.toNat : Nat) : Int) (w ||| 2 ^ b.toNat) (by omega) (by omega) (by rw [z_smS (by omega)]; omega) ⟨rfl, Nat.or_lt_two_pow (n := 10) hT.2 hp2⟩ hcn
            · have hfbb := fB_b hfb
              refine z_aload hY eL_form_27 0 rfl ?_
              have hb3 := (gS_b hI).s19 0
              refine g_gf hY (gS_X hI) eL_form_28 (v := z_i (σ 19 0)) rfl ?_
              refine z_const hY eL_form_31 ?_
              refine z_isub hY eL_form_32 ?_
              refine z_iload hY eL_form_33 7 rfl ?_
              refine z_isub hY eL_form_35 ?_
              refine z_top (b := (σ 19 0) - r - 1) (by omega) ?_
              refine z_ifge hY eL_form_36 (by omega) (fun c36 => ?_) (fun c36 => ?_)
              · refine z_aload hY eL_form_43 0 rfl ?_
                refine g_gf hY (gS_X hI) eL_form_44 (v := .ref (A 12)) rfl ?_
                refine z_const hY eL_form_47 ?_
                refine z_iload hY eL_form_49 1 rfl ?_
                refine z_imul hY eL_form_50 ?_
                refine z_aload hY eL_form_51 0 rfl ?_
                refine g_gf hY (gS_X hI) eL_form_52 (v := z_i (σ 19 0)) rfl ?_
                refine z_iadd hY eL_form_55 ?_
                refine z_const hY eL_form_56 ?_
                refine z_isub hY eL_form_57 ?_
                refine z_iload hY eL_form_58 7 rfl ?_
                refine z_isub hY eL_form_60 ?_
                refine z_top (b := 40 * e + (σ 19 0) - r - 1) (by omega) ?_
                have hb4 := (gS_b hI).s12 (40 * e + (σ 19 0) - r - 1)
                refine g_ial hY (gS_X hI) eL_form_61 (j := 12) (N := 1200) (x := σ 12 (40 * e + (σ 19 0) - r - 1)) (by decide) rfl (by omega) rfl ?_
                have hgr := w_gn hI he r (by omega)
                refine z_top (b := yGn ρ e r) (hgr.2.1 (by omega)) ?_
                refine z_istore hY eL_form_62 (ls' := [(9, z_i (yGn ρ e r)), (0, .ref (A 40)), (1, z_i e), (2, z_i k), (3, z_i n), (4, z_i u), (5, z_i T), (6, z_i i), (8, z_i r), (7, z_i b)]) rfl ?_
                refine z_iload hY eL_form_64 9 rfl ?_
                refine z_const hY eL_form_66 ?_
                refine z_icmpeq hY eL_form_67 (by omega) (fun c67 => ?_) (fun c67 => ?_)
                · refine z_const hY eL_form_82 ?_
                  refine z_goto hY eL_form_83 ?_
                  refine z_istore hY eL_form_105 (ls' := [(10, z_i 0), (9, z_i (yGn ρ e r)), (0, .ref (A 40)), (1, z_i e), (2, z_i k), (3, z_i n), (4, z_i u), (5, z_i T), (6, z_i i), (8, z_i r), (7, z_i b)]) rfl ?_
                  refine z_iload hY eL_form_107 7 rfl ?_
                  refine z_iload hY eL_form_109 9 rfl ?_
                  refine z_ishrN hY eL_form_111 hT.1 hT.2 (by omega) ?_
                  refine z_const hY eL_form_112 ?_
                  refine z_iand1 hY eL_form_113 ?_
                  refine z_top (b := z_bl (Nat.testBit w r.toNat = true)) (w_bit w r.toNat) ?_
                  refine z_ifneb hY eL_form_114 (fun c114 => ?_) (fun c114 => ?_)
                  · refine z_iinc hY eL_form_134 9 rfl (ls' := [(8, z_i (r + 1)), (10, z_i 0), (9, z_i (yGn ρ e r)), (0, .ref (A 40)), (1, z_i e), (2, z_i k), (3, z_i n), (4, z_i u), (5, z_i T), (6, z_i i), (7, z_i b)]) rfl ?_
                    refine z_goto hY eL_form_137 ?_
                    refine z_sub [3, 4, 5, 6, 7, 8, 9, 0, 10] (ls' := [(0, .ref (A 40)), (1, z_i e), (2, z_i k), (3, z_i n), (4, z_i u), (5, z_i T), (6, z_i i), (8, z_i (r + 1)), (7, z_i b)]) rfl ?_
                    exact ih21 (r + 1) b (by omega) (by omega) (fB_t hfb (by omega) c114)
                  · refine z_iload hY eL_form_117 10 rfl ?_
                    refine z_const hY eL_form_119 ?_
                    refine z_icmpeq hY eL_form_120 (by omega) (fun c120 => ?_) (fun c120 => ?_)
                    · refine z_iload hY eL_form_130 9 rfl ?_
                      refine z_istore hY eL_form_132 (ls' := [(7, z_i r), (10, z_i 0), (9, z_i (yGn ρ e r)), (0, .ref (A 40)), (1, z_i e), (2, z_i k), (3, z_i n), (4, z_i u), (5, z_i T), (6, z_i i), (8, z_i r)]) rfl ?_
                      refine z_iinc hY eL_form_134 10 rfl (ls' := [(8, z_i (r + 1)), (7, z_i r), (10, z_i 0), (9, z_i (yGn ρ e r)), (0, .ref (A 40)), (1, z_i e), (2, z_i k), (3, z_i n), (4, z_i u), (5, z_i T), (6, z_i i)]) rfl ?_
                      refine z_goto hY eL_form_137 ?_
                      refine z_sub [4, 5, 6, 7, 8, 9, 10, 0, 1] (ls' := [(0, .ref (A 40)), (1, z_i e), (2, z_i k), (3, z_i n), (4, z_i u), (5, z_i T), (6, z_i i), (8, z_i (r + 1)), (7, z_i r)]) rfl ?_
                      exact ih21 (r + 1) r (by omega) (by omega) (fB_n hfb (by omega) c114 (by omega))
                    · refine z_iload hY eL_form_123 1 rfl ?_
                      refine z_iload hY eL_form_125 0 rfl ?_
                      refine z_icmple hY eL_form_127 (by omega) (fun c127 => ?_) (fun c127 => ?_)
                      · refine z_iinc hY eL_form_134 9 rfl (ls' := [(8, z_i (r + 1)), (10, z_i 0), (9, z_i (yGn ρ e r)), (0, .ref (A 40)), (1, z_i e), (2, z_i k), (3, z_i n), (4, z_i u), (5, z_i T), (6, z_i i), (7, z_i b)]) rfl ?_
                        refine z_goto hY eL_form_137 ?_
                        refine z_sub [3, 4, 5, 6, 7, 8, 9, 0, 10] (ls' := [(0, .ref (A 40)), (1, z_i e), (2, z_i k), (3, z_i n), (4, z_i u), (5, z_i T), (6, z_i i), (8, z_i (r + 1)), (7, z_i b)]) rfl ?_
                        exact ih21 (r + 1) b (by omega) (by omega) (fB_k hfb (by omega) (by omega))
                      · refine z_iload hY eL_form_130 9 rfl ?_
                        refine z_istore hY eL_form_132 (ls' := [(7, z_i r), (10, z_i 0), (9, z_i (yGn ρ e r)), (0, .ref (A 40)), (1, z_i e), (2, z_i k), (3, z_i n), (4, z_i u), (5, z_i T), (6, z_i i), (8, z_i r)]) rfl ?_
                        refine z_iinc hY eL_form_134 10 rfl (ls' := [(8, z_i (r + 1)), (7, z_i r), (10, z_i 0), (9, z_i (yGn ρ e r)), (0, .ref (A 40)), (1, z_i e), (2, z_i k), (3, z_i n), (4, z_i u), (5, z_i T), (6, z_i i)]) rfl ?_
                        refine z_goto hY eL_form_137 ?_
                        refine z_sub [4, 5, 6, 7, 8, 9, 10, 0, 1] (ls' := [(0, .ref (A 40)), (1, z_i e), (2, z_i k), (3, z_i n), (4, z_i u), (5, z_i T), (6, z_i i), (8, z_i (r + 1)), (7, z_i r)]) rfl ?_
                        exact ih21 (r + 1) r (by omega) (by omega) (fB_n hfb (by omega) c114 (by omega))
                · refine z_aload hY eL_form_70 1 rfl ?_
                  refine g_gf hY (gS_X hI) eL_form_71 (v := z_i (σ 19 0)) rfl ?_
                  refine z_const hY eL_form_74 ?_
                  refine z_isub hY eL_form_75 ?_
                  refine z_iload hY eL_form_76 9 rfl ?_
                  refine z_isub hY eL_form_78 ?_
                  refine z_top (b := (σ 19 0) - b - 1) (by omega) ?_
                  refine z_ifge hY eL_form_79 (by omega) (fun c79 => ?_) (fun c79 => ?_)
                  · refine z_aload hY eL_form_86 1 rfl ?_
                    refine g_gf hY (gS_X hI) eL_form_87 (v := .ref (A 12)) rfl ?_
                    refine z_const hY eL_form_90 ?_
                    refine z_iload hY eL_form_92 2 rfl ?_
                    refine z_imul hY eL_form_93 ?_
                    refine z_aload hY eL_form_94 1 rfl ?_
                    refine g_gf hY (gS_X hI) eL_form_95 (v := z_i (σ 19 0)) rfl ?_
                    refine z_iadd hY eL_form_98 ?_
                    refine z_const hY eL_form_99 ?_
                    refine z_isub hY eL_form_100 ?_
                    refine z_iload hY eL_form_101 9 rfl ?_
                    refine z_isub hY eL_form_103 ?_
                    refine z_top (b := 40 * e + (σ 19 0) - b - 1) (by omega) ?_
                    have hb5 := (gS_b hI).s12 (40 * e + (σ 19 0) - b - 1)
                    refine g_ial hY (gS_X hI) eL_form_104 (j := 12) (N := 1200) (x := σ 12 (40 * e + (σ 19 0) - b - 1)) (by decide) rfl (by omega) rfl ?_
                    have hgb := w_gn hI he b (by omega)
                    refine z_top (b := yGn ρ e b) (hgb.2.1 (by omega)) ?_
                    refine z_istore hY eL_form_105 (ls' := [(10, z_i (yGn ρ e b)), (9, z_i (yGn ρ e r)), (0, .ref (A 40)), (1, z_i e), (2, z_i k), (3, z_i n), (4, z_i u), (5, z_i T), (6, z_i i), (8, z_i r), (7, z_i b)]) rfl ?_
                    refine z_iload hY eL_form_107 7 rfl ?_
                    refine z_iload hY eL_form_109 9 rfl ?_
                    refine z_ishrN hY eL_form_111 hT.1 hT.2 (by omega) ?_
                    refine z_const hY eL_form_112 ?_
                    refine z_iand1 hY eL_form_113 ?_
                    refine z_top (b := z_bl (Nat.testBit w r.toNat = true)) (w_bit w r.toNat) ?_
                    refine z_ifneb hY eL_form_114 (fun c114 => ?_) (fun c114 => ?_)
                    · refine z_iinc hY eL_form_134 9 rfl (ls' := [(8, z_i (r + 1)), (10, z_i (yGn ρ e b)), (9, z_i (yGn ρ e r)), (0, .ref (A 40)), (1, z_i e), (2, z_i k), (3, z_i n), (4, z_i u), (5, z_i T), (6, z_i i), (7, z_i b)]) rfl ?_
                      refine z_goto hY eL_form_137 ?_
                      refine z_sub [3, 4, 5, 6, 7, 8, 9, 0, 10] (ls' := [(0, .ref (A 40)), (1, z_i e), (2, z_i k), (3, z_i n), (4, z_i u), (5, z_i T), (6, z_i i), (8, z_i (r + 1)), (7, z_i b)]) rfl ?_
                      exact ih21 (r + 1) b (by omega) (by omega) (fB_t hfb (by omega) c114)
                    · refine z_iload hY eL_form_117 10 rfl ?_
                      refine z_const hY eL_form_119 ?_
                      refine z_icmpeq hY eL_form_120 (by omega) (fun c120 => ?_) (fun c120 => ?_)
                      · refine z_iload hY eL_form_130 9 rfl ?_
                        refine z_istore hY eL_form_132 (ls' := [(7, z_i r), (10, z_i (yGn ρ e b)), (9, z_i (yGn ρ e r)), (0, .ref (A 40)), (1, z_i e), (2, z_i k), (3, z_i n), (4, z_i u), (5, z_i T), (6, z_i i), (8, z_i r)]) rfl ?_
                        refine z_iinc hY eL_form_134 10 rfl (ls' := [(8, z_i (r + 1)), (7, z_i r), (10, z_i (yGn ρ e b)), (9, z_i (yGn ρ e r)), (0, .ref (A 40)), (1, z_i e), (2, z_i k), (3, z_i n), (4, z_i u), (5, z_i T), (6, z_i i)]) rfl ?_
                        refine z_goto hY eL_form_137 ?_
                        refine z_sub [4, 5, 6, 7, 8, 9, 10, 0, 1] (ls' := [(0, .ref (A 40)), (1, z_i e), (2, z_i k), (3, z_i n), (4, z_i u), (5, z_i T), (6, z_i i), (8, z_i (r + 1)), (7, z_i r)]) rfl ?_
                        exact ih21 (r + 1) r (by omega) (by omega) (fB_n hfb (by omega) c114 (by omega))
                      · refine z_iload hY eL_form_123 1 rfl ?_
                        refine z_iload hY eL_form_125 0 rfl ?_
                        refine z_icmple hY eL_form_127 (by omega) (fun c127 => ?_) (fun c127 => ?_)
                        · refine z_iinc hY eL_form_134 9 rfl (ls' := [(8, z_i (r + 1)), (10, z_i (yGn ρ e b)), (9, z_i (yGn ρ e r)), (0, .ref (A 40)), (1, z_i e), (2, z_i k), (3, z_i n), (4, z_i u), (5, z_i T), (6, z_i i), (7, z_i b)]) rfl ?_
                          refine z_goto hY eL_form_137 ?_
                          refine z_sub [3, 4, 5, 6, 7, 8, 9, 0, 10] (ls' := [(0, .ref (A 40)), (1, z_i e), (2, z_i k), (3, z_i n), (4, z_i u), (5, z_i T), (6, z_i i), (8, z_i (r + 1)), (7, z_i b)]) rfl ?_
                          exact ih21 (r + 1) b (by omega) (by omega) (fB_k hfb (by omega) (by omega))
                        · refine z_iload hY eL_form_130 9 rfl ?_
                          refine z_istore hY eL_form_132 (ls' := [(7, z_i r), (10, z_i (yGn ρ e b)), (9, z_i (yGn ρ e r)), (0, .ref (A 40)), (1, z_i e), (2, z_i k), (3, z_i n), (4, z_i u), (5, z_i T), (6, z_i i), (8, z_i r)]) rfl ?_
                          refine z_iinc hY eL_form_134 10 rfl (ls' := [(8, z_i (r + 1)), (7, z_i r), (10, z_i (yGn ρ e b)), (9, z_i (yGn ρ e r)), (0, .ref (A 40)), (1, z_i e), (2, z_i k), (3, z_i n), (4, z_i u), (5, z_i T), (6, z_i i)]) rfl ?_
                          refine z_goto hY eL_form_137 ?_
                          refine z_sub [4, 5, 6, 7, 8, 9, 10, 0, 1] (ls' := [(0, .ref (A 40)), (1, z_i e), (2, z_i k), (3, z_i n), (4, z_i u), (5, z_i T), (6, z_i i), (8, z_i (r + 1)), (7, z_i r)]) rfl ?_
                          exact ih21 (r + 1) r (by omega) (by omega) (fB_n hfb (by omega) c114 (by omega))
                  · refine z_const hY eL_form_82 ?_
                    refine z_goto hY eL_form_83 ?_
                    have hgb := w_gn hI he b (by omega)
                    refine z_top (b := yGn ρ e b) (hgb.1 (by omega)).symm ?_
                    refine z_istore hY eL_form_105 (ls' := [(10, z_i (yGn ρ e b)), (9, z_i (yGn ρ e r)), (0, .ref (A 40)), (1, z_i e), (2, z_i k), (3, z_i n), (4, z_i u), (5, z_i T), (6, z_i i), (8, z_i r), (7, z_i b)]) rfl ?_
                    refine z_iload hY eL_form_107 7 rfl ?_
                    refine z_iload hY eL_form_109 9 rfl ?_
                    refine z_ishrN hY eL_form_111 hT.1 hT.2 (by omega) ?_
                    refine z_const hY eL_form_112 ?_
                    refine z_iand1 hY eL_form_113 ?_
                    refine z_top (b := z_bl (Nat.testBit w r.toNat = true)) (w_bit w r.toNat) ?_
                    refine z_ifneb hY eL_form_114 (fun c114 => ?_) (fun c114 => ?_)
                    · refine z_iinc hY eL_form_134 9 rfl (ls' := [(8, z_i (r + 1)), (10, z_i (yGn ρ e b)), (9, z_i (yGn ρ e r)), (0, .ref (A 40)), (1, z_i e), (2, z_i k), (3, z_i n), (4, z_i u), (5, z_i T), (6, z_i i), (7, z_i b)]) rfl ?_
                      refine z_goto hY eL_form_137 ?_
                      refine z_sub [3, 4, 5, 6, 7, 8, 9, 0, 10] (ls' := [(0, .ref (A 40)), (1, z_i e), (2, z_i k), (3, z_i n), (4, z_i u), (5, z_i T), (6, z_i i), (8, z_i (r + 1)), (7, z_i b)]) rfl ?_
                      exact ih21 (r + 1) b (by omega) (by omega) (fB_t hfb (by omega) c114)
                    · refine z_iload hY eL_form_117 10 rfl ?_
                      refine z_const hY eL_form_119 ?_
                      refine z_icmpeq hY eL_form_120 (by omega) (fun c120 => ?_) (fun c120 => ?_)
                      · refine z_iload hY eL_form_130 9 rfl ?_
                        refine z_istore hY eL_form_132 (ls' := [(7, z_i r), (10, z_i (yGn ρ e b)), (9, z_i (yGn ρ e r)), (0, .ref (A 40)), (1, z_i e), (2, z_i k), (3, z_i n), (4, z_i u), (5, z_i T), (6, z_i i), (8, z_i r)]) rfl ?_
                        refine z_iinc hY eL_form_134 10 rfl (ls' := [(8, z_i (r + 1)), (7, z_i r), (10, z_i (yGn ρ e b)), (9, z_i (yGn ρ e r)), (0, .ref (A 40)), (1, z_i e), (2, z_i k), (3, z_i n), (4, z_i u), (5, z_i T), (6, z_i i)]) rfl ?_
                        refine z_goto hY eL_form_137 ?_
                        refine z_sub [4, 5, 6, 7, 8, 9, 10, 0, 1] (ls' := [(0, .ref (A 40)), (1, z_i e), (2, z_i k), (3, z_i n), (4, z_i u), (5, z_i T), (6, z_i i), (8, z_i (r + 1)), (7, z_i r)]) rfl ?_
                        exact ih21 (r + 1) r (by omega) (by omega) (fB_n hfb (by omega) c114 (by omega))
                      · refine z_iload hY eL_form_123 1 rfl ?_
                        refine z_iload hY eL_form_125 0 rfl ?_
                        refine z_icmple hY eL_form_127 (by omega) (fun c127 => ?_) (fun c127 => ?_)
                        · refine z_iinc hY eL_form_134 9 rfl (ls' := [(8, z_i (r + 1)), (10, z_i (yGn ρ e b)), (9, z_i (yGn ρ e r)), (0, .ref (A 40)), (1, z_i e), (2, z_i k), (3, z_i n), (4, z_i u), (5, z_i T), (6, z_i i), (7, z_i b)]) rfl ?_
                          refine z_goto hY eL_form_137 ?_
                          refine z_sub [3, 4, 5, 6, 7, 8, 9, 0, 10] (ls' := [(0, .ref (A 40)), (1, z_i e), (2, z_i k), (3, z_i n), (4, z_i u), (5, z_i T), (6, z_i i), (8, z_i (r + 1)), (7, z_i b)]) rfl ?_
                          exact ih21 (r + 1) b (by omega) (by omega) (fB_k hfb (by omega) (by omega))
                        · refine z_iload hY eL_form_130 9 rfl ?_
                          refine z_istore hY eL_form_132 (ls' := [(7, z_i r), (10, z_i (yGn ρ e b)), (9, z_i (yGn ρ e r)), (0, .ref (A 40)), (1, z_i e), (2, z_i k), (3, z_i n), (4, z_i u), (5, z_i T), (6, z_i i), (8, z_i r)]) rfl ?_
                          refine z_iinc hY eL_form_134 10 rfl (ls' := [(8, z_i (r + 1)), (7, z_i r), (10, z_i (yGn ρ e b)), (9, z_i (yGn ρ e r)), (0, .ref (A 40)), (1, z_i e), (2, z_i k), (3, z_i n), (4, z_i u), (5, z_i T), (6, z_i i)]) rfl ?_
                          refine z_goto hY eL_form_137 ?_
                          refine z_sub [4, 5, 6, 7, 8, 9, 10, 0, 1] (ls' := [(0, .ref (A 40)), (1, z_i e), (2, z_i k), (3, z_i n), (4, z_i u), (5, z_i T), (6, z_i i), (8, z_i (r + 1)), (7, z_i r)]) rfl ?_
                          exact ih21 (r + 1) r (by omega) (by omega) (fB_n hfb (by omega) c114 (by omega))
              · refine z_const hY eL_form_39 ?_
                refine z_goto hY eL_form_40 ?_
                have hgr := w_gn hI he r (by omega)
                refine z_top (b := yGn ρ e r) (hgr.1 (by omega)).symm ?_
                refine z_istore hY eL_form_62 (ls' := [(9, z_i (yGn ρ e r)), (0, .ref (A 40)), (1, z_i e), (2, z_i k), (3, z_i n), (4, z_i u), (5, z_i T), (6, z_i i), (8, z_i r), (7, z_i b)]) rfl ?_
                refine z_iload hY eL_form_64 9 rfl ?_
                refine z_const hY eL_form_66 ?_
                refine z_icmpeq hY eL_form_67 (by omega) (fun c67 => ?_) (fun c67 => ?_)
                · refine z_const hY eL_form_82 ?_
                  refine z_goto hY eL_form_83 ?_
                  refine z_istore hY eL_form_105 (ls' := [(10, z_i 0), (9, z_i (yGn ρ e r)), (0, .ref (A 40)), (1, z_i e), (2, z_i k), (3, z_i n), (4, z_i u), (5, z_i T), (6, z_i i), (8, z_i r), (7, z_i b)]) rfl ?_
                  refine z_iload hY eL_form_107 7 rfl ?_
                  refine z_iload hY eL_form_109 9 rfl ?_
                  refine z_ishrN hY eL_form_111 hT.1 hT.2 (by omega) ?_
                  refine z_const hY eL_form_112 ?_
                  refine z_iand1 hY eL_form_113 ?_
                  refine z_top (b := z_bl (Nat.testBit w r.toNat = true)) (w_bit w r.toNat) ?_
                  refine z_ifneb hY eL_form_114 (fun c114 => ?_) (fun c114 => ?_)
                  · refine z_iinc hY eL_form_134 9 rfl (ls' := [(8, z_i (r + 1)), (10, z_i 0), (9, z_i (yGn ρ e r)), (0, .ref (A 40)), (1, z_i e), (2, z_i k), (3, z_i n), (4, z_i u), (5, z_i T), (6, z_i i), (7, z_i b)]) rfl ?_
                    refine z_goto hY eL_form_137 ?_
                    refine z_sub [3, 4, 5, 6, 7, 8, 9, 0, 10] (ls' := [(0, .ref (A 40)), (1, z_i e), (2, z_i k), (3, z_i n), (4, z_i u), (5, z_i T), (6, z_i i), (8, z_i (r + 1)), (7, z_i b)]) rfl ?_
                    exact ih21 (r + 1) b (by omega) (by omega) (fB_t hfb (by omega) c114)
                  · refine z_iload hY eL_form_117 10 rfl ?_
                    refine z_const hY eL_form_119 ?_
                    refine z_icmpeq hY eL_form_120 (by omega) (fun c120 => ?_) (fun c120 => ?_)
                    · refine z_iload hY eL_form_130 9 rfl ?_
                      refine z_istore hY eL_form_132 (ls' := [(7, z_i r), (10, z_i 0), (9, z_i (yGn ρ e r)), (0, .ref (A 40)), (1, z_i e), (2, z_i k), (3, z_i n), (4, z_i u), (5, z_i T), (6, z_i i), (8, z_i r)]) rfl ?_
                      refine z_iinc hY eL_form_134 10 rfl (ls' := [(8, z_i (r + 1)), (7, z_i r), (10, z_i 0), (9, z_i (yGn ρ e r)), (0, .ref (A 40)), (1, z_i e), (2, z_i k), (3, z_i n), (4, z_i u), (5, z_i T), (6, z_i i)]) rfl ?_
                      refine z_goto hY eL_form_137 ?_
                      refine z_sub [4, 5, 6, 7, 8, 9, 10, 0, 1] (ls' := [(0, .ref (A 40)), (1, z_i e), (2, z_i k), (3, z_i n), (4, z_i u), (5, z_i T), (6, z_i i), (8, z_i (r + 1)), (7, z_i r)]) rfl ?_
                      exact ih21 (r + 1) r (by omega) (by omega) (fB_n hfb (by omega) c114 (by omega))
                    · refine z_iload hY eL_form_123 1 rfl ?_
                      refine z_iload hY eL_form_125 0 rfl ?_
                      refine z_icmple hY eL_form_127 (by omega) (fun c127 => ?_) (fun c127 => ?_)
                      · refine z_iinc hY eL_form_134 9 rfl (ls' := [(8, z_i (r + 1)), (10, z_i 0), (9, z_i (yGn ρ e r)), (0, .ref (A 40)), (1, z_i e), (2, z_i k), (3, z_i n), (4, z_i u), (5, z_i T), (6, z_i i), (7, z_i b)]) rfl ?_
                        refine z_goto hY eL_form_137 ?_
                        refine z_sub [3, 4, 5, 6, 7, 8, 9, 0, 10] (ls' := [(0, .ref (A 40)), (1, z_i e), (2, z_i k), (3, z_i n), (4, z_i u), (5, z_i T), (6, z_i i), (8, z_i (r + 1)), (7, z_i b)]) rfl ?_
                        exact ih21 (r + 1) b (by omega) (by omega) (fB_k hfb (by omega) (by omega))
                      · refine z_iload hY eL_form_130 9 rfl ?_
                        refine z_istore hY eL_form_132 (ls' := [(7, z_i r), (10, z_i 0), (9, z_i (yGn ρ e r)), (0, .ref (A 40)), (1, z_i e), (2, z_i k), (3, z_i n), (4, z_i u), (5, z_i T), (6, z_i i), (8, z_i r)]) rfl ?_
                        refine z_iinc hY eL_form_134 10 rfl (ls' := [(8, z_i (r + 1)), (7, z_i r), (10, z_i 0), (9, z_i (yGn ρ e r)), (0, .ref (A 40)), (1, z_i e), (2, z_i k), (3, z_i n), (4, z_i u), (5, z_i T), (6, z_i i)]) rfl ?_
                        refine z_goto hY eL_form_137 ?_
                        refine z_sub [4, 5, 6, 7, 8, 9, 10, 0, 1] (ls' := [(0, .ref (A 40)), (1, z_i e), (2, z_i k), (3, z_i n), (4, z_i u), (5, z_i T), (6, z_i i), (8, z_i (r + 1)), (7, z_i r)]) rfl ?_
                        exact ih21 (r + 1) r (by omega) (by omega) (fB_n hfb (by omega) c114 (by omega))
                · refine z_aload hY eL_form_70 1 rfl ?_
                  refine g_gf hY (gS_X hI) eL_form_71 (v := z_i (σ 19 0)) rfl ?_
                  refine z_const hY eL_form_74 ?_
                  refine z_isub hY eL_form_75 ?_
                  refine z_iload hY eL_form_76 9 rfl ?_
                  refine z_isub hY eL_form_78 ?_
                  refine z_top (b := (σ 19 0) - b - 1) (by omega) ?_
                  refine z_ifge hY eL_form_79 (by omega) (fun c79 => ?_) (fun c79 => ?_)
                  · refine z_aload hY eL_form_86 1 rfl ?_
                    refine g_gf hY (gS_X hI) eL_form_87 (v := .ref (A 12)) rfl ?_
                    refine z_const hY eL_form_90 ?_
                    refine z_iload hY eL_form_92 2 rfl ?_
                    refine z_imul hY eL_form_93 ?_
                    refine z_aload hY eL_form_94 1 rfl ?_
                    refine g_gf hY (gS_X hI) eL_form_95 (v := z_i (σ 19 0)) rfl ?_
                    refine z_iadd hY eL_form_98 ?_
                    refine z_const hY eL_form_99 ?_
                    refine z_isub hY eL_form_100 ?_
                    refine z_iload hY eL_form_101 9 rfl ?_
                    refine z_isub hY eL_form_103 ?_
                    refine z_top (b := 40 * e + (σ 19 0) - b - 1) (by omega) ?_
                    have hb6 := (gS_b hI).s12 (40 * e + (σ 19 0) - b - 1)
                    refine g_ial hY (gS_X hI) eL_form_104 (j := 12) (N := 1200) (x := σ 12 (40 * e + (σ 19 0) - b - 1)) (by decide) rfl (by omega) rfl ?_
                    have hgb := w_gn hI he b (by omega)
                    refine z_top (b := yGn ρ e b) (hgb.2.1 (by omega)) ?_
                    refine z_istore hY eL_form_105 (ls' := [(10, z_i (yGn ρ e b)), (9, z_i (yGn ρ e r)), (0, .ref (A 40)), (1, z_i e), (2, z_i k), (3, z_i n), (4, z_i u), (5, z_i T), (6, z_i i), (8, z_i r), (7, z_i b)]) rfl ?_
                    refine z_iload hY eL_form_107 7 rfl ?_
                    refine z_iload hY eL_form_109 9 rfl ?_
                    refine z_ishrN hY eL_form_111 hT.1 hT.2 (by omega) ?_
                    refine z_const hY eL_form_112 ?_
                    refine z_iand1 hY eL_form_113 ?_
                    refine z_top (b := z_bl (Nat.testBit w r.toNat = true)) (w_bit w r.toNat) ?_
                    refine z_ifneb hY eL_form_114 (fun c114 => ?_) (fun c114 => ?_)
                    · refine z_iinc hY eL_form_134 9 rfl (ls' := [(8, z_i (r + 1)), (10, z_i (yGn ρ e b)), (9, z_i (yGn ρ e r)), (0, .ref (A 40)), (1, z_i e), (2, z_i k), (3, z_i n), (4, z_i u), (5, z_i T), (6, z_i i), (7, z_i b)]) rfl ?_
                      refine z_goto hY eL_form_137 ?_
                      refine z_sub [3, 4, 5, 6, 7, 8, 9, 0, 10] (ls' := [(0, .ref (A 40)), (1, z_i e), (2, z_i k), (3, z_i n), (4, z_i u), (5, z_i T), (6, z_i i), (8, z_i (r + 1)), (7, z_i b)]) rfl ?_
                      exact ih21 (r + 1) b (by omega) (by omega) (fB_t hfb (by omega) c114)
                    · refine z_iload hY eL_form_117 10 rfl ?_
                      refine z_const hY eL_form_119 ?_
                      refine z_icmpeq hY eL_form_120 (by omega) (fun c120 => ?_) (fun c120 => ?_)
                      · refine z_iload hY eL_form_130 9 rfl ?_
                        refine z_istore hY eL_form_132 (ls' := [(7, z_i r), (10, z_i (yGn ρ e b)), (9, z_i (yGn ρ e r)), (0, .ref (A 40)), (1, z_i e), (2, z_i k), (3, z_i n), (4, z_i u), (5, z_i T), (6, z_i i), (8, z_i r)]) rfl ?_
                        refine z_iinc hY eL_form_134 10 rfl (ls' := [(8, z_i (r + 1)), (7, z_i r), (10, z_i (yGn ρ e b)), (9, z_i (yGn ρ e r)), (0, .ref (A 40)), (1, z_i e), (2, z_i k), (3, z_i n), (4, z_i u), (5, z_i T), (6, z_i i)]) rfl ?_
                        refine z_goto hY eL_form_137 ?_
                        refine z_sub [4, 5, 6, 7, 8, 9, 10, 0, 1] (ls' := [(0, .ref (A 40)), (1, z_i e), (2, z_i k), (3, z_i n), (4, z_i u), (5, z_i T), (6, z_i i), (8, z_i (r + 1)), (7, z_i r)]) rfl ?_
                        exact ih21 (r + 1) r (by omega) (by omega) (fB_n hfb (by omega) c114 (by omega))
                      · refine z_iload hY eL_form_123 1 rfl ?_
                        refine z_iload hY eL_form_125 0 rfl ?_
                        refine z_icmple hY eL_form_127 (by omega) (fun c127 => ?_) (fun c127 => ?_)
                        · refine z_iinc hY eL_form_134 9 rfl (ls' := [(8, z_i (r + 1)), (10, z_i (yGn ρ e b)), (9, z_i (yGn ρ e r)), (0, .ref (A 40)), (1, z_i e), (2, z_i k), (3, z_i n), (4, z_i u), (5, z_i T), (6, z_i i), (7, z_i b)]) rfl ?_
                          refine z_goto hY eL_form_137 ?_
                          refine z_sub [3, 4, 5, 6, 7, 8, 9, 0, 10] (ls' := [(0, .ref (A 40)), (1, z_i e), (2, z_i k), (3, z_i n), (4, z_i u), (5, z_i T), (6, z_i i), (8, z_i (r + 1)), (7, z_i b)]) rfl ?_
                          exact ih21 (r + 1) b (by omega) (by omega) (fB_k hfb (by omega) (by omega))
                        · refine z_iload hY eL_form_130 9 rfl ?_
                          refine z_istore hY eL_form_132 (ls' := [(7, z_i r), (10, z_i (yGn ρ e b)), (9, z_i (yGn ρ e r)), (0, .ref (A 40)), (1, z_i e), (2, z_i k), (3, z_i n), (4, z_i u), (5, z_i T), (6, z_i i), (8, z_i r)]) rfl ?_
                          refine z_iinc hY eL_form_134 10 rfl (ls' := [(8, z_i (r + 1)), (7, z_i r), (10, z_i (yGn ρ e b)), (9, z_i (yGn ρ e r)), (0, .ref (A 40)), (1, z_i e), (2, z_i k), (3, z_i n), (4, z_i u), (5, z_i T), (6, z_i i)]) rfl ?_
                          refine z_goto hY eL_form_137 ?_
                          refine z_sub [4, 5, 6, 7, 8, 9, 10, 0, 1] (ls' := [(0, .ref (A 40)), (1, z_i e), (2, z_i k), (3, z_i n), (4, z_i u), (5, z_i T), (6, z_i i), (8, z_i (r + 1)), (7, z_i r)]) rfl ?_
                          exact ih21 (r + 1) r (by omega) (by omega) (fB_n hfb (by omega) c114 (by omega))
                  · refine z_const hY eL_form_82 ?_
                    refine z_goto hY eL_form_83 ?_
                    have hgb := w_gn hI he b (by omega)
                    refine z_top (b := yGn ρ e b) (hgb.1 (by omega)).symm ?_
                    refine z_istore hY eL_form_105 (ls' := [(10, z_i (yGn ρ e b)), (9, z_i (yGn ρ e r)), (0, .ref (A 40)), (1, z_i e), (2, z_i k), (3, z_i n), (4, z_i u), (5, z_i T), (6, z_i i), (8, z_i r), (7, z_i b)]) rfl ?_
                    refine z_iload hY eL_form_107 7 rfl ?_
                    refine z_iload hY eL_form_109 9 rfl ?_
                    refine z_ishrN hY eL_form_111 hT.1 hT.2 (by omega) ?_
                    refine z_const hY eL_form_112 ?_
                    refine z_iand1 hY eL_form_113 ?_
                    refine z_top (b := z_bl (Nat.testBit w r.toNat = true)) (w_bit w r.toNat) ?_
                    refine z_ifneb hY eL_form_114 (fun c114 => ?_) (fun c114 => ?_)
                    · refine z_iinc hY eL_form_134 9 rfl (ls' := [(8, z_i (r + 1)), (10, z_i (yGn ρ e b)), (9, z_i (yGn ρ e r)), (0, .ref (A 40)), (1, z_i e), (2, z_i k), (3, z_i n), (4, z_i u), (5, z_i T), (6, z_i i), (7, z_i b)]) rfl ?_
                      refine z_goto hY eL_form_137 ?_
                      refine z_sub [3, 4, 5, 6, 7, 8, 9, 0, 10] (ls' := [(0, .ref (A 40)), (1, z_i e), (2, z_i k), (3, z_i n), (4, z_i u), (5, z_i T), (6, z_i i), (8, z_i (r + 1)), (7, z_i b)]) rfl ?_
                      exact ih21 (r + 1) b (by omega) (by omega) (fB_t hfb (by omega) c114)
                    · refine z_iload hY eL_form_117 10 rfl ?_
                      refine z_const hY eL_form_119 ?_
                      refine z_icmpeq hY eL_form_120 (by omega) (fun c120 => ?_) (fun c120 => ?_)
                      · refine z_iload hY eL_form_130 9 rfl ?_
                        refine z_istore hY eL_form_132 (ls' := [(7, z_i r), (10, z_i (yGn ρ e b)), (9, z_i (yGn ρ e r)), (0, .ref (A 40)), (1, z_i e), (2, z_i k), (3, z_i n), (4, z_i u), (5, z_i T), (6, z_i i), (8, z_i r)]) rfl ?_
                        refine z_iinc hY eL_form_134 10 rfl (ls' := [(8, z_i (r + 1)), (7, z_i r), (10, z_i (yGn ρ e b)), (9, z_i (yGn ρ e r)), (0, .ref (A 40)), (1, z_i e), (2, z_i k), (3, z_i n), (4, z_i u), (5, z_i T), (6, z_i i)]) rfl ?_
                        refine z_goto hY eL_form_137 ?_
                        refine z_sub [4, 5, 6, 7, 8, 9, 10, 0, 1] (ls' := [(0, .ref (A 40)), (1, z_i e), (2, z_i k), (3, z_i n), (4, z_i u), (5, z_i T), (6, z_i i), (8, z_i (r + 1)), (7, z_i r)]) rfl ?_
                        exact ih21 (r + 1) r (by omega) (by omega) (fB_n hfb (by omega) c114 (by omega))
                      · refine z_iload hY eL_form_123 1 rfl ?_
                        refine z_iload hY eL_form_125 0 rfl ?_
                        refine z_icmple hY eL_form_127 (by omega) (fun c127 => ?_) (fun c127 => ?_)
                        · refine z_iinc hY eL_form_134 9 rfl (ls' := [(8, z_i (r + 1)), (10, z_i (yGn ρ e b)), (9, z_i (yGn ρ e r)), (0, .ref (A 40)), (1, z_i e), (2, z_i k), (3, z_i n), (4, z_i u), (5, z_i T), (6, z_i i), (7, z_i b)]) rfl ?_
                          refine z_goto hY eL_form_137 ?_
                          refine z_sub [3, 4, 5, 6, 7, 8, 9, 0, 10] (ls' := [(0, .ref (A 40)), (1, z_i e), (2, z_i k), (3, z_i n), (4, z_i u), (5, z_i T), (6, z_i i), (8, z_i (r + 1)), (7, z_i b)]) rfl ?_
                          exact ih21 (r + 1) b (by omega) (by omega) (fB_k hfb (by omega) (by omega))
                        · refine z_iload hY eL_form_130 9 rfl ?_
                          refine z_istore hY eL_form_132 (ls' := [(7, z_i r), (10, z_i (yGn ρ e b)), (9, z_i (yGn ρ e r)), (0, .ref (A 40)), (1, z_i e), (2, z_i k), (3, z_i n), (4, z_i u), (5, z_i T), (6, z_i i), (8, z_i r)]) rfl ?_
                          refine z_iinc hY eL_form_134 10 rfl (ls' := [(8, z_i (r + 1)), (7, z_i r), (10, z_i (yGn ρ e b)), (9, z_i (yGn ρ e r)), (0, .ref (A 40)), (1, z_i e), (2, z_i k), (3, z_i n), (4, z_i u), (5, z_i T), (6, z_i i)]) rfl ?_
                          refine z_goto hY eL_form_137 ?_
                          refine z_sub [4, 5, 6, 7, 8, 9, 10, 0, 1] (ls' := [(0, .ref (A 40)), (1, z_i e), (2, z_i k), (3, z_i n), (4, z_i u), (5, z_i T), (6, z_i i), (8, z_i (r + 1)), (7, z_i r)]) rfl ?_
                          exact ih21 (r + 1) r (by omega) (by omega) (fB_n hfb (by omega) c114 (by omega))
        exact lp21 _ 0 (-1) (Nat.lt_succ_self _) (by omega) fB_0
  exact lp9 _ 0 0 0 0 (Nat.lt_succ_self _) (by omega) (z_sm0 (by omega)).symm ⟨rfl, by decide⟩ hc0
theorem la_areForms {G : z_G} {D : Nat} {B : Nat → Int → Nat} {κ : c_K} {A : Nat → Nat} {ρ σ : z_S} {h : z_H} {t : Nat} {m : Int} {o : Prop} (hG : z_OK G) (hD : D = z_dc G) (hM : z_MI G) (hI : gS t m o B κ A ρ σ) (ho : o) : z_T G mL_areForms [.ref (A 40)] (gH D B κ A σ h) 10 70 400 (fun v h' => ∃ (κ' : c_K) (B' : Nat → Int → Nat) (ρ' σ' : z_S) (h2 : z_H), v = some (z_i 1) ∧ gS (t) (m) o B' κ' A ρ' σ' ∧ σ' 14 0 = σ 14 0 ∧ h' = gH D B' κ' A σ' h2) (z_no) := by
  refine z_T_of hG pL_areForms (Nat.le_of_ble_eq_true rfl) (ls0 := [(0, .ref (A 40))]) rfl fun Y hY hg hmc hms hφ hψ => ?_
  subst hg
  refine z_const hY eL_areForms_0 ?_
  refine z_aload hY eL_areForms_1 0 rfl ?_
  refine z_const hY eL_areForms_2 ?_
  refine z_callV (As := [z_i 10]) (rest := [z_i 1]) hY eL_areForms_4 (la_next (B := B) (κ := κ) (σ := σ) hG (gS_X hI) (n := 10) (by omega)) ((gH_at (gS_X hI) (by decide)).trans (congrArg some lC_40)) (by decide) (Nat.le_of_ble_eq_true rfl) ⟨Nat.zero_le _, Nat.zero_le _⟩ (fun _ _ q => q.elim) (fun vv2 hh2 q2 => ?_)
  obtain ⟨r1, X1, rfl, hr1, hX1, rfl⟩ := q2
  refine z_iadd hY eL_areForms_7 ?_
  refine z_top (b := r1 + 1) (by omega) ?_
  obtain ⟨n, hn⟩ : ∃ q : Int, q = r1 + 1 := ⟨_, rfl⟩
  refine z_top (b := n) hn.symm ?_
  refine z_istore hY eL_areForms_8 (ls' := [(1, z_i n), (0, .ref (A 40))]) rfl ?_
  refine z_const hY eL_areForms_9 ?_
  refine z_aload hY eL_areForms_10 1 rfl ?_
  refine z_iload hY eL_areForms_11 0 rfl ?_
  refine z_callV (As := [z_i n]) (rest := [z_i 1]) hY eL_areForms_12 (la_next (B := B) (κ := κ) (σ := (z_u σ 0 0 X1)) hG (gS_X hI) (n := n) (by omega)) ((gH_at (gS_X hI) (by decide)).trans (congrArg some lC_40)) (by decide) (Nat.le_of_ble_eq_true rfl) ⟨Nat.zero_le _, Nat.zero_le _⟩ (fun _ _ q => q.elim) (fun vv4 hh4 q4 => ?_)
  obtain ⟨r3, X3, rfl, hr3, hX3, rfl⟩ := q4
  refine z_iadd hY eL_areForms_15 ?_
  refine z_top (b := r3 + 1) (by omega) ?_
  obtain ⟨k, hk⟩ : ∃ q : Int, q = r3 + 1 := ⟨_, rfl⟩
  refine z_top (b := k) hk.symm ?_
  refine z_istore hY eL_areForms_16 (ls' := [(2, z_i k), (1, z_i n), (0, .ref (A 40))]) rfl ?_
  refine z_aload hY eL_areForms_17 2 rfl ?_
  refine z_callV (As := []) (rest := []) hY eL_areForms_18 (la_sorts hG (gS_E hI (wE_u (wE_u wE_r (by decide)) (by decide)) (wB_u (wB_u (gS_b hI) (by show (-2147483648 : Int) ≤ _ ∧ _ ≤ (2147483647 : Int); omega)) (by show (-2147483648 : Int) ≤ _ ∧ _ ≤ (2147483647 : Int); omega))) ho) ((gH_at (gS_X hI) (by decide)).trans (congrArg some lC_40)) (by decide) (Nat.le_of_ble_eq_true rfl) ⟨Nat.zero_le _, Nat.zero_le _⟩ (fun _ _ q => q.elim) (fun vv6 hh6 q6 => ?_)
  obtain ⟨σ5, rfl, ⟨hE5, hw5, hrow5⟩, rfl⟩ := q6
  have hI5 := gS_E (gS_E hI (wE_u (wE_u wE_r (by decide)) (by decide)) (wB_u (wB_u (gS_b hI) (by show (-2147483648 : Int) ≤ _ ∧ _ ≤ (2147483647 : Int); omega)) (by show (-2147483648 : Int) ≤ _ ∧ _ ≤ (2147483647 : Int); omega))) hE5 hw5
  have hmy := w_my (gS_j hI)
  refine z_istore hY eL_areForms_21 (ls' := [(3, z_i (my ρ)), (2, z_i k), (1, z_i n), (0, .ref (A 40))]) rfl ?_
  refine z_const hY eL_areForms_22 ?_
  refine z_istore hY eL_areForms_23 (ls' := [(4, z_i (-1)), (3, z_i (my ρ)), (2, z_i k), (1, z_i n), (0, .ref (A 40))]) rfl ?_
  refine z_const hY eL_areForms_25 ?_
  refine z_istore hY eL_areForms_26 (ls' := [(5, z_i 0), (4, z_i (-1)), (3, z_i (my ρ)), (2, z_i k), (1, z_i n), (0, .ref (A 40))]) rfl ?_
  refine z_sub [5, 4, 3, 2, 0, 1] (ls' := [(0, .ref (A 40)), (1, z_i n), (2, z_i k), (3, z_i (my ρ)), (5, z_i 0), (4, z_i (-1))]) rfl ?_
  have lp28 : ∀ (fu : Nat) (i : Int) (b : Int) (κ1 : c_K), (my ρ - i).toNat < fu → (0 ≤ i ∧ i ≤ my ρ) → (gS t m o B κ1 A ρ σ5) → (b = z_fl (fun t o => if t = -1 ∨ yFo ρ t k n < yFo ρ (ea ρ (o + 1)) k n then ea ρ (o + 1) else t) (-1) i) → ((b = -1 ∧ i = 0) ∨ (0 ≤ b ∧ b < 30 ∧ 0 < i)) → z_W Y 28 [(0, .ref (A 40)), (1, z_i n), (2, z_i k), (3, z_i (my ρ)), (5, z_i i), (4, z_i b)] [] (gH D B κ1 A σ5 h) (2 * i.toNat) (12 * i.toNat) := by
    intro fu
    induction fu with
    | zero => intro i b κ1 hf; exact absurd hf (Nat.not_lt_zero _)
    | succ fu ih28 =>
      intro i b κ1 hf hi hIx hb hbb
      refine z_iload hY eL_areForms_28 4 rfl ?_
      refine z_iload hY eL_areForms_30 3 rfl ?_
      refine z_icmpge hY eL_areForms_31 (by omega) (fun c31 => ?_) (fun c31 => ?_)
      · have hyi : b = yIf ρ k n := by rw [hb, show i = my ρ by omega]; rfl
        refine z_iload hY eL_areForms_102 5 rfl ?_
        refine z_const hY eL_areForms_104 ?_
        refine z_icmpeq hY eL_areForms_105 (by omega) (fun c105 => ?_) (fun c105 => ?_)
        · refine z_const hY eL_areForms_122 ?_
          refine z_goto hY eL_areForms_123 ?_
          exact z_zreturn hY eL_areForms_127 rfl (by omega) (by rw [hφ]; exact ⟨κ1, B, ρ, σ5, h, rfl, hIx, by rw [hE5 14 (by decide) (by decide) (by decide)]; rfl, rfl⟩) (by rw [hmc, hms]; omega)
        · refine z_aload hY eL_areForms_108 0 rfl ?_
          refine g_gf hY (gS_X hIx) eL_areForms_109 (v := .ref (B 0 0)) rfl ?_
          refine z_iload hY eL_areForms_112 2 rfl ?_
          refine z_iload hY eL_areForms_113 1 rfl ?_
          have hn1 := (gS_R hIx).xn1 (gS_M hIx)
          refine z_callV (As := [z_i k, z_i n]) (rest := []) hY eL_areForms_114 (q_inForm (D := D) (h := lH A (B 0 0) σ5 h) hG (gS_J hIx) (gS_B hIx) (gS_V hIx) (gS_S hIx) (by omega) (by omega)) (cH_at (t := 0) (i := 0) (gS_J hIx) (by omega)) (by decide) (Nat.le_of_ble_eq_true rfl) (by rw [hmc, hms]; omega) (fun E9 h9 q => by obtain ⟨-, q⟩ := q; exfalso; omega) (fun vv8 hh8 q8 => ?_)
          obtain ⟨-, rfl, R7, hR7, rfl⟩ := q8
          have hI7 := gS_r2 hIx hR7
          refine z_heq (show _ = gH D B (k_r κ1 2 0 R7) A σ5 h from rfl) ?_
          refine z_top (b := yIf ρ k n) ((gS_R hIx).aInForm (gS_M hIx) (gS_S hIx) (fun e he => (gS_R hIx).aForm he (by omega))) ?_
          refine z_iload hY eL_areForms_117 5 rfl ?_
          refine z_icmpne hY eL_areForms_119 (by omega) (fun c119 => by exfalso; omega) (fun c119 => ?_)
          refine z_const hY eL_areForms_122 ?_
          refine z_goto hY eL_areForms_123 ?_
          exact z_zreturn hY eL_areForms_127 rfl (by omega) (by rw [hφ]; exact ⟨k_r κ1 2 0 R7, B, ρ, σ5, h, rfl, hI7, by rw [hE5 14 (by decide) (by decide) (by decide)]; rfl, rfl⟩) (by rw [hmc, hms]; omega)
      · refine z_aload hY eL_areForms_34 0 rfl ?_
        refine g_gf hY (gS_X hIx) eL_areForms_35 (v := .ref (A 6)) rfl ?_
        refine z_iload hY eL_areForms_38 4 rfl ?_
        refine g_ial hY (gS_X hIx) eL_areForms_40 (j := 6) (N := 30) (x := ea ρ (i + 1)) (by decide) rfl (by omega) (hrow5 i (by omega) (by omega)).1 ?_
        have hwe := hrow5 i (by omega) (by omega)
        have hpe := hwe.2
        rw [hwe.1] at hpe
        have heb := pr_b hpe
        have heb2 := gS_pb hIx hpe
        refine z_istore hY eL_areForms_41 (ls' := [(6, z_i (ea ρ (i + 1))), (0, .ref (A 40)), (1, z_i n), (2, z_i k), (3, z_i (my ρ)), (5, z_i i), (4, z_i b)]) rfl ?_
        refine z_aload hY eL_areForms_43 1 rfl ?_
        refine g_gf hY (gS_X hIx) eL_areForms_44 (v := .ref (B 0 0)) rfl ?_
        refine z_iload hY eL_areForms_47 0 rfl ?_
        refine z_iload hY eL_areForms_49 3 rfl ?_
        refine z_iload hY eL_areForms_50 2 rfl ?_
        have hcp := gS_cpr hIx hpe
        refine z_callV (As := [z_i (ea ρ (i + 1)), z_i k, z_i n]) (rest := []) hY eL_areForms_51 (q_form (D := D) (h := lH A (B 0 0) σ5 h) hG (gS_J hIx) (gS_B hIx) (gS_V hIx) (gS_S hIx) (by omega) (by omega) (by omega)) (cH_at (t := 0) (i := 0) (gS_J hIx) (by omega)) (by decide) (Nat.le_of_ble_eq_true rfl) (by rw [hmc, hms]; omega) (fun E9 h9 q => by obtain ⟨-, q⟩ := q; exfalso; omega) (fun vv10 hh10 q10 => ?_)
        obtain ⟨-, rfl, R9, hR9, rfl⟩ := q10
        have hI9 := gS_r2 hIx hR9
        refine z_heq (show _ = gH D B (k_r κ1 2 0 R9) A σ5 h from rfl) ?_
        refine z_top (b := yFo ρ (ea ρ (i + 1)) k n) ((gS_R hIx).aForm hpe (by omega)) ?_
        refine z_aload hY eL_areForms_54 1 rfl ?_
        refine z_iload hY eL_areForms_55 0 rfl ?_
        refine z_iload hY eL_areForms_57 3 rfl ?_
        refine z_iload hY eL_areForms_58 2 rfl ?_
        refine z_callVr (As := [z_i (ea ρ (i + 1)), z_i k, z_i n]) (rest := [z_i (yFo ρ (ea ρ (i + 1)) k n)]) (r := z_i (yFo ρ (ea ρ (i + 1)) k n)) hY eL_areForms_59 (la_form hG hI9 (e := (ea ρ (i + 1))) (k := k) (n := n) (by omega) (by omega)) ((gH_at (gS_X hI9) (by decide)).trans (congrArg some lC_40)) (by decide) (Nat.le_of_ble_eq_true rfl) (by rw [hmc, hms]; omega) ?_
        have hv11 := yFo_b (gS_j hI9).B (e := (ea ρ (i + 1))) (k := k) (n := n) (by omega)
        refine z_icmpeq hY eL_areForms_62 (by omega) (fun c62 => ?_) (fun c62 => by exfalso; exact c62 rfl)
        refine z_iload hY eL_areForms_67 6 rfl ?_
        refine z_const hY eL_areForms_69 ?_
        refine z_icmpeq hY eL_areForms_70 (by omega) (fun c70 => ?_) (fun c70 => ?_)
        · refine z_iload hY eL_areForms_92 0 rfl ?_
          refine z_istore hY eL_areForms_94 (ls' := [(4, z_i (ea ρ (i + 1))), (6, z_i (ea ρ (i + 1))), (0, .ref (A 40)), (1, z_i n), (2, z_i k), (3, z_i (my ρ)), (5, z_i i)]) rfl ?_
          refine z_iinc hY eL_areForms_96 6 rfl (ls' := [(5, z_i (i + 1)), (4, z_i (ea ρ (i + 1))), (6, z_i (ea ρ (i + 1))), (0, .ref (A 40)), (1, z_i n), (2, z_i k), (3, z_i (my ρ))]) rfl ?_
          refine z_goto hY eL_areForms_99 ?_
          refine z_sub [3, 4, 5, 6, 0, 1] (ls' := [(0, .ref (A 40)), (1, z_i n), (2, z_i k), (3, z_i (my ρ)), (5, z_i (i + 1)), (4, z_i (ea ρ (i + 1)))]) rfl ?_
          refine z_widen (k' := (2 * (i + 1).toNat)) (n' := (12 * (i + 1).toNat)) (by omega) (by omega) ?_
          exact ih28 (i + 1) (ea ρ (i + 1)) (k_r κ1 2 0 R9) (by omega) (by omega) hI9 (by rw [z_flS (by omega), ← hb]; first | (rw [if_pos (by omega)]) | (rw [if_neg (by omega)])) (by omega)
        · refine z_aload hY eL_areForms_73 1 rfl ?_
          refine z_iload hY eL_areForms_74 0 rfl ?_
          refine z_iload hY eL_areForms_76 3 rfl ?_
          refine z_iload hY eL_areForms_77 2 rfl ?_
          refine z_callVr (As := [z_i (ea ρ (i + 1)), z_i k, z_i n]) (rest := []) (r := z_i (yFo ρ (ea ρ (i + 1)) k n)) hY eL_areForms_78 (la_form hG hI9 (e := (ea ρ (i + 1))) (k := k) (n := n) (by omega) (by omega)) ((gH_at (gS_X hI9) (by decide)).trans (congrArg some lC_40)) (by decide) (Nat.le_of_ble_eq_true rfl) (by rw [hmc, hms]; omega) ?_
          have hv12 := yFo_b (gS_j hI9).B (e := (ea ρ (i + 1))) (k := k) (n := n) (by omega)
          refine z_aload hY eL_areForms_81 1 rfl ?_
          refine z_iload hY eL_areForms_82 6 rfl ?_
          refine z_iload hY eL_areForms_84 3 rfl ?_
          refine z_iload hY eL_areForms_85 2 rfl ?_
          refine z_callVr (As := [z_i b, z_i k, z_i n]) (rest := [z_i (yFo ρ (ea ρ (i + 1)) k n)]) (r := z_i (yFo ρ b k n)) hY eL_areForms_86 (la_form hG hI9 (e := b) (k := k) (n := n) (by omega) (by omega)) ((gH_at (gS_X hI9) (by decide)).trans (congrArg some lC_40)) (by decide) (Nat.le_of_ble_eq_true rfl) (by rw [hmc, hms]; omega) ?_
          have hv13 := yFo_b (gS_j hI9).B (e := b) (k := k) (n := n) (by omega)
          refine z_icmple hY eL_areForms_89 (by omega) (fun c89 => ?_) (fun c89 => ?_)
          · refine z_iinc hY eL_areForms_96 5 rfl (ls' := [(5, z_i (i + 1)), (6, z_i (ea ρ (i + 1))), (0, .ref (A 40)), (1, z_i n), (2, z_i k), (3, z_i (my ρ)), (4, z_i b)]) rfl ?_
            refine z_goto hY eL_areForms_99 ?_
            refine z_sub [2, 3, 4, 5, 0, 6] (ls' := [(0, .ref (A 40)), (1, z_i n), (2, z_i k), (3, z_i (my ρ)), (5, z_i (i + 1)), (4, z_i b)]) rfl ?_
            refine z_widen (k' := (2 * (i + 1).toNat)) (n' := (12 * (i + 1).toNat)) (by omega) (by omega) ?_
            exact ih28 (i + 1) b (k_r κ1 2 0 R9) (by omega) (by omega) hI9 (by rw [z_flS (by omega), ← hb]; first | (rw [if_pos (by omega)]) | (rw [if_neg (by omega)])) (by omega)
          · refine z_iload hY eL_areForms_92 0 rfl ?_
            refine z_istore hY eL_areForms_94 (ls' := [(4, z_i (ea ρ (i + 1))), (6, z_i (ea ρ (i + 1))), (0, .ref (A 40)), (1, z_i n), (2, z_i k), (3, z_i (my ρ)), (5, z_i i)]) rfl ?_
            refine z_iinc hY eL_areForms_96 6 rfl (ls' := [(5, z_i (i + 1)), (4, z_i (ea ρ (i + 1))), (6, z_i (ea ρ (i + 1))), (0, .ref (A 40)), (1, z_i n), (2, z_i k), (3, z_i (my ρ))]) rfl ?_
            refine z_goto hY eL_areForms_99 ?_
            refine z_sub [3, 4, 5, 6, 0, 1] (ls' := [(0, .ref (A 40)), (1, z_i n), (2, z_i k), (3, z_i (my ρ)), (5, z_i (i + 1)), (4, z_i (ea ρ (i + 1)))]) rfl ?_
            refine z_widen (k' := (2 * (i + 1).toNat)) (n' := (12 * (i + 1).toNat)) (by omega) (by omega) ?_
            exact ih28 (i + 1) (ea ρ (i + 1)) (k_r κ1 2 0 R9) (by omega) (by omega) hI9 (by rw [z_flS (by omega), ← hb]; first | (rw [if_pos (by omega)]) | (rw [if_neg (by omega)])) (by omega)
  refine z_widen (k' := (2 * (0 : Int).toNat)) (n' := (12 * (0 : Int).toNat)) (by omega) (by omega) ?_
  exact lp28 _ 0 (-1) κ (Nat.lt_succ_self _) (by omega) hI5 (z_fl0 (by omega)).symm (by omega)
end LV7
