/-! THE LAW's points (laid by wip/p53/gen/gl82.py). -/
section LV9
section
variable {t : Nat} {m : Int} {o : Prop} {B : Nat → Int → Nat} {κ : c_K} {A : Nat → Nat} {ρ σ : z_S}
def cn (f : Int → Int) (n v : Int) : Int := z_sm (fun j => if f j ≤ v then (1 : Int) else 0) n
def aS (f : Int → Int) (n : Int) : Prop := ∀ i j, 0 ≤ i → i < j → j < n → f i ≤ f j
theorem aS_m {f : Int → Int} {n m : Int} (h : aS f n) (hm : m ≤ n) : aS f m := fun i j a b c => h i j a b (by omega)
theorem cn_lt {f : Int → Int} (v : Int) : ∀ n : Int, 0 ≤ n → aS f n → (0 ≤ cn f n v ∧ cn f n v ≤ n) ∧ ∀ i, 0 ≤ i → i < n → (f i ≤ v ↔ i < cn f n v) := by
  refine jn_ind (P := fun n => aS f n → (0 ≤ cn f n v ∧ cn f n v ≤ n) ∧ ∀ i, 0 ≤ i → i < n → (f i ≤ v ↔ i < cn f n v)) ?_ ?_
  · intro _
    unfold cn
    rw [z_sm0 (by omega)]
    exact ⟨by omega, fun i a b => by omega⟩
  · intro n h0 ih hs
    obtain ⟨h1, h2⟩ := ih (aS_m hs (by omega))
    have e : cn f (n + 1) v = cn f n v + if f n ≤ v then 1 else 0 := by
      unfold cn
      rw [z_smS h0]
    by_cases c : f n ≤ v
    · rw [if_pos c] at e
      have e2 : cn f n v = n := by
        by_cases z : cn f n v = n
        · exact z
        · have a := h2 (cn f n v) h1.1 (by omega)
          have b := hs (cn f n v) n h1.1 (by omega) (by omega)
          omega
      refine ⟨by omega, fun i a b => ⟨fun _ => by omega, fun _ => ?_⟩⟩
      by_cases z : i = n
      · rw [z]; exact c
      · have := hs i n a (by omega) (by omega)
        omega
    · rw [if_neg c] at e
      refine ⟨by omega, fun i a b => ?_⟩
      by_cases z : i = n
      · rw [z]; omega
      · rw [e, h2 i a (by omega)]; omega
theorem ap_ins {f g : Int → Int} {n a x : Int} (hs : aS f n) (ha : 0 ≤ a ∧ a ≤ n) (h1 : a = 0 ∨ f (a - 1) ≤ x) (h2 : ∀ j, a ≤ j → j < n → x < f j) (f1 : ∀ j, 0 ≤ j → j < a → g j = f j) (f2 : g a = x) (f3 : ∀ j, a < j → j ≤ n → g j = f (j - 1)) : aS g (n + 1) ∧ ∀ v, cn g (n + 1) v = cn f n v + (if x ≤ v then 1 else 0) := by
  refine ⟨fun i j i0 ij jn => ?_, fun v => ?_⟩
  · by_cases c1 : j < a
    · rw [f1 i i0 (by omega), f1 j (by omega) c1]; exact hs i j i0 ij (by omega)
    · by_cases c2 : j = a
      · rw [c2, f2, f1 i i0 (by omega)]
        rcases h1 with z | z
        · omega
        · by_cases c3 : i = a - 1
          · rw [c3]; exact z
          · have := hs i (a - 1) i0 (by omega) (by omega)
            omega
      · rw [f3 j (by omega) (by omega)]
        by_cases c3 : i < a
        · rw [f1 i i0 c3]
          by_cases c4 : i = j - 1
          · rw [c4]; exact Int.le_refl _
          · exact hs i (j - 1) i0 (by omega) (by omega)
        · by_cases c4 : i = a
          · rw [c4, f2]
            have := h2 (j - 1) (by omega) (by omega)
            omega
          · rw [f3 i (by omega) (by omega)]
            exact hs (i - 1) (j - 1) (by omega) (by omega) (by omega)
  · have e := jn_ins (F := fun q => if q ≤ v then (1 : Int) else 0) (w := a) (x := x) ha.1 (R := f) n ha.2
    unfold cn
    rw [← e]
    refine z_sm_congr fun j j0 j1 => ?_
    have e2 : g j = if a < j ∧ j ≤ n then f (j - 1) else if j = a then x else f j := by
      by_cases c1 : a < j
      · rw [if_pos ⟨c1, by omega⟩]; exact f3 j c1 (by omega)
      · rw [if_neg (fun q => c1 q.1)]
        by_cases c2 : j = a
        · rw [if_pos c2, c2]; exact f2
        · rw [if_neg c2]; exact f1 j j0 (by omega)
    rw [e2]
/-- the row's points are the class's -/
theorem w_pts (h : gS t m o B κ A ρ σ) {f : Int → Int} {n : Int} (hs : aS f n) (hn : n = my ρ) (hc : ∀ v, cn f n v = z_sm (fun x => if pr ρ x ∧ ρ 14 (4 * x) ≤ v then (1 : Int) else 0) (ρ 19 0)) : ∀ i, 0 ≤ i → i < n → f i = κ 30 (κ 20 2 i) 0 := fun i i0 i1 => by
  have hn2 := (gS_R h).xn2 (gS_M h)
  have key : ∀ v, f i ≤ v ↔ κ 30 (κ 20 2 i) 0 ≤ v := fun v => by
    rw [(gS_R h).yup v ⟨i0, by omega⟩, (gS_R h).ycu (gS_M h) v, ← hc v]
    exact (cn_lt v n (by omega) hs).2 i i0 i1
  have a := (key (f i)).mp (Int.le_refl _)
  have b := (key (κ 30 (κ 20 2 i) 0)).mpr (Int.le_refl _)
  omega
theorem w_at (κ : c_K) {p : Int} (hp : 1 ≤ p ∧ p ≤ κ 24 2 0) : cAt κ p = κ 30 (κ 20 2 (p - 1)) 0 := if_pos hp
theorem w_qu {n p q c : Int} (hq : 1 ≤ q) (h1 : c = 1 ∨ (c - 1) * q < n * p) (h2 : n * p ≤ c * q) (h0 : 0 ≤ n * p) (hc : 1 ≤ c) : (if 1 < ((n * p + q - 1) / q) then ((n * p + q - 1) / q) else 1) = c := by
  have k1 : (n * p + q - 1) / q < c + 1 := by
    rw [Int.ediv_lt_iff_lt_mul (by omega), Int.add_mul]
    omega
  rcases h1 with z | z
  · rw [if_neg (by omega), z]
  · have k2 : c ≤ (n * p + q - 1) / q := by
      rw [Int.le_ediv_iff_mul_le (by omega)]
      rw [Int.sub_mul] at z
      omega
    by_cases k : 1 < (n * p + q - 1) / q
    · rw [if_pos k]; omega
    · rw [if_neg k]; omega
theorem w_qu1 {n p q c : Int} (hq : 1 ≤ q) (hn : 0 ≤ n) (hp : p ≤ q) (h : c * q < n * p) : c < n := by
  have : n * p ≤ n * q := Int.mul_le_mul_of_nonneg_left hp hn
  exact Int.lt_of_mul_lt_mul_right (Int.lt_of_lt_of_le h this) (by omega)
theorem w_mul {a b x y : Int} (ha : 0 ≤ a ∧ a ≤ x) (hb : 0 ≤ b ∧ b ≤ y) : 0 ≤ a * b ∧ a * b ≤ x * y := ⟨Int.mul_nonneg ha.1 hb.1, Int.mul_le_mul ha.2 hb.2 hb.1 (by omega)⟩
end
section
variable {Y : z_Y} {d : Nat} {M : z_M} {pc pc' : Nat} {ls ls' : List (Nat × Value)} {st st' : List Value} {h : z_H} {k n : Nat}
theorem z_dcmp0 (hY : z_ok Y d M) (dd : z_at M pc (.dcmp .l) 1 pc') (kk : z_W Y pc' ls (z_i 0 :: st) h k n) : z_W Y pc ls (.double FP.dconst0 :: .double FP.dconst0 :: st) h k n := by
  refine z_lift hY (fun p l e R s m args below meth c H locs cells slots Q lsA hx hb kk => ?_) kk
  obtain ⟨d1, rfl⟩ := dd
  refine lv_dcmp hx hb d1 ?_
  rw [show Op.cmpValue (FP.dcmp FP.dconst0 FP.dconst0) .l = Int32.ofInt 0 by decide]
  exact kk
end
theorem la_arePoints {G : z_G} {D : Nat} {B : Nat → Int → Nat} {κ : c_K} {A : Nat → Nat} {ρ σ : z_S} {h : z_H} {t : Nat} {m : Int} {o : Prop} (hG : z_OK G) (hI : gS t m o B κ A ρ σ)  : z_T G mL_arePoints [.ref (A 40)] (gH D B κ A σ h) 8 60 360 (fun v h' => ∃ σ' : z_S, v = some (z_i 1) ∧ gS t m o B κ A ρ σ' ∧ wE σ' σ ∧ h' = gH D B κ A σ' h) (z_no) := by
  refine z_T_of hG pL_arePoints (Nat.le_of_ble_eq_true rfl) (ls0 := [(0, .ref (A 40))]) rfl fun Y hY hg hmc hms hφ hψ => ?_
  subst hg
  have hn14 := (gS_b hI).s14 0
  have h19 := gS_19 hI
  refine z_const hY eL_arePoints_0 ?_
  refine z_istore hY eL_arePoints_1 (ls' := [(1, z_i 0), (0, .ref (A 40))]) rfl ?_
  refine z_const hY eL_arePoints_2 ?_
  refine z_istore hY eL_arePoints_3 (ls' := [(2, z_i 0), (1, z_i 0), (0, .ref (A 40))]) rfl ?_
  refine z_sub [2, 1, 0] (ls' := [(0, .ref (A 40)), (1, z_i 0), (2, z_i 0)]) rfl ?_
  have lp4 : ∀ (fu : Nat) (n : Int) (e : Int) (σ1 : z_S), (σ 14 0 - e).toNat < fu → (0 ≤ n ∧ n ≤ e ∧ e ≤ σ 14 0) → (wE σ1 σ) → (wB σ1) → (aS (σ1 6) n) → (∀ v, cn (σ1 6) n v = z_sm (fun x => if pr ρ x ∧ ρ 14 (4 * x) ≤ v then (1 : Int) else 0) e) → (n = z_sm (fun x => if pr ρ x then (1 : Int) else 0) e) → z_W Y 4 [(0, .ref (A 40)), (1, z_i n), (2, z_i e)] [] (gH D B κ A σ1 h) 0 0 := by
    intro fu
    induction fu with
    | zero => intro n e σ1 hf; exact absurd hf (Nat.not_lt_zero _)
    | succ fu ih4 =>
      intro n e σ1 hf hc hE hw hs hcn hnn
      refine z_iload hY eL_arePoints_4 2 rfl ?_
      refine z_aload hY eL_arePoints_5 0 rfl ?_
      have hb1 := (gS_b hI).s14 0
      refine g_gf hY (gS_X hI) eL_arePoints_6 (v := z_i (σ 14 0)) (congrArg (fun q => some (z_i q)) (congrFun (hE 14 (by decide) (by decide) (by decide)) _)) ?_
      refine z_icmpge hY eL_arePoints_9 (by omega) (fun c9 => ?_) (fun c9 => ?_)
      · have hI1 := gS_E hI hE hw
        have hmy : n = my ρ := by rw [hnn, my_h, show e = ρ 19 0 by omega]
        have hP : ∀ i, 0 ≤ i → i < n → σ1 6 i = κ 30 (κ 20 2 i) 0 := w_pts hI hs hmy (fun v => by rw [hcn v, show e = ρ 19 0 by omega])
        have hn2 : κ 24 2 0 = n := ((gS_R hI).xn2 (gS_M hI)).trans hmy.symm
        have hn1 : κ 24 1 0 = n := ((gS_R hI).xn1 (gS_M hI)).trans hmy.symm
        have hb30 : ∀ i, -100000 ≤ κ 30 (κ 20 2 i) 0 ∧ κ 30 (κ 20 2 i) 0 ≤ 100000 := fun i => (gS_S hI).s30 (κ 20 2 i) 0
        refine z_iload hY eL_arePoints_92 1 rfl ?_
        refine z_ifne hY eL_arePoints_93 (by omega) (fun c93 => ?_) (fun c93 => ?_)
        · refine z_const hY eL_arePoints_114 ?_
          refine z_aload hY eL_arePoints_115 0 rfl ?_
          refine z_const hY eL_arePoints_116 ?_
          refine z_callV (As := [z_i 100]) (rest := [z_i 1]) hY eL_arePoints_118 (la_next (B := B) (κ := κ) (σ := σ1) hG (gS_X hI1) (n := 100) (by omega)) ((gH_at (gS_X hI1) (by decide)).trans (congrArg some lC_40)) (by decide) (Nat.le_of_ble_eq_true rfl) ⟨Nat.zero_le _, Nat.zero_le _⟩ (fun _ _ q => q.elim) (fun vv3 hh3 q3 => ?_)
          obtain ⟨r2, X2, rfl, hr2, hX2, rfl⟩ := q3
          refine z_iadd hY eL_arePoints_121 ?_
          refine z_top (b := r2 + 1) (by omega) ?_
          obtain ⟨q, hnmq⟩ : ∃ q : Int, q = r2 + 1 := ⟨_, rfl⟩
          refine z_top (b := q) hnmq.symm ?_
          refine z_istore hY eL_arePoints_122 (ls' := [(2, z_i q), (0, .ref (A 40)), (1, z_i n)]) rfl ?_
          refine z_aload hY eL_arePoints_123 1 rfl ?_
          refine z_iload hY eL_arePoints_124 0 rfl ?_
          refine z_const hY eL_arePoints_125 ?_
          refine z_iadd hY eL_arePoints_126 ?_
          refine z_callV (As := [z_i (q + 1)]) (rest := []) hY eL_arePoints_127 (la_next (B := B) (κ := κ) (σ := (z_u σ1 0 0 X2)) hG (gS_X hI1) (n := (q + 1)) (by omega)) ((gH_at (gS_X hI1) (by decide)).trans (congrArg some lC_40)) (by decide) (Nat.le_of_ble_eq_true rfl) ⟨Nat.zero_le _, Nat.zero_le _⟩ (fun _ _ q => q.elim) (fun vv5 hh5 q5 => ?_)
          obtain ⟨r4, X4, rfl, hr4, hX4, rfl⟩ := q5
          obtain ⟨p, hnmp⟩ : ∃ q : Int, q = r4 := ⟨_, rfl⟩
          refine z_top (b := p) hnmp.symm ?_
          refine z_istore hY eL_arePoints_130 (ls' := [(3, z_i p), (2, z_i q), (0, .ref (A 40)), (1, z_i n)]) rfl ?_
          refine z_const hY eL_arePoints_131 ?_
          refine z_istore hY eL_arePoints_132 (ls' := [(4, z_i 1), (3, z_i p), (2, z_i q), (0, .ref (A 40)), (1, z_i n)]) rfl ?_
          refine z_sub [3, 4, 2, 1, 0] (ls' := [(0, .ref (A 40)), (1, z_i n), (2, z_i q), (3, z_i p), (4, z_i 1)]) rfl ?_
          have lp134 : ∀ (fu : Nat) (c : Int), (n - c).toNat < fu → (1 ≤ c ∧ c ≤ n) → (c = 1 ∨ (c - 1) * q < n * p) → z_W Y 134 [(0, .ref (A 40)), (1, z_i n), (2, z_i q), (3, z_i p), (4, z_i c)] [] (gH D B κ A (z_u (z_u σ1 0 0 X2) 0 0 X4) h) 0 0 := by
            intro fu
            induction fu with
            | zero => intro c hf; exact absurd hf (Nat.not_lt_zero _)
            | succ fu ih134 =>
              intro c hf hcb hc1
              refine z_iload hY eL_arePoints_134 4 rfl ?_
              refine z_iload hY eL_arePoints_136 2 rfl ?_
              refine z_imul hY eL_arePoints_137 ?_
              refine z_iload hY eL_arePoints_138 1 rfl ?_
              refine z_iload hY eL_arePoints_139 3 rfl ?_
              refine z_imul hY eL_arePoints_140 ?_
              have hm1 := w_mul (a := c) (b := q) (x := 30) (y := 100) (by omega) (by omega)
              have hm2 := w_mul (a := n) (b := p) (x := 30) (y := 100) (by omega) (by omega)
              refine z_icmpge hY eL_arePoints_141 (by omega) (fun c141 => ?_) (fun c141 => ?_)
              · refine z_aload hY eL_arePoints_150 0 rfl ?_
                refine g_gf hY (gS_X hI1) eL_arePoints_151 (v := .ref (B 0 0)) rfl ?_
                refine z_const hY eL_arePoints_154 ?_
                refine z_callV (As := [z_i 0]) (rest := []) hY eL_arePoints_155 (q_median (D := D) (h := lH A (B 0 0) (z_u (z_u σ1 0 0 X2) 0 0 X4) h) hG (gS_J hI1) (gS_B hI1) (gS_V hI1) (gS_S hI1) (by omega)) (cH_at (t := 0) (i := 0) (gS_J hI1) (by omega)) (by decide) (Nat.le_of_ble_eq_true rfl) (by rw [hmc, hms]; omega) (fun E9 h9 q => by obtain ⟨-, q⟩ := q; exfalso; omega) (fun vv7 hh7 q7 => ?_)
                obtain ⟨-, rfl, rfl⟩ := q7
                refine z_heq (show _ = gH D B κ A (z_u (z_u σ1 0 0 X2) 0 0 X4) h from rfl) ?_
                refine z_top (b := κ 30 (κ 20 2 ((n + 1) / 2 - 1)) 0) (by rw [(show cMp κ 0 = ((n + 1) / 2 - 1) + 1 from (by unfold cMp; rw [if_neg (by decide), hn2]; try omega)), w_at κ (by omega), show ((n + 1) / 2 - 1) + 1 - 1 = ((n + 1) / 2 - 1) by omega]) ?_
                refine z_aload hY eL_arePoints_158 0 rfl ?_
                refine g_gf hY (gS_X hI1) eL_arePoints_159 (v := .ref (A 6)) rfl ?_
                refine z_iload hY eL_arePoints_162 1 rfl ?_
                refine z_const hY eL_arePoints_163 ?_
                refine z_iadd hY eL_arePoints_164 ?_
                refine z_const hY eL_arePoints_165 ?_
                refine z_idiv hY eL_arePoints_166 (by omega) ?_
                refine z_const hY eL_arePoints_167 ?_
                refine z_isub hY eL_arePoints_168 ?_
                have hz8 := hb30 (((n + 1) / 2) - 1)
                refine g_ial hY (gS_X hI1) eL_arePoints_169 (j := 6) (N := 30) (x := κ 30 (κ 20 2 (((n + 1) / 2) - 1)) 0) (by decide) rfl (by omega) (hP (((n + 1) / 2) - 1) (by omega) (by omega)) ?_
                refine z_icmpne hY eL_arePoints_170 (by omega) (fun c170 => by exfalso; omega) (fun c170 => ?_)
                refine z_aload hY eL_arePoints_173 0 rfl ?_
                refine g_gf hY (gS_X hI1) eL_arePoints_174 (v := .ref (B 0 0)) rfl ?_
                refine z_const hY eL_arePoints_177 ?_
                refine z_callV (As := [z_i 1]) (rest := []) hY eL_arePoints_178 (q_median (D := D) (h := lH A (B 0 0) (z_u (z_u σ1 0 0 X2) 0 0 X4) h) hG (gS_J hI1) (gS_B hI1) (gS_V hI1) (gS_S hI1) (by omega)) (cH_at (t := 0) (i := 0) (gS_J hI1) (by omega)) (by decide) (Nat.le_of_ble_eq_true rfl) (by rw [hmc, hms]; omega) (fun E9 h9 q => by obtain ⟨-, q⟩ := q; exfalso; omega) (fun vv10 hh10 q10 => ?_)
                obtain ⟨-, rfl, rfl⟩ := q10
                refine z_heq (show _ = gH D B κ A (z_u (z_u σ1 0 0 X2) 0 0 X4) h from rfl) ?_
                refine z_top (b := κ 30 (κ 20 2 (n / 2)) 0) (by rw [(show cMp κ 1 = (n / 2) + 1 from (by unfold cMp; rw [if_pos (by decide), hn2]; try omega)), w_at κ (by omega), show (n / 2) + 1 - 1 = (n / 2) by omega]) ?_
                refine z_aload hY eL_arePoints_181 0 rfl ?_
                refine g_gf hY (gS_X hI1) eL_arePoints_182 (v := .ref (A 6)) rfl ?_
                refine z_iload hY eL_arePoints_185 1 rfl ?_
                refine z_const hY eL_arePoints_186 ?_
                refine z_idiv hY eL_arePoints_187 (by omega) ?_
                have hz11 := hb30 (n / 2)
                refine g_ial hY (gS_X hI1) eL_arePoints_188 (j := 6) (N := 30) (x := κ 30 (κ 20 2 (n / 2)) 0) (by decide) rfl (by omega) (hP (n / 2) (by omega) (by omega)) ?_
                refine z_icmpne hY eL_arePoints_189 (by omega) (fun c189 => by exfalso; omega) (fun c189 => ?_)
                refine z_aload hY eL_arePoints_192 0 rfl ?_
                refine g_gf hY (gS_X hI1) eL_arePoints_193 (v := .ref (B 0 0)) rfl ?_
                refine z_iload hY eL_arePoints_196 3 rfl ?_
                refine z_iload hY eL_arePoints_197 2 rfl ?_
                refine z_callV (As := [z_i p, z_i q]) (rest := []) hY eL_arePoints_198 (q_quantile (D := D) (h := lH A (B 0 0) (z_u (z_u σ1 0 0 X2) 0 0 X4) h) hG (gS_J hI1) (gS_B hI1) (gS_V hI1) (gS_S hI1) (by omega) (by omega)) (cH_at (t := 0) (i := 0) (gS_J hI1) (by omega)) (by decide) (Nat.le_of_ble_eq_true rfl) (by rw [hmc, hms]; omega) (fun E9 h9 q => by obtain ⟨-, q⟩ := q; exfalso; omega) (fun vv13 hh13 q13 => ?_)
                obtain ⟨-, rfl, rfl⟩ := q13
                refine z_heq (show _ = gH D B κ A (z_u (z_u σ1 0 0 X2) 0 0 X4) h from rfl) ?_
                refine z_top (b := κ 30 (κ 20 2 (c - 1)) 0) (by rw [hn2, w_qu (by omega) hc1 (by omega) (by omega) (by omega), w_at κ (by omega)]) ?_
                refine z_aload hY eL_arePoints_201 0 rfl ?_
                refine g_gf hY (gS_X hI1) eL_arePoints_202 (v := .ref (A 6)) rfl ?_
                refine z_iload hY eL_arePoints_205 4 rfl ?_
                refine z_const hY eL_arePoints_207 ?_
                refine z_isub hY eL_arePoints_208 ?_
                have hz14 := hb30 (c - 1)
                refine g_ial hY (gS_X hI1) eL_arePoints_209 (j := 6) (N := 30) (x := κ 30 (κ 20 2 (c - 1)) 0) (by decide) rfl (by omega) (hP (c - 1) (by omega) (by omega)) ?_
                refine z_icmpeq hY eL_arePoints_210 (by omega) (fun c210 => ?_) (fun c210 => by exfalso; omega)
                refine z_aload hY eL_arePoints_215 0 rfl ?_
                refine g_gf hY (gS_X hI1) eL_arePoints_216 (v := .ref (A 6)) rfl ?_
                refine z_aload hY eL_arePoints_219 0 rfl ?_
                refine z_iload hY eL_arePoints_220 1 rfl ?_
                refine z_callV (As := [z_i n]) (rest := [.ref (A 6)]) hY eL_arePoints_221 (la_next (B := B) (κ := κ) (σ := (z_u (z_u σ1 0 0 X2) 0 0 X4)) hG (gS_X hI1) (n := n) (by omega)) ((gH_at (gS_X hI1) (by decide)).trans (congrArg some lC_40)) (by decide) (Nat.le_of_ble_eq_true rfl) (by rw [hmc, hms]; omega) (fun _ _ q => q.elim) (fun vv16 hh16 q16 => ?_)
                obtain ⟨r15, X15, rfl, hr15, hX15, rfl⟩ := q16
                have hz17 := hb30 r15
                refine g_ial hY (gS_X hI1) eL_arePoints_224 (j := 6) (N := 30) (x := κ 30 (κ 20 2 r15) 0) (by decide) rfl (by omega) (hP r15 (by omega) (by omega)) ?_
                obtain ⟨v, hv0⟩ : ∃ v : Int, v = κ 30 (κ 20 2 r15) 0 := ⟨_, rfl⟩
                refine z_top (b := v) hv0.symm ?_
                have hbd := (gS_R hI).ybd v
                have hvb := (gS_S hI).s30 (κ 20 2 r15) 0
                have hf1 : ∀ i, 0 ≤ i → i < n → (κ 30 (κ 20 2 i) 0 ≤ v ↔ i < cUp κ v) := fun i i0 i1 => (gS_R hI).yup v ⟨i0, by omega⟩
                have hf2 : ∀ i, 0 ≤ i → i < n → (κ 30 (κ 20 2 i) 0 < v ↔ i < cLw κ v) := fun i i0 i1 => (gS_R hI).ylw v ⟨i0, by omega⟩
                have hr0 := hf1 r15 (by omega) (by omega)
                have h00 : κ 30 (κ 20 2 0) 0 ≤ v ∧ cLw κ (κ 30 (κ 20 2 0) 0) = 0 := by have a := (hf1 0 (by omega) (by omega)); have b := (gS_R hI).ylw (κ 30 (κ 20 2 0) 0) (i := 0) (by omega); have c := ((gS_R hI).ybd (κ 30 (κ 20 2 0) 0)).1; omega
                have hz0 := hb30 0
                refine z_istore hY eL_arePoints_225 (ls' := [(5, z_i v), (0, .ref (A 40)), (1, z_i n), (2, z_i q), (3, z_i p), (4, z_i c)]) rfl ?_
                refine z_const hY eL_arePoints_227 ?_
                refine z_istore hY eL_arePoints_228 (ls' := [(6, z_i 0), (5, z_i v), (0, .ref (A 40)), (1, z_i n), (2, z_i q), (3, z_i p), (4, z_i c)]) rfl ?_
                refine z_const hY eL_arePoints_230 ?_
                refine z_istore hY eL_arePoints_231 (ls' := [(7, z_i 0), (6, z_i 0), (5, z_i v), (0, .ref (A 40)), (1, z_i n), (2, z_i q), (3, z_i p), (4, z_i c)]) rfl ?_
                refine z_const hY eL_arePoints_233 ?_
                refine z_istore hY eL_arePoints_234 (ls' := [(8, z_i 0), (7, z_i 0), (6, z_i 0), (5, z_i v), (0, .ref (A 40)), (1, z_i n), (2, z_i q), (3, z_i p), (4, z_i c)]) rfl ?_
                refine z_sub [4, 5, 6, 7, 8, 3, 0, 2, 1] (ls' := [(0, .ref (A 40)), (1, z_i n), (2, z_i q), (3, z_i p), (4, z_i c), (5, z_i v), (8, z_i 0), (6, z_i 0), (7, z_i 0)]) rfl ?_
                have lp236 : ∀ (fu : Nat) (k : Int) (a : Int) (w : Int), (n - k).toNat < fu → (0 ≤ k ∧ k ≤ n) → ((k ≤ cUp κ v ∧ a = 0) ∨ (cUp κ v < k ∧ a = k - cUp κ v)) → ((k ≤ cLw κ v ∧ w = 0) ∨ (cLw κ v < k ∧ k ≤ cUp κ v ∧ w = k - cLw κ v) ∨ (cUp κ v < k ∧ w = cUp κ v - cLw κ v)) → z_W Y 236 [(0, .ref (A 40)), (1, z_i n), (2, z_i q), (3, z_i p), (4, z_i c), (5, z_i v), (8, z_i k), (6, z_i a), (7, z_i w)] [] (gH D B κ A (z_u (z_u (z_u σ1 0 0 X2) 0 0 X4) 0 0 X15) h) (0 + 1 + 1 + 2 + 0) (0 + 6 + 6 + 12 + 0) := by
                  intro fu
                  induction fu with
                  | zero => intro k a w hf; exact absurd hf (Nat.not_lt_zero _)
                  | succ fu ih236 =>
                    intro k a w hf hk hab hwb
                    refine z_iload hY eL_arePoints_236 6 rfl ?_
                    refine z_iload hY eL_arePoints_238 1 rfl ?_
                    refine z_icmpge hY eL_arePoints_239 (by omega) (fun c239 => ?_) (fun c239 => ?_)
                    · refine z_aload hY eL_arePoints_292 0 rfl ?_
                      refine g_gf hY (gS_X hI1) eL_arePoints_293 (v := .ref (B 0 0)) rfl ?_
                      refine z_iload hY eL_arePoints_296 5 rfl ?_
                      refine z_callV (As := [z_i v]) (rest := []) hY eL_arePoints_298 (q_above (D := D) (h := lH A (B 0 0) (z_u (z_u (z_u σ1 0 0 X2) 0 0 X4) 0 0 X15) h) hG (gS_J hI1) (gS_B hI1) (gS_V hI1) (gS_S hI1) (by omega)) (cH_at (t := 0) (i := 0) (gS_J hI1) (by omega)) (by decide) (Nat.le_of_ble_eq_true rfl) (by rw [hmc, hms]; omega) (fun _ _ q => q.elim) (fun vv19 hh19 q19 => ?_)
                      obtain ⟨rfl, rfl⟩ := q19
                      refine z_heq (show _ = gH D B κ A (z_u (z_u (z_u σ1 0 0 X2) 0 0 X4) 0 0 X15) h from rfl) ?_
                      refine z_iload hY eL_arePoints_301 7 rfl ?_
                      refine z_icmpne hY eL_arePoints_303 (by omega) (fun c303 => by exfalso; omega) (fun c303 => ?_)
                      refine z_aload hY eL_arePoints_306 0 rfl ?_
                      refine g_gf hY (gS_X hI1) eL_arePoints_307 (v := .ref (B 0 0)) rfl ?_
                      refine z_iload hY eL_arePoints_310 5 rfl ?_
                      refine z_callV (As := [z_i v]) (rest := []) hY eL_arePoints_312 (q_with (D := D) (h := lH A (B 0 0) (z_u (z_u (z_u σ1 0 0 X2) 0 0 X4) 0 0 X15) h) hG (gS_J hI1) (gS_B hI1) (gS_V hI1) (gS_S hI1) (by omega)) (cH_at (t := 0) (i := 0) (gS_J hI1) (by omega)) (by decide) (Nat.le_of_ble_eq_true rfl) (by rw [hmc, hms]; omega) (fun _ _ q => q.elim) (fun vv21 hh21 q21 => ?_)
                      obtain ⟨rfl, rfl⟩ := q21
                      refine z_heq (show _ = gH D B κ A (z_u (z_u (z_u σ1 0 0 X2) 0 0 X4) 0 0 X15) h from rfl) ?_
                      refine z_iload hY eL_arePoints_315 8 rfl ?_
                      refine z_icmpne hY eL_arePoints_317 (by omega) (fun c317 => by exfalso; omega) (fun c317 => ?_)
                      refine z_aload hY eL_arePoints_320 0 rfl ?_
                      refine g_gf hY (gS_X hI1) eL_arePoints_321 (v := .ref (B 0 0)) rfl ?_
                      refine z_iload hY eL_arePoints_324 5 rfl ?_
                      refine z_iload hY eL_arePoints_326 8 rfl ?_
                      refine z_callV (As := [z_i v, z_i w]) (rest := []) hY eL_arePoints_328 (q_withAt (D := D) (h := lH A (B 0 0) (z_u (z_u (z_u σ1 0 0 X2) 0 0 X4) 0 0 X15) h) hG (gS_J hI1) (gS_B hI1) (gS_V hI1) (gS_S hI1) (by omega) (by omega)) (cH_at (t := 0) (i := 0) (gS_J hI1) (by omega)) (by decide) (Nat.le_of_ble_eq_true rfl) (by rw [hmc, hms]; omega) (fun _ _ q => q.elim) (fun vv23 hh23 q23 => ?_)
                      obtain ⟨rfl, rfl⟩ := q23
                      refine z_heq (show _ = gH D B κ A (z_u (z_u (z_u σ1 0 0 X2) 0 0 X4) 0 0 X15) h from rfl) ?_
                      refine z_top (b := -1) (if_neg (by omega)) ?_
                      refine z_const hY eL_arePoints_331 ?_
                      refine z_icmpne hY eL_arePoints_332 (by omega) (fun c332 => by exfalso; omega) (fun c332 => ?_)
                      refine z_aload hY eL_arePoints_335 0 rfl ?_
                      refine g_gf hY (gS_X hI1) eL_arePoints_336 (v := .ref (B 0 0)) rfl ?_
                      refine z_aload hY eL_arePoints_339 0 rfl ?_
                      refine g_gf hY (gS_X hI1) eL_arePoints_340 (v := .ref (A 6)) rfl ?_
                      refine z_const hY eL_arePoints_343 ?_
                      have hz24 := hb30 0
                      refine g_ial hY (gS_X hI1) eL_arePoints_344 (j := 6) (N := 30) (x := κ 30 (κ 20 2 0) 0) (by decide) rfl (by omega) (hP 0 (by omega) (by omega)) ?_
                      refine z_iload hY eL_arePoints_345 5 rfl ?_
                      refine z_callV (As := [z_i (κ 30 (κ 20 2 0) 0), z_i v]) (rest := []) hY eL_arePoints_347 (q_between (D := D) (h := lH A (B 0 0) (z_u (z_u (z_u σ1 0 0 X2) 0 0 X4) 0 0 X15) h) hG (gS_J hI1) (gS_B hI1) (gS_V hI1) (gS_S hI1) (by omega) (by omega)) (cH_at (t := 0) (i := 0) (gS_J hI1) (by omega)) (by decide) (Nat.le_of_ble_eq_true rfl) (by rw [hmc, hms]; omega) (fun E9 h9 q => by obtain ⟨-, q⟩ := q; exfalso; omega) (fun vv26 hh26 q26 => ?_)
                      obtain ⟨-, rfl, rfl⟩ := q26
                      refine z_heq (show _ = gH D B κ A (z_u (z_u (z_u σ1 0 0 X2) 0 0 X4) 0 0 X15) h from rfl) ?_
                      refine z_iload hY eL_arePoints_350 1 rfl ?_
                      refine z_iload hY eL_arePoints_351 7 rfl ?_
                      refine z_isub hY eL_arePoints_353 ?_
                      refine z_iload hY eL_arePoints_354 8 rfl ?_
                      refine z_isub hY eL_arePoints_356 ?_
                      refine z_icmpne hY eL_arePoints_357 (by omega) (fun c357 => by exfalso; omega) (fun c357 => ?_)
                      refine z_iload hY eL_arePoints_360 7 rfl ?_
                      refine z_ifle hY eL_arePoints_362 (by omega) (fun c362 => ?_) (fun c362 => ?_)
                      · refine z_const hY eL_arePoints_388 ?_
                        refine z_istore hY eL_arePoints_389 (ls' := [(8, z_i 0), (0, .ref (A 40)), (1, z_i n), (2, z_i q), (3, z_i p), (4, z_i c), (5, z_i v), (6, z_i a), (7, z_i w)]) rfl ?_
                        refine z_sub [1, 2, 3, 4, 5, 6, 7, 8, 0] (ls' := [(0, .ref (A 40)), (1, z_i n), (2, z_i q), (3, z_i p), (4, z_i c), (5, z_i v), (6, z_i a), (7, z_i w), (8, z_i 0)]) rfl ?_
                        have lp391 : ∀ (fu : Nat) (k : Int), (w - k).toNat < fu → (0 ≤ k ∧ k ≤ w) → z_W Y 391 [(0, .ref (A 40)), (1, z_i n), (2, z_i q), (3, z_i p), (4, z_i c), (5, z_i v), (6, z_i a), (7, z_i w), (8, z_i k)] [] (gH D B κ A (z_u (z_u (z_u σ1 0 0 X2) 0 0 X4) 0 0 X15) h) (0 + 1 + 1 + 2 + 0 + 0 + 0 + 0 + 1) (0 + 6 + 6 + 12 + 0 + 0 + 0 + 0 + 6) := by
                          intro fu
                          induction fu with
                          | zero => intro k hf; exact absurd hf (Nat.not_lt_zero _)
                          | succ fu ih391 =>
                            intro k hf hk2
                            refine z_iload hY eL_arePoints_391 8 rfl ?_
                            refine z_iload hY eL_arePoints_393 7 rfl ?_
                            refine z_icmpge hY eL_arePoints_395 (by omega) (fun c395 => ?_) (fun c395 => ?_)
                            · refine z_const hY eL_arePoints_429 ?_
                              exact z_zreturn hY eL_arePoints_430 rfl (by omega) (by rw [hφ]; exact ⟨z_u (z_u (z_u σ1 0 0 X2) 0 0 X4) 0 0 X15, rfl, gS_E hI1 (wE_u (wE_u (wE_u wE_r (by decide)) (by decide)) (by decide)) (wB_u (wB_u (wB_u hw (by show (-2147483648 : Int) ≤ _ ∧ _ ≤ (2147483647 : Int); omega)) (by show (-2147483648 : Int) ≤ _ ∧ _ ≤ (2147483647 : Int); omega)) (by show (-2147483648 : Int) ≤ _ ∧ _ ≤ (2147483647 : Int); omega)), (wE_u (wE_u (wE_u hE (by decide)) (by decide)) (by decide)), rfl⟩) (by rw [hmc, hms]; omega)
                            · refine z_aload hY eL_arePoints_398 0 rfl ?_
                              refine g_gf hY (gS_X hI1) eL_arePoints_399 (v := .ref (A 2)) rfl ?_
                              refine z_const hY eL_arePoints_402 ?_
                              refine z_aload hY eL_arePoints_403 0 rfl ?_
                              refine g_gf hY (gS_X hI1) eL_arePoints_404 (v := .ref (B 0 0)) rfl ?_
                              refine z_iload hY eL_arePoints_407 5 rfl ?_
                              refine z_iload hY eL_arePoints_409 8 rfl ?_
                              refine z_callV (As := [z_i v, z_i k]) (rest := [z_i 4, .ref (A 2)]) hY eL_arePoints_411 (q_withAt (D := D) (h := lH A (B 0 0) (z_u (z_u (z_u σ1 0 0 X2) 0 0 X4) 0 0 X15) h) hG (gS_J hI1) (gS_B hI1) (gS_V hI1) (gS_S hI1) (by omega) (by omega)) (cH_at (t := 0) (i := 0) (gS_J hI1) (by omega)) (by decide) (Nat.le_of_ble_eq_true rfl) (by rw [hmc, hms]; omega) (fun _ _ q => q.elim) (fun vv28 hh28 q28 => ?_)
                              obtain ⟨rfl, rfl⟩ := q28
                              refine z_heq (show _ = gH D B κ A (z_u (z_u (z_u σ1 0 0 X2) 0 0 X4) 0 0 X15) h from rfl) ?_
                              have hpx := (gS_R hI).xpp (i := cLw κ v + k) (by omega)
                              have hpb := gS_pb hI hpx
                              have h34 := jR.xn34 (gS_S hI) (gS_R hI) hpx
                              have hx1 := (gS_R hI).yup v (i := cLw κ v + k) (by omega)
                              have hx2 := (gS_R hI).ylw v (i := cLw κ v + k) (by omega)
                              have hx3 := (gS_R hI).xpts (pr_b hpx)
                              have hx4 := gS_14 hI1 (j := 4 * κ 20 2 (cLw κ v + k)) (by omega)
                              refine z_top (b := κ 20 2 (cLw κ v + k)) ((if_pos (by omega)).trans h34) ?_
                              refine z_imul hY eL_arePoints_414 ?_
                              have hb29 := (gS_b hI1).s2 (4 * (κ 20 2 (cLw κ v + k)))
                              refine g_ial hY (gS_X hI1) eL_arePoints_415 (j := 2) (N := 120) (x := σ1 2 (4 * (κ 20 2 (cLw κ v + k)))) (by decide) rfl (by omega) (Eq.trans (congrFun (z_u_ne (by decide)) _) (Eq.trans (congrFun (z_u_ne (by decide)) _) (congrFun (z_u_ne (by decide)) _))) ?_
                              refine z_iload hY eL_arePoints_416 5 rfl ?_
                              refine z_icmpeq hY eL_arePoints_418 (by omega) (fun c418 => ?_) (fun c418 => by exfalso; omega)
                              refine z_iinc hY eL_arePoints_423 8 rfl (ls' := [(8, z_i (k + 1)), (0, .ref (A 40)), (1, z_i n), (2, z_i q), (3, z_i p), (4, z_i c), (5, z_i v), (6, z_i a), (7, z_i w)]) rfl ?_
                              refine z_goto hY eL_arePoints_426 ?_
                              refine z_sub [1, 2, 3, 4, 5, 6, 7, 8, 0] (ls' := [(0, .ref (A 40)), (1, z_i n), (2, z_i q), (3, z_i p), (4, z_i c), (5, z_i v), (6, z_i a), (7, z_i w), (8, z_i (k + 1))]) rfl ?_
                              exact ih391 (k + 1) (by omega) (by omega)
                        exact lp391 _ 0 (Nat.lt_succ_self _) (by omega)
                      · refine z_aload hY eL_arePoints_365 0 rfl ?_
                        refine g_gf hY (gS_X hI1) eL_arePoints_366 (v := .ref (B 0 0)) rfl ?_
                        refine z_iload hY eL_arePoints_369 5 rfl ?_
                        refine z_callV (As := [z_i v]) (rest := []) hY eL_arePoints_371 (q_next (D := D) (h := lH A (B 0 0) (z_u (z_u (z_u σ1 0 0 X2) 0 0 X4) 0 0 X15) h) hG (gS_J hI1) (gS_B hI1) (gS_V hI1) (gS_S hI1) (by omega)) (cH_at (t := 0) (i := 0) (gS_J hI1) (by omega)) (by decide) (Nat.le_of_ble_eq_true rfl) (by rw [hmc, hms]; omega) (fun E9 h9 q => by obtain ⟨-, q⟩ := q; exfalso; omega) (fun vv31 hh31 q31 => ?_)
                        obtain ⟨-, rfl, rfl⟩ := q31
                        refine z_heq (show _ = gH D B κ A (z_u (z_u (z_u σ1 0 0 X2) 0 0 X4) 0 0 X15) h from rfl) ?_
                        refine z_top (b := κ 30 (κ 20 2 (n - a)) 0) (by rw [show cUp κ v = n - a by omega]) ?_
                        refine z_aload hY eL_arePoints_374 0 rfl ?_
                        refine g_gf hY (gS_X hI1) eL_arePoints_375 (v := .ref (A 6)) rfl ?_
                        refine z_iload hY eL_arePoints_378 1 rfl ?_
                        refine z_iload hY eL_arePoints_379 7 rfl ?_
                        refine z_isub hY eL_arePoints_381 ?_
                        have hz32 := hb30 (n - a)
                        refine g_ial hY (gS_X hI1) eL_arePoints_382 (j := 6) (N := 30) (x := κ 30 (κ 20 2 (n - a)) 0) (by decide) rfl (by omega) (hP (n - a) (by omega) (by omega)) ?_
                        refine z_icmpeq hY eL_arePoints_383 (by omega) (fun c383 => ?_) (fun c383 => by exfalso; omega)
                        refine z_const hY eL_arePoints_388 ?_
                        refine z_istore hY eL_arePoints_389 (ls' := [(8, z_i 0), (0, .ref (A 40)), (1, z_i n), (2, z_i q), (3, z_i p), (4, z_i c), (5, z_i v), (6, z_i a), (7, z_i w)]) rfl ?_
                        refine z_sub [1, 2, 3, 4, 5, 6, 7, 8, 0] (ls' := [(0, .ref (A 40)), (1, z_i n), (2, z_i q), (3, z_i p), (4, z_i c), (5, z_i v), (6, z_i a), (7, z_i w), (8, z_i 0)]) rfl ?_
                        have lp391 : ∀ (fu : Nat) (k : Int), (w - k).toNat < fu → (0 ≤ k ∧ k ≤ w) → z_W Y 391 [(0, .ref (A 40)), (1, z_i n), (2, z_i q), (3, z_i p), (4, z_i c), (5, z_i v), (6, z_i a), (7, z_i w), (8, z_i k)] [] (gH D B κ A (z_u (z_u (z_u σ1 0 0 X2) 0 0 X4) 0 0 X15) h) (0 + 1 + 1 + 2 + 0 + 0 + 0 + 0 + 1 + 1) (0 + 6 + 6 + 12 + 0 + 0 + 0 + 0 + 6 + 6) := by
                          intro fu
                          induction fu with
                          | zero => intro k hf; exact absurd hf (Nat.not_lt_zero _)
                          | succ fu ih391 =>
                            intro k hf hk2
                            refine z_iload hY eL_arePoints_391 8 rfl ?_
                            refine z_iload hY eL_arePoints_393 7 rfl ?_
                            refine z_icmpge hY eL_arePoints_395 (by omega) (fun c395 => ?_) (fun c395 => ?_)
                            · refine z_const hY eL_arePoints_429 ?_
                              exact z_zreturn hY eL_arePoints_430 rfl (by omega) (by rw [hφ]; exact ⟨z_u (z_u (z_u σ1 0 0 X2) 0 0 X4) 0 0 X15, rfl, gS_E hI1 (wE_u (wE_u (wE_u wE_r (by decide)) (by decide)) (by decide)) (wB_u (wB_u (wB_u hw (by show (-2147483648 : Int) ≤ _ ∧ _ ≤ (2147483647 : Int); omega)) (by show (-2147483648 : Int) ≤ _ ∧ _ ≤ (2147483647 : Int); omega)) (by show (-2147483648 : Int) ≤ _ ∧ _ ≤ (2147483647 : Int); omega)), (wE_u (wE_u (wE_u hE (by decide)) (by decide)) (by decide)), rfl⟩) (by rw [hmc, hms]; omega)
                            · refine z_aload hY eL_arePoints_398 0 rfl ?_
                              refine g_gf hY (gS_X hI1) eL_arePoints_399 (v := .ref (A 2)) rfl ?_
                              refine z_const hY eL_arePoints_402 ?_
                              refine z_aload hY eL_arePoints_403 0 rfl ?_
                              refine g_gf hY (gS_X hI1) eL_arePoints_404 (v := .ref (B 0 0)) rfl ?_
                              refine z_iload hY eL_arePoints_407 5 rfl ?_
                              refine z_iload hY eL_arePoints_409 8 rfl ?_
                              refine z_callV (As := [z_i v, z_i k]) (rest := [z_i 4, .ref (A 2)]) hY eL_arePoints_411 (q_withAt (D := D) (h := lH A (B 0 0) (z_u (z_u (z_u σ1 0 0 X2) 0 0 X4) 0 0 X15) h) hG (gS_J hI1) (gS_B hI1) (gS_V hI1) (gS_S hI1) (by omega) (by omega)) (cH_at (t := 0) (i := 0) (gS_J hI1) (by omega)) (by decide) (Nat.le_of_ble_eq_true rfl) (by rw [hmc, hms]; omega) (fun _ _ q => q.elim) (fun vv34 hh34 q34 => ?_)
                              obtain ⟨rfl, rfl⟩ := q34
                              refine z_heq (show _ = gH D B κ A (z_u (z_u (z_u σ1 0 0 X2) 0 0 X4) 0 0 X15) h from rfl) ?_
                              have hpx := (gS_R hI).xpp (i := cLw κ v + k) (by omega)
                              have hpb := gS_pb hI hpx
                              have h34 := jR.xn34 (gS_S hI) (gS_R hI) hpx
                              have hx1 := (gS_R hI).yup v (i := cLw κ v + k) (by omega)
                              have hx2 := (gS_R hI).ylw v (i := cLw κ v + k) (by omega)
                              have hx3 := (gS_R hI).xpts (pr_b hpx)
                              have hx4 := gS_14 hI1 (j := 4 * κ 20 2 (cLw κ v + k)) (by omega)
                              refine z_top (b := κ 20 2 (cLw κ v + k)) ((if_pos (by omega)).trans h34) ?_
                              refine z_imul hY eL_arePoints_414 ?_
                              have hb35 := (gS_b hI1).s2 (4 * (κ 20 2 (cLw κ v + k)))
                              refine g_ial hY (gS_X hI1) eL_arePoints_415 (j := 2) (N := 120) (x := σ1 2 (4 * (κ 20 2 (cLw κ v + k)))) (by decide) rfl (by omega) (Eq.trans (congrFun (z_u_ne (by decide)) _) (Eq.trans (congrFun (z_u_ne (by decide)) _) (congrFun (z_u_ne (by decide)) _))) ?_
                              refine z_iload hY eL_arePoints_416 5 rfl ?_
                              refine z_icmpeq hY eL_arePoints_418 (by omega) (fun c418 => ?_) (fun c418 => by exfalso; omega)
                              refine z_iinc hY eL_arePoints_423 8 rfl (ls' := [(8, z_i (k + 1)), (0, .ref (A 40)), (1, z_i n), (2, z_i q), (3, z_i p), (4, z_i c), (5, z_i v), (6, z_i a), (7, z_i w)]) rfl ?_
                              refine z_goto hY eL_arePoints_426 ?_
                              refine z_sub [1, 2, 3, 4, 5, 6, 7, 8, 0] (ls' := [(0, .ref (A 40)), (1, z_i n), (2, z_i q), (3, z_i p), (4, z_i c), (5, z_i v), (6, z_i a), (7, z_i w), (8, z_i (k + 1))]) rfl ?_
                              exact ih391 (k + 1) (by omega) (by omega)
                        exact lp391 _ 0 (Nat.lt_succ_self _) (by omega)
                    · have hfk1 := hf1 k (by omega) (by omega)
                      have hfk2 := hf2 k (by omega) (by omega)
                      have hfb := hb30 k
                      refine z_iload hY eL_arePoints_242 7 rfl ?_
                      refine z_aload hY eL_arePoints_244 0 rfl ?_
                      refine g_gf hY (gS_X hI1) eL_arePoints_245 (v := .ref (A 6)) rfl ?_
                      refine z_iload hY eL_arePoints_248 6 rfl ?_
                      have hz36 := hb30 k
                      refine g_ial hY (gS_X hI1) eL_arePoints_250 (j := 6) (N := 30) (x := κ 30 (κ 20 2 k) 0) (by decide) rfl (by omega) (hP k (by omega) (by omega)) ?_
                      refine z_iload hY eL_arePoints_251 5 rfl ?_
                      refine z_icmple hY eL_arePoints_253 (by omega) (fun c253 => ?_) (fun c253 => ?_)
                      · refine z_const hY eL_arePoints_260 ?_
                        refine z_iadd hY eL_arePoints_261 ?_
                        refine z_top (b := a) (by omega) ?_
                        refine z_istore hY eL_arePoints_262 (ls' := [(6, z_i a), (0, .ref (A 40)), (1, z_i n), (2, z_i q), (3, z_i p), (4, z_i c), (5, z_i v), (8, z_i k), (7, z_i w)]) rfl ?_
                        refine z_iload hY eL_arePoints_264 8 rfl ?_
                        refine z_aload hY eL_arePoints_266 1 rfl ?_
                        refine g_gf hY (gS_X hI1) eL_arePoints_267 (v := .ref (A 6)) rfl ?_
                        refine z_iload hY eL_arePoints_270 7 rfl ?_
                        have hz37 := hb30 k
                        refine g_ial hY (gS_X hI1) eL_arePoints_272 (j := 6) (N := 30) (x := κ 30 (κ 20 2 k) 0) (by decide) rfl (by omega) (hP k (by omega) (by omega)) ?_
                        refine z_iload hY eL_arePoints_273 6 rfl ?_
                        refine z_icmpne hY eL_arePoints_275 (by omega) (fun c275 => ?_) (fun c275 => ?_)
                        · refine z_const hY eL_arePoints_282 ?_
                          refine z_iadd hY eL_arePoints_283 ?_
                          refine z_top (b := w) (by omega) ?_
                          refine z_istore hY eL_arePoints_284 (ls' := [(7, z_i w), (6, z_i a), (0, .ref (A 40)), (1, z_i n), (2, z_i q), (3, z_i p), (4, z_i c), (5, z_i v), (8, z_i k)]) rfl ?_
                          refine z_iinc hY eL_arePoints_286 8 rfl (ls' := [(8, z_i (k + 1)), (7, z_i w), (6, z_i a), (0, .ref (A 40)), (1, z_i n), (2, z_i q), (3, z_i p), (4, z_i c), (5, z_i v)]) rfl ?_
                          refine z_goto hY eL_arePoints_289 ?_
                          refine z_sub [3, 4, 5, 6, 7, 8, 0, 2, 1] (ls' := [(0, .ref (A 40)), (1, z_i n), (2, z_i q), (3, z_i p), (4, z_i c), (5, z_i v), (8, z_i (k + 1)), (6, z_i a), (7, z_i w)]) rfl ?_
                          exact ih236 (k + 1) a w (by omega) (by omega) (by omega) (by omega)
                        · refine z_const hY eL_arePoints_278 ?_
                          refine z_goto hY eL_arePoints_279 ?_
                          refine z_iadd hY eL_arePoints_283 ?_
                          refine z_istore hY eL_arePoints_284 (ls' := [(7, z_i (w + 1)), (6, z_i a), (0, .ref (A 40)), (1, z_i n), (2, z_i q), (3, z_i p), (4, z_i c), (5, z_i v), (8, z_i k)]) rfl ?_
                          refine z_iinc hY eL_arePoints_286 8 rfl (ls' := [(8, z_i (k + 1)), (7, z_i (w + 1)), (6, z_i a), (0, .ref (A 40)), (1, z_i n), (2, z_i q), (3, z_i p), (4, z_i c), (5, z_i v)]) rfl ?_
                          refine z_goto hY eL_arePoints_289 ?_
                          refine z_sub [3, 4, 5, 6, 7, 8, 0, 2, 1] (ls' := [(0, .ref (A 40)), (1, z_i n), (2, z_i q), (3, z_i p), (4, z_i c), (5, z_i v), (8, z_i (k + 1)), (6, z_i a), (7, z_i (w + 1))]) rfl ?_
                          exact ih236 (k + 1) a (w + 1) (by omega) (by omega) (by omega) (by omega)
                      · refine z_const hY eL_arePoints_256 ?_
                        refine z_goto hY eL_arePoints_257 ?_
                        refine z_iadd hY eL_arePoints_261 ?_
                        refine z_istore hY eL_arePoints_262 (ls' := [(6, z_i (a + 1)), (0, .ref (A 40)), (1, z_i n), (2, z_i q), (3, z_i p), (4, z_i c), (5, z_i v), (8, z_i k), (7, z_i w)]) rfl ?_
                        refine z_iload hY eL_arePoints_264 8 rfl ?_
                        refine z_aload hY eL_arePoints_266 1 rfl ?_
                        refine g_gf hY (gS_X hI1) eL_arePoints_267 (v := .ref (A 6)) rfl ?_
                        refine z_iload hY eL_arePoints_270 7 rfl ?_
                        have hz38 := hb30 k
                        refine g_ial hY (gS_X hI1) eL_arePoints_272 (j := 6) (N := 30) (x := κ 30 (κ 20 2 k) 0) (by decide) rfl (by omega) (hP k (by omega) (by omega)) ?_
                        refine z_iload hY eL_arePoints_273 6 rfl ?_
                        refine z_icmpne hY eL_arePoints_275 (by omega) (fun c275 => ?_) (fun c275 => ?_)
                        · refine z_const hY eL_arePoints_282 ?_
                          refine z_iadd hY eL_arePoints_283 ?_
                          refine z_top (b := w) (by omega) ?_
                          refine z_istore hY eL_arePoints_284 (ls' := [(7, z_i w), (6, z_i (a + 1)), (0, .ref (A 40)), (1, z_i n), (2, z_i q), (3, z_i p), (4, z_i c), (5, z_i v), (8, z_i k)]) rfl ?_
                          refine z_iinc hY eL_arePoints_286 8 rfl (ls' := [(8, z_i (k + 1)), (7, z_i w), (6, z_i (a + 1)), (0, .ref (A 40)), (1, z_i n), (2, z_i q), (3, z_i p), (4, z_i c), (5, z_i v)]) rfl ?_
                          refine z_goto hY eL_arePoints_289 ?_
                          refine z_sub [3, 4, 5, 6, 7, 8, 0, 2, 1] (ls' := [(0, .ref (A 40)), (1, z_i n), (2, z_i q), (3, z_i p), (4, z_i c), (5, z_i v), (8, z_i (k + 1)), (6, z_i (a + 1)), (7, z_i w)]) rfl ?_
                          exact ih236 (k + 1) (a + 1) w (by omega) (by omega) (by omega) (by omega)
                        · refine z_const hY eL_arePoints_278 ?_
                          refine z_goto hY eL_arePoints_279 ?_
                          refine z_iadd hY eL_arePoints_283 ?_
                          refine z_istore hY eL_arePoints_284 (ls' := [(7, z_i (w + 1)), (6, z_i (a + 1)), (0, .ref (A 40)), (1, z_i n), (2, z_i q), (3, z_i p), (4, z_i c), (5, z_i v), (8, z_i k)]) rfl ?_
                          refine z_iinc hY eL_arePoints_286 8 rfl (ls' := [(8, z_i (k + 1)), (7, z_i (w + 1)), (6, z_i (a + 1)), (0, .ref (A 40)), (1, z_i n), (2, z_i q), (3, z_i p), (4, z_i c), (5, z_i v)]) rfl ?_
                          refine z_goto hY eL_arePoints_289 ?_
                          refine z_sub [3, 4, 5, 6, 7, 8, 0, 2, 1] (ls' := [(0, .ref (A 40)), (1, z_i n), (2, z_i q), (3, z_i p), (4, z_i c), (5, z_i v), (8, z_i (k + 1)), (6, z_i (a + 1)), (7, z_i (w + 1))]) rfl ?_
                          exact ih236 (k + 1) (a + 1) (w + 1) (by omega) (by omega) (by omega) (by omega)
                exact lp236 _ 0 0 0 (Nat.lt_succ_self _) (by omega) (by omega) (by omega)
              · refine z_iinc hY eL_arePoints_144 4 rfl (ls' := [(4, z_i (c + 1)), (0, .ref (A 40)), (1, z_i n), (2, z_i q), (3, z_i p)]) rfl ?_
                refine z_goto hY eL_arePoints_147 ?_
                refine z_sub [1, 2, 3, 4, 0] (ls' := [(0, .ref (A 40)), (1, z_i n), (2, z_i q), (3, z_i p), (4, z_i (c + 1))]) rfl ?_
                exact ih134 (c + 1) (by have := w_qu1 (c := c) (q := q) (n := n) (p := p) (by omega) (by omega) (by omega) (by omega); omega) (by have := w_qu1 (by omega) (by omega) (by omega) c141; omega) (Or.inr (by rw [show c + 1 - 1 = c by omega]; omega))
          exact lp134 _ 1 (Nat.lt_succ_self _) (by omega) (Or.inl rfl)
        · refine z_aload hY eL_arePoints_96 0 rfl ?_
          refine g_gf hY (gS_X hI1) eL_arePoints_97 (v := .ref (B 0 0)) rfl ?_
          refine z_callV (As := []) (rest := []) hY eL_arePoints_100 (q_meanPoints (D := D) (h := lH A (B 0 0) σ1 h) hG (gS_J hI1) (gS_B hI1) (gS_V hI1) (gS_S hI1)) (cH_at (t := 0) (i := 0) (gS_J hI1) (by omega)) (by decide) (Nat.le_of_ble_eq_true rfl) ⟨Nat.zero_le _, Nat.zero_le _⟩ (fun _ _ q => q.elim) (fun vv39 hh39 q39 => ?_)
          obtain ⟨rfl, rfl⟩ := q39
          refine z_heq (show _ = gH D B κ A σ1 h from rfl) ?_
          refine z_sq (st' := .double FP.dconst0 :: []) (by rw [(gS_R hI).aMean (gS_M hI)]; unfold yMp; rw [if_pos (by omega)]; rfl) ?_
          refine z_dconst0 hY eL_arePoints_103 ?_
          refine z_dcmp0 hY eL_arePoints_104 ?_
          refine z_ifne hY eL_arePoints_105 (by omega) (fun c105 => by exfalso; omega) (fun c105 => ?_)
          refine z_const hY eL_arePoints_108 ?_
          refine z_goto hY eL_arePoints_109 ?_
          exact z_zreturn hY eL_arePoints_113 rfl (by omega) (by rw [hφ]; exact ⟨σ1, rfl, hI1, hE, rfl⟩) ⟨Nat.zero_le _, Nat.zero_le _⟩
      · refine z_aload hY eL_arePoints_12 0 rfl ?_
        refine g_gf hY (gS_X hI) eL_arePoints_13 (v := .ref (A 7)) rfl ?_
        refine z_iload hY eL_arePoints_16 2 rfl ?_
        have hb40 := (gS_b hI).s7 e
        refine g_bal hY (gS_X hI) eL_arePoints_17 (j := 7) (N := 30) (x := σ 7 e) (by decide) rfl (by omega) (congrFun (hE 7 (by decide) (by decide) (by decide)) _) ?_
        refine z_ifne hY eL_arePoints_18 (by omega) (fun c18 => ?_) (fun c18 => ?_)
        · have hpe : pr ρ e := (gS_pr hI).mpr ⟨by omega, by omega, by omega⟩
          have h14e := gS_14 hI (j := 4 * e) (by omega)
          refine z_iload hY eL_arePoints_24 1 rfl ?_
          refine z_istore hY eL_arePoints_25 (ls' := [(3, z_i n), (0, .ref (A 40)), (1, z_i n), (2, z_i e)]) rfl ?_
          refine z_sub [1, 2, 3, 0] (ls' := [(0, .ref (A 40)), (1, z_i n), (2, z_i e), (3, z_i n)]) rfl ?_
          have lp26 : ∀ (fu : Nat) (a : Int) (σ2 : z_S), (a).toNat < fu → (0 ≤ a ∧ a ≤ n) → (wE σ2 σ) → (wB σ2) → (∀ j, j < a → σ2 6 j = σ1 6 j) → (∀ j, a < j → j ≤ n → σ2 6 j = σ1 6 (j - 1)) → (∀ j, a ≤ j → j < n → σ 2 (4 * e) < σ1 6 j) → z_W Y 26 [(0, .ref (A 40)), (1, z_i n), (2, z_i e), (3, z_i a)] [] (gH D B κ A σ2 h) 0 0 := by
            intro fu
            induction fu with
            | zero => intro a σ2 hf; exact absurd hf (Nat.not_lt_zero _)
            | succ fu ih26 =>
              intro a σ2 hf ha hE2 hw2 f1 f3 h2
              refine z_iload hY eL_arePoints_26 3 rfl ?_
              refine z_ifle hY eL_arePoints_27 (by omega) (fun c27 => ?_) (fun c27 => ?_)
              · refine z_aload hY eL_arePoints_69 0 rfl ?_
                refine g_gf hY (gS_X hI) eL_arePoints_70 (v := .ref (A 6)) rfl ?_
                refine z_iload hY eL_arePoints_73 3 rfl ?_
                refine z_aload hY eL_arePoints_74 0 rfl ?_
                refine g_gf hY (gS_X hI) eL_arePoints_75 (v := .ref (A 2)) rfl ?_
                refine z_const hY eL_arePoints_78 ?_
                refine z_iload hY eL_arePoints_79 2 rfl ?_
                refine z_imul hY eL_arePoints_80 ?_
                have hb41 := (gS_b hI).s2 (4 * e)
                refine g_ial hY (gS_X hI) eL_arePoints_81 (j := 2) (N := 120) (x := σ 2 (4 * e)) (by decide) rfl (by omega) (congrFun (hE2 2 (by decide) (by decide) (by decide)) _) ?_
                refine g_ias hY (gS_X hI) eL_arePoints_82 (j := 6) (N := 30) (by decide) (fun _ => rfl) (by omega) ?_
                refine z_iinc hY eL_arePoints_83 1 rfl (ls' := [(1, z_i (n + 1)), (0, .ref (A 40)), (2, z_i e), (3, z_i a)]) rfl ?_
                refine z_iinc hY eL_arePoints_86 2 rfl (ls' := [(2, z_i (e + 1)), (1, z_i (n + 1)), (0, .ref (A 40)), (3, z_i a)]) rfl ?_
                refine z_goto hY eL_arePoints_89 ?_
                have hai := ap_ins (g := (z_u σ2 6 a (σ 2 (4 * e))) 6) (x := σ 2 (4 * e)) hs ha (by first | exact Or.inl (by omega) | exact Or.inr (by omega)) h2 (fun j j0 j1 => (z_u_at' (by omega)).trans (f1 j j1)) z_u_at (fun j j0 j1 => (z_u_at' (by omega)).trans (f3 j j0 j1))
                refine z_sub [2, 1, 0] (ls' := [(0, .ref (A 40)), (1, z_i (n + 1)), (2, z_i (e + 1))]) rfl ?_
                exact ih4 (n + 1) (e + 1) (z_u σ2 6 a (σ 2 (4 * e))) (by omega) (by omega) (wE_u hE2 (by decide)) (wB_u hw2 (by show (-100000 : Int) ≤ _ ∧ _ ≤ (100000 : Int); omega)) hai.1 (fun v => by rw [z_smS (by omega), ← hcn v, hai.2 v, ← h14e]; congr 1; by_cases c9 : ρ 14 (4 * e) ≤ v; (rw [if_pos c9, if_pos ⟨hpe, c9⟩]); (rw [if_neg c9, if_neg (fun q => c9 q.2)])) (by rw [z_smS (by omega), ← hnn, if_pos hpe])
              · have hq3 := f1 (a - 1) (by omega)
                refine z_aload hY eL_arePoints_30 0 rfl ?_
                refine g_gf hY (gS_X hI) eL_arePoints_31 (v := .ref (A 6)) rfl ?_
                refine z_iload hY eL_arePoints_34 3 rfl ?_
                refine z_const hY eL_arePoints_35 ?_
                refine z_isub hY eL_arePoints_36 ?_
                have hb42 := hw2.s6 (a - 1)
                refine g_ial hY (gS_X hI) eL_arePoints_37 (j := 6) (N := 30) (x := σ2 6 (a - 1)) (by decide) rfl (by omega) rfl ?_
                refine z_aload hY eL_arePoints_38 0 rfl ?_
                refine g_gf hY (gS_X hI) eL_arePoints_39 (v := .ref (A 2)) rfl ?_
                refine z_const hY eL_arePoints_42 ?_
                refine z_iload hY eL_arePoints_43 2 rfl ?_
                refine z_imul hY eL_arePoints_44 ?_
                have hb43 := (gS_b hI).s2 (4 * e)
                refine g_ial hY (gS_X hI) eL_arePoints_45 (j := 2) (N := 120) (x := σ 2 (4 * e)) (by decide) rfl (by omega) (congrFun (hE2 2 (by decide) (by decide) (by decide)) _) ?_
                refine z_icmple hY eL_arePoints_46 (by omega) (fun c46 => ?_) (fun c46 => ?_)
                · refine z_aload hY eL_arePoints_69 0 rfl ?_
                  refine g_gf hY (gS_X hI) eL_arePoints_70 (v := .ref (A 6)) rfl ?_
                  refine z_iload hY eL_arePoints_73 3 rfl ?_
                  refine z_aload hY eL_arePoints_74 0 rfl ?_
                  refine g_gf hY (gS_X hI) eL_arePoints_75 (v := .ref (A 2)) rfl ?_
                  refine z_const hY eL_arePoints_78 ?_
                  refine z_iload hY eL_arePoints_79 2 rfl ?_
                  refine z_imul hY eL_arePoints_80 ?_
                  refine g_ial hY (gS_X hI) eL_arePoints_81 (j := 2) (N := 120) (x := σ 2 (4 * e)) (by decide) rfl (by omega) (congrFun (hE2 2 (by decide) (by decide) (by decide)) _) ?_
                  refine g_ias hY (gS_X hI) eL_arePoints_82 (j := 6) (N := 30) (by decide) (fun _ => rfl) (by omega) ?_
                  refine z_iinc hY eL_arePoints_83 1 rfl (ls' := [(1, z_i (n + 1)), (0, .ref (A 40)), (2, z_i e), (3, z_i a)]) rfl ?_
                  refine z_iinc hY eL_arePoints_86 2 rfl (ls' := [(2, z_i (e + 1)), (1, z_i (n + 1)), (0, .ref (A 40)), (3, z_i a)]) rfl ?_
                  refine z_goto hY eL_arePoints_89 ?_
                  have hai := ap_ins (g := (z_u σ2 6 a (σ 2 (4 * e))) 6) (x := σ 2 (4 * e)) hs ha (by first | exact Or.inl (by omega) | exact Or.inr (by omega)) h2 (fun j j0 j1 => (z_u_at' (by omega)).trans (f1 j j1)) z_u_at (fun j j0 j1 => (z_u_at' (by omega)).trans (f3 j j0 j1))
                  refine z_sub [2, 1, 0] (ls' := [(0, .ref (A 40)), (1, z_i (n + 1)), (2, z_i (e + 1))]) rfl ?_
                  exact ih4 (n + 1) (e + 1) (z_u σ2 6 a (σ 2 (4 * e))) (by omega) (by omega) (wE_u hE2 (by decide)) (wB_u hw2 (by show (-100000 : Int) ≤ _ ∧ _ ≤ (100000 : Int); omega)) hai.1 (fun v => by rw [z_smS (by omega), ← hcn v, hai.2 v, ← h14e]; congr 1; by_cases c9 : ρ 14 (4 * e) ≤ v; (rw [if_pos c9, if_pos ⟨hpe, c9⟩]); (rw [if_neg c9, if_neg (fun q => c9 q.2)])) (by rw [z_smS (by omega), ← hnn, if_pos hpe])
                · refine z_aload hY eL_arePoints_49 0 rfl ?_
                  refine g_gf hY (gS_X hI) eL_arePoints_50 (v := .ref (A 6)) rfl ?_
                  refine z_iload hY eL_arePoints_53 3 rfl ?_
                  refine z_aload hY eL_arePoints_54 0 rfl ?_
                  refine g_gf hY (gS_X hI) eL_arePoints_55 (v := .ref (A 6)) rfl ?_
                  refine z_iload hY eL_arePoints_58 3 rfl ?_
                  refine z_const hY eL_arePoints_59 ?_
                  refine z_isub hY eL_arePoints_60 ?_
                  refine g_ial hY (gS_X hI) eL_arePoints_61 (j := 6) (N := 30) (x := σ2 6 (a - 1)) (by decide) rfl (by omega) rfl ?_
                  refine g_ias hY (gS_X hI) eL_arePoints_62 (j := 6) (N := 30) (by decide) (fun _ => rfl) (by omega) ?_
                  refine z_iinc hY eL_arePoints_63 3 rfl (ls' := [(3, z_i (a + (-1))), (0, .ref (A 40)), (1, z_i n), (2, z_i e)]) rfl ?_
                  refine z_lq (ls' := [(3, z_i (a - 1)), (0, .ref (A 40)), (1, z_i n), (2, z_i e)]) (by rw [show (a + (-1) : Int) = a - 1 by omega]) ?_
                  refine z_goto hY eL_arePoints_66 ?_
                  refine z_sub [1, 2, 3, 0] (ls' := [(0, .ref (A 40)), (1, z_i n), (2, z_i e), (3, z_i (a - 1))]) rfl ?_
                  exact ih26 (a - 1) (z_u σ2 6 a (σ2 6 (a - 1))) (by omega) (by omega) (wE_u hE2 (by decide)) (wB_u hw2 (by show (-100000 : Int) ≤ _ ∧ _ ≤ (100000 : Int); omega)) (fun j hj => (z_u_at' (by omega)).trans (f1 j (by omega))) (fun j j0 j1 => by by_cases c : j = a; (rw [c, z_u_at]; exact f1 (a - 1) (by omega)); (exact (z_u_at' c).trans (f3 j (by omega) j1))) (fun j j0 j1 => by by_cases c : j = a - 1; (rw [c, ← f1 (a - 1) (by omega)]; omega); (exact h2 j (by omega) j1))
          exact lp26 _ n σ1 (Nat.lt_succ_self _) (by omega) hE hw (fun _ _ => rfl) (fun j _ _ => by omega) (fun j _ _ => by omega)
        · refine z_goto hY eL_arePoints_21 ?_
          refine z_iinc hY eL_arePoints_86 2 rfl (ls' := [(2, z_i (e + 1)), (0, .ref (A 40)), (1, z_i n)]) rfl ?_
          refine z_goto hY eL_arePoints_89 ?_
          refine z_sub [1, 2, 0] (ls' := [(0, .ref (A 40)), (1, z_i n), (2, z_i (e + 1))]) rfl ?_
          exact ih4 n (e + 1) σ1 (by omega) (by omega) hE hw hs (fun v => by rw [z_smS (by omega), ← hcn v, if_neg (fun q => ((gS_pr hI).mp q.1).2.2 (by omega))]; omega) (by rw [z_smS (by omega), ← hnn, if_neg (fun q => ((gS_pr hI).mp q).2.2 (by omega))]; omega)
  exact lp4 _ 0 0 σ (Nat.lt_succ_self _) (by omega) wE_r (gS_b hI) (fun i j _ _ _ => by omega) (fun v => by unfold cn; rw [z_sm0 (by omega), z_sm0 (by omega)]) (z_sm0 (by omega)).symm
end LV9
