/-! THE LAW's text in a builder beside the heap; words of four letters; the tape that takes them. -/
section LV15
section
variable {Y : z_Y} {d : Nat} {M M' : z_M} {pc pc' : Nat} {ls ls' : List (Nat × Value)} {st st' rest : List Value} {h : z_H} {k n : Nat}
theorem z_ishl8 {a : Int} (hY : z_ok Y d M) (dd : z_at M pc .ishl 1 pc') (ha : 0 ≤ a ∧ a ≤ 8388607) (kk : z_W Y pc' ls (z_i (a * 256) :: st) h k n) : z_W Y pc ls (z_i 8 :: z_i a :: st) h k n := by
  refine z_lift hY (fun p l e R s m args below meth c H locs cells slots Q lsA hx hb kk => ?_) kk
  obtain ⟨d1, rfl⟩ := dd
  refine lv_ishl hx hb d1 ?_
  have e : Int32.ofInt a <<< (Int32.ofInt 8 &&& 31) = Int32.ofInt (a * 256) := by
    rw [show (Int32.ofInt 8 &&& 31) = 8 by decide]
    apply Int32.toBitVec_inj.mp
    show (BitVec.ofInt 32 a) <<< ((8 : Int32).toBitVec.smod 32) = BitVec.ofInt 32 (a * 256)
    rw [show (8 : Int32).toBitVec.smod 32 = 8#32 by decide]
    apply BitVec.eq_of_toNat_eq
    show (BitVec.ofInt 32 a <<< (8#32).toNat).toNat = _
    rw [BitVec.toNat_shiftLeft, BitVec.toNat_ofInt, BitVec.toNat_ofInt, show (8#32).toNat = 8 by decide, Nat.shiftLeft_eq]
    omega
  rw [e]
  exact kk
theorem z_ior8 {a c0 : Int} (hY : z_ok Y d M) (dd : z_at M pc .ior 1 pc') (ha : 0 ≤ a ∧ a ≤ 8388607) (hc : 0 ≤ c0 ∧ c0 ≤ 255) (kk : z_W Y pc' ls (z_i (a * 256 + c0) :: st) h k n) : z_W Y pc ls (z_i c0 :: z_i (a * 256) :: st) h k n := by
  refine z_lift hY (fun p l e R s m args below meth c H locs cells slots Q lsA hx hb kk => ?_) kk
  obtain ⟨d1, rfl⟩ := dd
  refine lv_ior hx hb d1 ?_
  have e : Int32.ofInt (a * 256) ||| Int32.ofInt c0 = Int32.ofInt (a * 256 + c0) := by
    apply Int32.toBitVec_inj.mp
    rw [Int32.toBitVec_or]
    apply BitVec.eq_of_toNat_eq
    rw [BitVec.toNat_or]
    show (BitVec.ofInt 32 (a * 256)).toNat ||| (BitVec.ofInt 32 c0).toNat = (BitVec.ofInt 32 (a * 256 + c0)).toNat
    rw [BitVec.toNat_ofInt, BitVec.toNat_ofInt, BitVec.toNat_ofInt]
    obtain ⟨u, hu⟩ := Int.eq_ofNat_of_zero_le ha.1
    obtain ⟨v, hv⟩ := Int.eq_ofNat_of_zero_le hc.1
    subst hu hv
    have e1 : (((u : Int) * 256) % ((2 ^ 32 : Nat) : Int)).toNat = u <<< 8 := by rw [Nat.shiftLeft_eq]; omega
    have e2 : ((v : Int) % ((2 ^ 32 : Nat) : Int)).toNat = v := by omega
    have e3 : (((u : Int) * 256 + v) % ((2 ^ 32 : Nat) : Int)).toNat = u <<< 8 + v := by rw [Nat.shiftLeft_eq]; omega
    rw [e1, e2, e3, Nat.shiftLeft_add_eq_or_of_lt (show v < 2 ^ 8 by omega)]
  rw [e]
  exact kk
end
/-- four letters, or fewer, in a word -/
def wd4 (f : Int → Int) (k i v : Int) : Prop := (i = k ∧ v = 0) ∨ (i = k + 1 ∧ v = f k) ∨ (i = k + 2 ∧ v = f k * 256 + f (k + 1)) ∨ (i = k + 3 ∧ v = (f k * 256 + f (k + 1)) * 256 + f (k + 2)) ∨ (i = k + 4 ∧ v = ((f k * 256 + f (k + 1)) * 256 + f (k + 2)) * 256 + f (k + 3))
theorem wd4_b {f : Int → Int} {k i v n : Int} (h : wd4 f k i v) (hf : ∀ j, 0 ≤ j → j < n → 1 ≤ f j ∧ f j ≤ 127) (hk : 0 ≤ k) (hi : i ≤ n) : (k ≤ i ∧ i ≤ k + 4) ∧ 0 ≤ v ∧ v ≤ 2147483647 ∧ (i ≤ k + 3 → v ≤ 8388607) := by
  rcases h with ⟨a, b⟩ | ⟨a, b⟩ | ⟨a, b⟩ | ⟨a, b⟩ | ⟨a, b⟩
  · omega
  · have := hf k hk (by omega); omega
  · have := hf k hk (by omega); have := hf (k + 1) (by omega) (by omega); omega
  · have := hf k hk (by omega); have := hf (k + 1) (by omega) (by omega); have := hf (k + 2) (by omega) (by omega); omega
  · have := hf k hk (by omega); have := hf (k + 1) (by omega) (by omega); have := hf (k + 2) (by omega) (by omega); have := hf (k + 3) (by omega) (by omega); omega
theorem wd4_s {f : Int → Int} {k i v : Int} (h : wd4 f k i v) (hi : i < k + 4) : wd4 f k (i + 1) (v * 256 + f i) := by
  rcases h with ⟨a, b⟩ | ⟨a, b⟩ | ⟨a, b⟩ | ⟨a, b⟩ | ⟨a, b⟩
  · exact Or.inr (Or.inl ⟨by omega, by rw [a, b]; omega⟩)
  · exact Or.inr (Or.inr (Or.inl ⟨by omega, by rw [a, b]⟩))
  · exact Or.inr (Or.inr (Or.inr (Or.inl ⟨by omega, by rw [a, b]⟩)))
  · exact Or.inr (Or.inr (Or.inr (Or.inr ⟨by omega, by rw [a, b]⟩)))
  · omega
/-- the tape holds so many letters of the text -/
def tpR (ρ0 ρ : z_S) (f : Int → Int) (k : Int) : Prop := (∀ q, q ≠ 1 → q ≠ 2 → ρ q = ρ0 q) ∧ ρ 2 0 = k ∧ ∀ i, 0 ≤ i → i < k → ρ 1 i = f i
theorem tp_b {ρ0 ρ : z_S} {f : Int → Int} {k b : Int} (h : tpR ρ0 ρ f k) (hk : 0 ≤ k) (hb : b = f k) (h0 : b ≠ 0) : tpR ρ0 (yPb ρ b) f (k + 1) := by
  obtain ⟨h1, h2, h3⟩ := h
  unfold yPb
  rw [if_neg h0, h2]
  refine ⟨fun q q1 q2 => ?_, z_u_at, fun i i0 i1 => ?_⟩
  · rw [z_u_ne q2, z_u_ne q1]; exact h1 q q1 q2
  · show z_u ρ 1 k b 1 i = f i
    by_cases c : i = k
    · rw [c, z_u_at, hb]
    · rw [z_u_at' c]; exact h3 i i0 (by omega)
theorem tp_0 {ρ : z_S} {b : Int} (h0 : b = 0) : yPb ρ b = ρ := if_pos h0
theorem yTk_00 (ρ : z_S) : yTk ρ 0 = ρ := by
  unfold yTk
  rw [tp_0 (by decide), tp_0 (by decide), tp_0 (by decide), tp_0 (by decide)]
theorem yBy_0 : yBy 0 = 0 := by decide
theorem tp_4 {ρ0 ρ : z_S} {f : Int → Int} {k i v n : Int} (h : tpR ρ0 ρ f k) (hw : wd4 f k i v) (hf : ∀ j, 0 ≤ j → j < n → 1 ≤ f j ∧ f j ≤ 127) (hk : 0 ≤ k) (hi : i ≤ n) : tpR ρ0 (yTk ρ v) f i ∧ yBy v = i - k := by
  unfold yTk yBy
  rcases hw with ⟨a, b⟩ | ⟨a, b⟩ | ⟨a, b⟩ | ⟨a, b⟩ | ⟨a, b⟩
  · subst a; subst b
    rw [tp_0 (b := 0 / 16777216 % 256) (by decide), tp_0 (b := 0 / 65536 % 256) (by decide), tp_0 (b := 0 / 256 % 256) (by decide), tp_0 (b := 0 / 1 % 256) (by decide)]
    exact ⟨h, by rw [if_pos (by decide), if_pos (by decide), if_pos (by decide), if_pos (by decide)]; omega⟩
  · have f0 := hf k hk (by omega)
    rw [tp_0 (b := v / 16777216 % 256) (by omega), tp_0 (b := v / 65536 % 256) (by omega), tp_0 (b := v / 256 % 256) (by omega)]
    exact ⟨a ▸ tp_b h hk (by omega) (by omega), by rw [if_neg (by omega), if_pos (by omega), if_pos (by omega), if_pos (by omega)]; omega⟩
  · have f0 := hf k hk (by omega)
    have f1 := hf (k + 1) (by omega) (by omega)
    rw [tp_0 (b := v / 16777216 % 256) (by omega), tp_0 (b := v / 65536 % 256) (by omega)]
    exact ⟨(show k + 1 + 1 = i by omega) ▸ tp_b (tp_b h hk (by omega) (by omega)) (by omega) (by omega) (by omega), by rw [if_neg (by omega), if_neg (by omega), if_pos (by omega), if_pos (by omega)]; omega⟩
  · have f0 := hf k hk (by omega)
    have f1 := hf (k + 1) (by omega) (by omega)
    have f2 := hf (k + 2) (by omega) (by omega)
    rw [tp_0 (b := v / 16777216 % 256) (by omega)]
    exact ⟨(show k + 1 + 1 + 1 = i by omega) ▸ tp_b (tp_b (tp_b h hk (by omega) (by omega)) (by omega) (by omega) (by omega)) (by omega) (by rw [show k + 1 + 1 = k + 2 by omega]; omega) (by omega), by rw [if_neg (by omega), if_neg (by omega), if_neg (by omega), if_pos (by omega)]; omega⟩
  · have f0 := hf k hk (by omega)
    have f1 := hf (k + 1) (by omega) (by omega)
    have f2 := hf (k + 2) (by omega) (by omega)
    have f3 := hf (k + 3) (by omega) (by omega)
    exact ⟨(show k + 1 + 1 + 1 + 1 = i by omega) ▸ tp_b (tp_b (tp_b (tp_b h hk (by omega) (by omega)) (by omega) (by omega) (by omega)) (by omega) (by rw [show k + 1 + 1 = k + 2 by omega]; omega) (by omega)) (by omega) (by rw [show k + 1 + 1 + 1 = k + 3 by omega]; omega) (by omega), by rw [if_neg (by omega), if_neg (by omega), if_neg (by omega), if_neg (by omega)]; omega⟩
/-- a text in a builder: the builder, its row, how long -/
def sbS (H : z_H) (b a : Nat) (n : Int) (f : Int → Int) : Prop := ∃ (ml : Int) (N : Nat) (g : Int → Int), H b = some (z_ob 10 [.ref a, z_i 0, z_i ml, z_i n]) ∧ H a = some (z_ya N g) ∧ (∀ i, 0 ≤ i → i < n → g i = f i) ∧ a ≠ b ∧ 0 ≤ n ∧ n ≤ N ∧ 16 ≤ N ∧ N ≤ 1000 ∧ ∀ i, 0 ≤ i → i < (N : Int) → -128 ≤ g i ∧ g i ≤ 127
/-- all that was there is there, but for the builder's -/
def sbF (H H' : z_H) (b a : Nat) : Prop := ∀ x c, H x = some c → x ≠ b → x ≠ a → H' x = some c
/-- a text, and another one behind it -/
def sbC (f : Int → Int) (n : Int) (g : Int → Int) : Int → Int := fun i => if i < n then f i else g (i - n)
/-- apart from the class's and the law's cells -/
def sbX (B : Nat → Int → Nat) (κ : c_K) (A : Nat → Nat) (x : Nat) : Prop := (∀ t i, cL κ t i → B t i ≠ x) ∧ ∀ k ∈ lK, A k ≠ x
section
variable {D : Nat} {B : Nat → Int → Nat} {κ : c_K} {A : Nat → Nat} {σ : z_S} {h H' : z_H} {b a a' : Nat} {n : Int} {f : Int → Int}
theorem gH_no {x : Nat} (hx : sbX B κ A x) : gH D B κ A σ h x = h x := by
  unfold gH
  rw [cH_no hx.1]
  exact lHs_out lK fun k hk => Ne.symm (hx.2 k hk)
theorem gH_liv (hJ : cJ B κ) {t : Nat} {i : Int} (hL : cL κ t i) : gH D B κ A σ h (B t i) = some (cC D B κ t i) := cH_at hJ hL
theorem sbS_up (hs : sbS h b a n f) (hb : sbX B κ A b) (ha : sbX B κ A a) : sbS (gH D B κ A σ h) b a n f := by
  obtain ⟨ml, N, g, h1, h2, h3⟩ := hs
  exact ⟨ml, N, g, (gH_no hb).trans h1, (gH_no ha).trans h2, h3⟩
theorem gH_fr (hJ : cJ B κ) (hX : gXX B κ A) (hb : sbX B κ A b) (ha : sbX B κ A a) (hF : sbF (gH D B κ A σ h) H' b a) : gH D B κ A σ H' = H' := by
  have e1 : lH A (B 0 0) σ H' = H' := lHs_id lK fun j hj => hF _ _ (gH_at hX hj) (hb.2 j hj) (ha.2 j hj)
  unfold gH
  rw [e1]
  exact (cH_ext hJ (fun t i hL => hF _ _ (gH_liv hJ hL) (hb.1 t i hL) (ha.1 t i hL)) (fun _ _ => rfl)).symm
theorem sbX_new {x : Nat} (hJ : cJ B κ) (hX : gXX B κ A) (hn : gH D B κ A σ h x = none) : sbX B κ A x := by
  refine ⟨fun t i hL q => ?_, fun k hk q => ?_⟩
  · rw [← q, gH_liv hJ hL] at hn; cases hn
  · rw [← q, gH_at hX hk] at hn; cases hn
theorem sbX_or (hJ : cJ B κ) (hX : gXX B κ A) (ha : sbX B κ A a) (ho : a' = a ∨ gH D B κ A σ h a' = none) : sbX B κ A a' := by
  rcases ho with rfl | hn
  · exact ha
  · exact sbX_new hJ hX hn
end
end LV15
