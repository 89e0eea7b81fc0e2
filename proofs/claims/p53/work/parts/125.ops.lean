/-! Rows for longs compared, for shifts and masks. -/
section OPS
theorem z_and255 (y : Int) : Int32.ofInt y &&& 255 = Int32.ofInt (y % 256) := by
  apply Int32.toBitVec_inj.mp
  rw [Int32.toBitVec_and]
  apply BitVec.eq_of_toNat_eq
  rw [BitVec.toNat_and]
  show (BitVec.ofInt 32 y).toNat &&& 255 = (BitVec.ofInt 32 (y % 256)).toNat
  rw [BitVec.toNat_ofInt, BitVec.toNat_ofInt, show (255 : Nat) = 2 ^ 8 - 1 from rfl, Nat.and_two_pow_sub_one_eq_mod]
  omega
def z_sk (k D : Int) : Prop := (k = 0 ∧ D = 1) ∨ (k = 8 ∧ D = 256) ∨ (k = 16 ∧ D = 65536) ∨ (k = 24 ∧ D = 16777216)
theorem z_shr1 {x D : Int} {n : Nat} {c : Int32} (hr : -2147483648 ≤ x ∧ x ≤ 2147483647) (hc : c.toBitVec.smod 32 = BitVec.ofNat 32 n) (hn : n < 32) (hD : D = 2 ^ n) (hD2 : D ∣ 16777216 ∧ 0 < D) : Int32.ofInt x >>> c = Int32.ofInt (x / D) := by
  apply Int32.toBitVec_inj.mp
  show (BitVec.ofInt 32 x).sshiftRight' (c.toBitVec.smod 32) = BitVec.ofInt 32 (x / D)
  rw [hc, BitVec.sshiftRight_eq']
  apply BitVec.eq_of_toInt_eq
  have hb : -2147483648 ≤ x / D ∧ x / D ≤ 2147483647 := by
    obtain ⟨h1, h2⟩ := hD2
    have h3 : D ≤ 16777216 := Int.le_of_dvd (by omega) h1
    constructor
    · have := Int.ediv_le_ediv h2 (show -(2147483648 * D) ≤ x by
        have : 2147483648 * 1 ≤ 2147483648 * D := Int.mul_le_mul_of_nonneg_left (by omega) (by omega)
        omega)
      rw [show -(2147483648 * D) = -2147483648 * D by rw [Int.neg_mul], Int.mul_ediv_cancel _ (by omega)] at this
      exact this
    · by_cases hx : 0 ≤ x
      · exact Int.le_trans (Int.ediv_le_self _ hx) hr.2
      · have := Int.ediv_neg_of_neg_of_pos (show x < 0 by omega) h2
        omega
  rw [BitVec.toInt_sshiftRight, BitVec.toInt_ofInt, BitVec.toInt_ofInt, BitVec.toNat_ofNat, Nat.mod_eq_of_lt (by omega), Int.bmod_eq_of_le (by omega) (by omega), Int.bmod_eq_of_le (by omega) (by omega), Int.shiftRight_eq_div_pow, hD]
  simp
theorem z_shrE {x k D : Int} (hr : -2147483648 ≤ x ∧ x ≤ 2147483647) (hk : z_sk k D) : Int32.ofInt x >>> (Int32.ofInt k &&& 31) = Int32.ofInt (x / D) := by
  rcases hk with ⟨rfl, rfl⟩ | ⟨rfl, rfl⟩ | ⟨rfl, rfl⟩ | ⟨rfl, rfl⟩
  · exact z_shr1 (n := 0) hr (by decide) (by omega) rfl (by decide)
  · exact z_shr1 (n := 8) hr (by decide) (by omega) rfl (by decide)
  · exact z_shr1 (n := 16) hr (by decide) (by omega) rfl (by decide)
  · exact z_shr1 (n := 24) hr (by decide) (by omega) rfl (by decide)
theorem z_ushr1 {x D : Int} {n : Nat} {c : UInt32} (hc : c.toBitVec % 32 = BitVec.ofNat 32 n) (hn : n < 32) (hD : D = ((2 ^ n : Nat) : Int)) : ((Int32.ofInt x).toUInt32 >>> c).toInt32 = Int32.ofInt (x % 4294967296 / D) := by
  apply Int32.toBitVec_inj.mp
  show BitVec.ofInt 32 x >>> (c.toBitVec % 32) = BitVec.ofInt 32 (x % 4294967296 / D)
  rw [hc]
  apply BitVec.eq_of_toNat_eq
  show (BitVec.ofInt 32 x >>> (BitVec.ofNat 32 n).toNat).toNat = _
  rw [BitVec.toNat_ushiftRight, BitVec.toNat_ofInt, BitVec.toNat_ofInt, BitVec.toNat_ofNat, Nat.mod_eq_of_lt (show n < 2 ^ 32 by omega), Nat.shiftRight_eq_div_pow, hD]
  have h0 : 0 ≤ x % 4294967296 := Int.emod_nonneg _ (by omega)
  have h1 : x % 4294967296 < 4294967296 := Int.emod_lt_of_pos _ (by omega)
  obtain ⟨w, hw⟩ := Int.eq_ofNat_of_zero_le h0
  show (x % 4294967296).toNat / 2 ^ n = (x % 4294967296 / ((2 ^ n : Nat) : Int) % 4294967296).toNat
  rw [hw, ← Int.natCast_ediv]
  have h2 : w / 2 ^ n ≤ w := Nat.div_le_self _ _
  show ((w : Int)).toNat / 2 ^ n = _
  rw [Int.toNat_natCast]
  generalize w / 2 ^ n = u at *
  omega
theorem z_ushrE {x k D : Int} (hk : z_sk k D) : ((Int32.ofInt x).toUInt32 >>> ((Int32.ofInt k).toUInt32 &&& Int32.toUInt32 31)).toInt32 = Int32.ofInt (x % 4294967296 / D) := by
  rcases hk with ⟨rfl, rfl⟩ | ⟨rfl, rfl⟩ | ⟨rfl, rfl⟩ | ⟨rfl, rfl⟩
  · exact z_ushr1 (n := 0) (by decide) (by omega) rfl
  · exact z_ushr1 (n := 8) (by decide) (by omega) rfl
  · exact z_ushr1 (n := 16) (by decide) (by omega) rfl
  · exact z_ushr1 (n := 24) (by decide) (by omega) rfl
def z_cmp (a b : Int) : Int := if b < a then 1 else if a = b then 0 else -1
theorem z_cmp_s (a b : Int) : (z_cmp a b < 0 ↔ a < b) ∧ (0 < z_cmp a b ↔ b < a) ∧ (z_cmp a b = 0 ↔ a = b) ∧ -1 ≤ z_cmp a b ∧ z_cmp a b ≤ 1 := by
  unfold z_cmp
  split
  · omega
  · split <;> omega
variable {Y : z_Y} {d : Nat} {M : z_M} {pc pc' : Nat} {ls ls' : List (Nat × Value)} {st st' : List Value} {h : z_H} {k n : Nat}
theorem z_iand255 {a : Int} (hY : z_ok Y d M) (dd : z_at M pc .iand 1 pc') (kk : z_W Y pc' ls (z_i (a % 256) :: st) h k n) : z_W Y pc ls (z_i 255 :: z_i a :: st) h k n := by
  refine z_lift hY (fun p l e R s m args below meth c H locs cells slots Q lsA hx hb kk => ?_) kk
  obtain ⟨d1, rfl⟩ := dd
  refine lv_iand hx hb d1 ?_
  rw [z_i, ← z_and255] at kk
  exact kk
theorem z_ishr {a j D : Int} (hY : z_ok Y d M) (dd : z_at M pc .ishr 1 pc') (hr : -2147483648 ≤ a ∧ a ≤ 2147483647) (hk : z_sk j D) (kk : z_W Y pc' ls (z_i (a / D) :: st) h k n) : z_W Y pc ls (z_i j :: z_i a :: st) h k n := by
  refine z_lift hY (fun p l e R s m args below meth c H locs cells slots Q lsA hx hb kk => ?_) kk
  obtain ⟨d1, rfl⟩ := dd
  refine lv_ishr hx hb d1 ?_
  rw [z_shrE hr hk]
  exact kk
theorem z_iushr {a j D : Int} (hY : z_ok Y d M) (dd : z_at M pc .iushr 1 pc') (hk : z_sk j D) (kk : z_W Y pc' ls (z_i (a % 4294967296 / D) :: st) h k n) : z_W Y pc ls (z_i j :: z_i a :: st) h k n := by
  refine z_lift hY (fun p l e R s m args below meth c H locs cells slots Q lsA hx hb kk => ?_) kk
  obtain ⟨d1, rfl⟩ := dd
  exact lv_iushr hx hb d1 (z_ushrE hk) kk
theorem z_cmpE {a b : Int} (hr : -9223372036854775808 ≤ a ∧ a ≤ 9223372036854775807 ∧ -9223372036854775808 ≤ b ∧ b ≤ 9223372036854775807) : (if Int64.ofInt a > Int64.ofInt b then (1 : Int32) else if Int64.ofInt a == Int64.ofInt b then 0 else -1) = Int32.ofInt (z_cmp a b) := by
  have ea : (Int64.ofInt a).toInt = a := Int64.toInt_ofInt_of_le (by omega) (by omega)
  have eb : (Int64.ofInt b).toInt = b := Int64.toInt_ofInt_of_le (by omega) (by omega)
  have h1 : (Int64.ofInt a > Int64.ofInt b) ↔ b < a := by
    show Int64.ofInt b < Int64.ofInt a ↔ _
    rw [Int64.lt_iff_toInt_lt, ea, eb]
  have h2 : (Int64.ofInt a == Int64.ofInt b) = true ↔ a = b := by
    rw [beq_iff_eq, ← Int64.toInt_inj, ea, eb]
  unfold z_cmp
  by_cases c1 : b < a
  · rw [if_pos (h1.mpr c1), if_pos c1]; rfl
  · rw [if_neg (fun q => c1 (h1.mp q)), if_neg c1]
    by_cases c2 : a = b
    · rw [if_pos (h2.mpr c2), if_pos c2]; rfl
    · rw [if_neg (fun q => c2 (h2.mp q)), if_neg c2]; rfl
theorem z_lcmp {a b : Int} (hY : z_ok Y d M) (dd : z_at M pc .lcmp 1 pc') (hr : -9223372036854775808 ≤ a ∧ a ≤ 9223372036854775807 ∧ -9223372036854775808 ≤ b ∧ b ≤ 9223372036854775807) (kk : z_W Y pc' ls (z_i (z_cmp a b) :: st) h k n) : z_W Y pc ls (z_l b :: z_l a :: st) h k n := by
  refine z_lift hY (fun p l e R s m args below meth c H locs cells slots Q lsA hx hb kk => ?_) kk
  obtain ⟨d1, rfl⟩ := dd
  intro T hT X
  rw [z_i, ← z_cmpE hr] at kk
  obtain ⟨t, q, hq⟩ := kk T hT X
  refine ⟨t, ?_, hq⟩
  jvm_step X.here [X.here.top, hx, hb, d1]
  refine ⟨_, _, _, ⟨rfl, rfl, rfl⟩, ?_⟩
  by_cases h1 : Int64.ofInt a > Int64.ofInt b
  · rw [if_pos h1] at q
    rw [if_pos (show Int64.ofInt b < Int64.ofInt a from h1)]
    exact q
  · rw [if_neg h1] at q
    rw [if_neg (show ¬ Int64.ofInt b < Int64.ofInt a from h1)]
    by_cases h2 : Int64.ofInt a = Int64.ofInt b
    · rw [if_pos (beq_iff_eq.mpr h2)] at q
      rw [if_pos h2]
      exact q
    · rw [if_neg (fun q => h2 (beq_iff_eq.mp q))] at q
      rw [if_neg h2]
      exact q
/-- another form of the same long -/
theorem z_topl {a b : Int} (e : a = b) (kk : z_W Y pc ls (z_l b :: st) h k n) : z_W Y pc ls (z_l a :: st) h k n := e ▸ kk
end OPS
