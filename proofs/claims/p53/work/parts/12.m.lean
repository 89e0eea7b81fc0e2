/-! STATES as functions of a number and an index; sums. -/
section MM
abbrev z_S : Type := Nat → Int → Int
def z_u (σ : z_S) (k : Nat) (i v : Int) : z_S := fun k' i' => if k' = k then (if i' = i then v else σ k' i') else σ k' i'
theorem z_u_ne {σ : z_S} {k k' : Nat} {i v : Int} (hk : k' ≠ k) : z_u σ k i v k' = σ k' := by
  funext j
  exact if_neg hk
theorem z_u_eq {σ : z_S} {k : Nat} {i v : Int} : z_u σ k i v k = z_up (σ k) i v := by
  funext j
  exact if_pos rfl
theorem z_u_at {σ : z_S} {k : Nat} {i v : Int} : z_u σ k i v k i = v := by rw [z_u_eq]; exact if_pos rfl
theorem z_u_at' {σ : z_S} {k : Nat} {i j v : Int} (h : j ≠ i) : z_u σ k i v k j = σ k j := by rw [z_u_eq]; exact if_neg h
variable {Y : z_Y} {d : Nat} {M : z_M} {pc pc' : Nat} {ls ls' : List (Nat × Value)} {st st' : List Value} {h : z_H} {k n : Nat}
theorem z_top {a b : Int} (e : a = b) (kk : z_W Y pc ls (z_i b :: st) h k n) : z_W Y pc ls (z_i a :: st) h k n := e ▸ kk
theorem z_lq (e : ls' = ls) (kk : z_W Y pc ls' st h k n) : z_W Y pc ls st h k n := e ▸ kk
theorem z_sq (e : st' = st) (kk : z_W Y pc ls st' h k n) : z_W Y pc ls st h k n := e ▸ kk
-- sums
def z_sn (f : Int → Int) : Nat → Int
  | 0 => 0
  | n + 1 => z_sn f n + f n
def z_sm (f : Int → Int) (o : Int) : Int := z_sn f o.toNat
theorem z_sm0 {f : Int → Int} {o : Int} (h : o ≤ 0) : z_sm f o = 0 := by
  unfold z_sm
  rw [Int.toNat_of_nonpos h]
  rfl
theorem z_smS {f : Int → Int} {o : Int} (h : 0 ≤ o) : z_sm f (o + 1) = z_sm f o + f o := by
  unfold z_sm
  rw [show (o + 1).toNat = o.toNat + 1 by omega]
  show z_sn f o.toNat + f (o.toNat : Int) = _
  rw [Int.toNat_of_nonneg h]
theorem z_sm_congr {f g : Int → Int} {o : Int} (h : ∀ i, 0 ≤ i → i < o → f i = g i) : z_sm f o = z_sm g o := by
  unfold z_sm
  have : ∀ n : Nat, (n : Int) ≤ o → z_sn f n = z_sn g n := by
    intro n
    induction n with
    | zero => intro _; rfl
    | succ n ih =>
      intro hn
      show z_sn f n + f n = z_sn g n + g n
      rw [ih (by omega), h n (by omega) (by omega)]
  by_cases ho : 0 ≤ o
  · exact this _ (by omega)
  · rw [Int.toNat_of_nonpos (by omega)]
    rfl
theorem z_sm_le {f : Int → Int} {o a b : Int} (ho : 0 ≤ o) (h : ∀ i, 0 ≤ i → i < o → a ≤ f i ∧ f i ≤ b) : a * o ≤ z_sm f o ∧ z_sm f o ≤ b * o := by
  have : ∀ n : Nat, (n : Int) ≤ o → a * n ≤ z_sn f n ∧ z_sn f n ≤ b * n := by
    intro n
    induction n with
    | zero => intro _; constructor <;> simp [z_sn]
    | succ n ih =>
      intro hn
      have h1 := ih (by omega)
      have h2 := h n (by omega) (by omega)
      show a * ((n + 1 : Nat) : Int) ≤ z_sn f n + f n ∧ z_sn f n + f n ≤ b * ((n + 1 : Nat) : Int)
      rw [Int.natCast_add, Int.mul_add, Int.mul_add]
      constructor <;> omega
  have h3 := this o.toNat (by omega)
  rw [Int.toNat_of_nonneg ho] at h3
  exact h3
end MM
