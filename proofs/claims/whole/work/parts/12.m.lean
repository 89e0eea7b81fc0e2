/-! THE MODEL: one object and its rows; its state is a function of the field's number and the index. -/
section MM
abbrev z_S : Type := Nat → Int → Int
def z_u (σ : z_S) (k : Nat) (i v : Int) : z_S := fun k' i' => if k' = k then (if i' = i then v else σ k' i') else σ k' i'
theorem z_u_ne {σ : z_S} {k k' : Nat} {i v : Int} (hk : k' ≠ k) : z_u σ k i v k' = σ k' := by
  funext j
  exact if_neg hk
theorem z_u_eq {σ : z_S} {k : Nat} {i v : Int} : z_u σ k i v k = z_up (σ k) i v := by
  funext j
  exact if_pos rfl
theorem z_u_at {σ : z_S} {k : Nat} {i v : Int} : z_u σ k i v k i = v := by rw [z_u_eq]; exact if_pos rfl
theorem z_u_at' {σ : z_S} {k : Nat} {i j v : Int} (h : j ≠ i) : z_u σ k i v k j = σ k j := by rw [z_u_eq]; exact if_neg h
def mL (k : Nat) : Nat := match k with
  | 1 => 100
  | 8 => 16
  | 9 => 16
  | 10 => 4
  | 11 => 4
  | 14 => 120
  | 28 => 6000
  | 29 => 600
  | 31 => 10
  | _ => 30
def mK : List Nat := [40, 1, 8, 9, 10, 11, 14, 15, 16, 17, 18, 21, 22, 23, 24, 28, 29, 31]
def mSc : List Nat := [0, 2, 3, 4, 5, 6, 7, 12, 13, 19, 20, 25, 26, 27, 30]
def mF (A : Nat → Nat) (σ : z_S) : List Value := [z_i (σ 0 0), .ref (A 1), z_i (σ 2 0), z_i (σ 3 0), z_i (σ 4 0), z_i (σ 5 0), z_i (σ 6 0), z_i (σ 7 0), .ref (A 8), .ref (A 9), .ref (A 10), .ref (A 11), z_i (σ 12 0), z_i (σ 13 0), .ref (A 14), .ref (A 15), .ref (A 16), .ref (A 17), .ref (A 18), z_i (σ 19 0), z_i (σ 20 0), .ref (A 21), .ref (A 22), .ref (A 23), .ref (A 24), z_i (σ 25 0), z_i (σ 26 0), z_i (σ 27 0), .ref (A 28), .ref (A 29), z_i (σ 30 0), .ref (A 31)]
def mC (A : Nat → Nat) (σ : z_S) (k : Nat) : va_E := if k = 40 then z_ob 8 (mF A σ) else if k = 10 ∨ k = 11 ∨ k = 18 then z_ba (mL k) (σ k) else z_ia (mL k) (σ k)
def mHs (A : Nat → Nat) (σ : z_S) : List Nat → z_H → z_H
  | [], h => h
  | k :: ks, h => z_set (mHs A σ ks h) (A k) (mC A σ k)
def mH (A : Nat → Nat) (σ : z_S) (h : z_H) : z_H := mHs A σ mK h
def mI (A : Nat → Nat) : Prop := ∀ i ∈ mK, ∀ j ∈ mK, A i = A j → i = j
theorem mHs_at {A : Nat → Nat} {σ : z_S} {h : z_H} {k : Nat} : ∀ ks : List Nat, k ∈ ks → (∀ j ∈ ks, A j = A k → j = k) → mHs A σ ks h (A k) = some (mC A σ k) := by
  intro ks
  induction ks with
  | nil => intro hk; cases hk
  | cons k' ks ih =>
    intro hk hi
    show z_set _ _ _ _ = _
    unfold z_set
    by_cases e : A k = A k'
    · rw [if_pos e, hi k' List.mem_cons_self e.symm]
    · rw [if_neg e]
      rcases List.mem_cons.mp hk with rfl | hk
      · exact absurd rfl e
      · exact ih hk (fun j hj => hi j (List.mem_cons_of_mem _ hj))
theorem mHs_ne {A : Nat → Nat} {σ σ' : z_S} {h : z_H} {k q : Nat} : ∀ ks : List Nat, (∀ j ∈ ks, j ≠ k → mC A σ' j = mC A σ j) → q ≠ A k → mHs A σ ks h q = mHs A σ' ks h q := by
  intro ks
  induction ks with
  | nil => intro _ _; rfl
  | cons k' ks ih =>
    intro hc hq
    show z_set _ _ _ _ = z_set _ _ _ _
    unfold z_set
    by_cases e : q = A k'
    · rw [if_pos e, if_pos e, hc k' List.mem_cons_self (fun e2 => hq (by rw [e, e2]))]
    · rw [if_neg e, if_neg e]
      exact ih (fun j hj => hc j (List.mem_cons_of_mem _ hj)) hq
theorem mH_at {A : Nat → Nat} {σ : z_S} {h : z_H} {k : Nat} (hA : mI A) (hk : k ∈ mK) : mH A σ h (A k) = some (mC A σ k) := mHs_at mK hk (fun j hj => hA j hj k hk)
theorem mH_set {A : Nat → Nat} {σ σ' : z_S} {h : z_H} {k : Nat} {c : va_E} (hA : mI A) (hk : k ∈ mK) (hc : ∀ j ∈ mK, j ≠ k → mC A σ' j = mC A σ j) (he : mC A σ' k = c) : z_set (mH A σ h) (A k) c = mH A σ' h := by
  funext q
  by_cases hq : q = A k
  · subst hq
    rw [mH_at hA hk, he]
    exact if_pos rfl
  · rw [show mH A σ' h q = mH A σ h q from (mHs_ne mK hc hq).symm]
    exact if_neg hq
theorem mH_ne {A : Nat → Nat} {σ : z_S} {h : z_H} {q : Nat} : ∀ ks : List Nat, (∀ j ∈ ks, q ≠ A j) → mHs A σ ks h q = h q := by
  intro ks
  induction ks with
  | nil => intro _; rfl
  | cons k' ks ih =>
    intro hc
    show z_set _ _ _ _ = _
    unfold z_set
    rw [if_neg (hc k' List.mem_cons_self)]
    exact ih (fun j hj => hc j (List.mem_cons_of_mem _ hj))
variable {Y : z_Y} {d : Nat} {M : z_M} {pc pc' : Nat} {ls ls' : List (Nat × Value)} {st st' : List Value} {h : z_H} {k n : Nat} {A : Nat → Nat} {σ : z_S}
theorem m_gf {ix kf : Nat} {t0 : FieldType} {fin : Bool} {v : Value} (hY : z_ok Y d M) (hA : mI A) (dd : z_at M pc (.getfield ix) 3 pc' ∧ z_fd M.1.cls ix 8 kf t0 fin) (hv : (mF A σ)[kf]? = some v) (kk : z_W Y pc' ls (v :: st) (mH A σ h) k n) : z_W Y pc ls (.ref (A 40) :: st) (mH A σ h) k n :=
  z_getfield hY dd (mH_at hA (by decide)) hv kk
theorem m_set1 {kf : Nat} {x : Int} (hA : mI A) (hs : kf ∈ mSc) : z_set (mH A σ h) (A 40) (z_ob 8 ((mF A σ).set kf (z_i x))) = mH A (z_u σ kf 0 x) h := by
  refine mH_set hA (by decide) (fun j hj hne => ?_) ?_
  · have hjk : j ≠ kf := by
      intro e
      have : ∀ q ∈ mSc, q ∈ mK → q ≠ 40 → False := by decide
      exact this kf hs (e ▸ hj) (e ▸ hne)
    unfold mC
    rw [if_neg hne, if_neg hne, z_u_ne hjk]
  · simp only [mSc, List.mem_cons, List.not_mem_nil, or_false] at hs
    rcases hs with rfl | rfl | rfl | rfl | rfl | rfl | rfl | rfl | rfl | rfl | rfl | rfl | rfl | rfl | rfl <;> rfl
theorem m_pf {ix kf : Nat} {x : Int} (hY : z_ok Y d M) (hA : mI A) (dd : z_at M pc (.putfield ix) 3 pc' ∧ z_fd M.1.cls ix 8 kf .int false) (hs : kf ∈ mSc) (kk : z_W Y pc' ls st (mH A (z_u σ kf 0 x) h) k n) : z_W Y pc ls (z_i x :: .ref (A 40) :: st) (mH A σ h) k n := by
  refine z_putfield hY dd (mH_at hA (by decide)) rfl rfl ?_ (z_heq (m_set1 hA hs) kk)
  have : ∀ q ∈ mSc, q < 32 := by decide
  exact this kf hs
theorem m_ial {j N : Nat} {i x : Int} (hY : z_ok Y d M) (hA : mI A) (dd : z_at M pc .iaload 1 pc') (hj : j ∈ mK) (hC : mC A σ j = z_ia N (σ j)) (hi : 0 ≤ i ∧ i < N ∧ N ≤ 2147483647) (hx : σ j i = x) (kk : z_W Y pc' ls (z_i x :: st) (mH A σ h) k n) : z_W Y pc ls (z_i i :: .ref (A j) :: st) (mH A σ h) k n := by
  refine z_iaload hY dd (by rw [mH_at hA hj, hC]) hi ?_
  rw [hx]
  exact kk
theorem m_bal {j N : Nat} {i x : Int} (hY : z_ok Y d M) (hA : mI A) (dd : z_at M pc .baload 1 pc') (hj : j ∈ mK) (hC : mC A σ j = z_ba N (σ j)) (hi : 0 ≤ i ∧ i < N ∧ N ≤ 2147483647) (hx : σ j i = x) (kk : z_W Y pc' ls (z_i x :: st) (mH A σ h) k n) : z_W Y pc ls (z_i i :: .ref (A j) :: st) (mH A σ h) k n := by
  refine z_baload hY dd (by rw [mH_at hA hj, hC]) hi ?_
  rw [hx]
  exact kk
theorem mF_u {kf : Nat} {i x : Int} (hs : kf ∉ mSc) : mF A (z_u σ kf i x) = mF A σ := by
  have e : ∀ q ∈ mSc, z_u σ kf i x q = σ q := fun q hq => z_u_ne (fun e => hs (e ▸ hq))
  unfold mF
  rw [e 0 (by decide), e 2 (by decide), e 3 (by decide), e 4 (by decide), e 5 (by decide), e 6 (by decide), e 7 (by decide), e 12 (by decide), e 13 (by decide), e 19 (by decide), e 20 (by decide), e 25 (by decide), e 26 (by decide), e 27 (by decide), e 30 (by decide)]
theorem m_set2 {j : Nat} {i x : Int} {c : va_E} (hA : mI A) (hj : j ∈ mK) (hs : j ∉ mSc) (h40 : j ≠ 40) (hc : mC A (z_u σ j i x) j = c) : z_set (mH A σ h) (A j) c = mH A (z_u σ j i x) h := by
  refine mH_set hA hj (fun q hq hne => ?_) hc
  unfold mC
  rw [mF_u hs, z_u_ne hne]
theorem m_ias {j N : Nat} {i x : Int} (hY : z_ok Y d M) (hA : mI A) (dd : z_at M pc .iastore 1 pc') (hj : j ∈ mK ∧ j ∉ mSc ∧ j ≠ 40) (hC : ∀ σ : z_S, mC A σ j = z_ia N (σ j)) (hi : 0 ≤ i ∧ i < N ∧ N ≤ 2147483647) (kk : z_W Y pc' ls st (mH A (z_u σ j i x) h) k n) : z_W Y pc ls (z_i x :: z_i i :: .ref (A j) :: st) (mH A σ h) k n := by
  refine z_iastore hY dd (by rw [mH_at hA hj.1, hC]) hi (z_heq (m_set2 hA hj.1 hj.2.1 hj.2.2 ?_) kk)
  rw [hC, z_u_eq]
theorem m_bas {j N : Nat} {i x : Int} (hY : z_ok Y d M) (hA : mI A) (dd : z_at M pc .bastore 1 pc') (hj : j ∈ mK ∧ j ∉ mSc ∧ j ≠ 40) (hC : ∀ σ : z_S, mC A σ j = z_ba N (σ j)) (hi : 0 ≤ i ∧ i < N ∧ N ≤ 2147483647) (hx : x = 0 ∨ x = 1) (kk : z_W Y pc' ls st (mH A (z_u σ j i x) h) k n) : z_W Y pc ls (z_i x :: z_i i :: .ref (A j) :: st) (mH A σ h) k n := by
  refine z_bastore hY dd (by rw [mH_at hA hj.1, hC]) hi hx (z_heq (m_set2 hA hj.1 hj.2.1 hj.2.2 ?_) kk)
  rw [hC, z_u_eq]
/-- another form of the same number on the stack, of the same locals -/
theorem z_top {a b : Int} (e : a = b) (kk : z_W Y pc ls (z_i b :: st) h k n) : z_W Y pc ls (z_i a :: st) h k n := e ▸ kk
theorem z_lq (e : ls' = ls) (kk : z_W Y pc ls' st h k n) : z_W Y pc ls st h k n := e ▸ kk
theorem z_sq (e : st' = st) (kk : z_W Y pc ls st' h k n) : z_W Y pc ls st h k n := e ▸ kk
-- sums
def z_sn (f : Int → Int) : Nat → Int
  | 0 => 0
  | n + 1 => z_sn f n + f n
def z_sm (f : Int → Int) (o : Int) : Int := z_sn f o.toNat
theorem z_sm0 {f : Int → Int} {o : Int} (h : o ≤ 0) : z_sm f o = 0 := by
  unfold z_sm
  rw [Int.toNat_of_nonpos h]
  rfl
theorem z_smS {f : Int → Int} {o : Int} (h : 0 ≤ o) : z_sm f (o + 1) = z_sm f o + f o := by
  unfold z_sm
  rw [show (o + 1).toNat = o.toNat + 1 by omega]
  show z_sn f o.toNat + f (o.toNat : Int) = _
  rw [Int.toNat_of_nonneg h]
theorem z_sm_congr {f g : Int → Int} {o : Int} (h : ∀ i, 0 ≤ i → i < o → f i = g i) : z_sm f o = z_sm g o := by
  unfold z_sm
  have : ∀ n : Nat, (n : Int) ≤ o → z_sn f n = z_sn g n := by
    intro n
    induction n with
    | zero => intro _; rfl
    | succ n ih =>
      intro hn
      show z_sn f n + f n = z_sn g n + g n
      rw [ih (by omega), h n (by omega) (by omega)]
  by_cases ho : 0 ≤ o
  · exact this _ (by omega)
  · rw [Int.toNat_of_nonpos (by omega)]
    rfl
theorem z_sm_le {f : Int → Int} {o a b : Int} (ho : 0 ≤ o) (h : ∀ i, 0 ≤ i → i < o → a ≤ f i ∧ f i ≤ b) : a * o ≤ z_sm f o ∧ z_sm f o ≤ b * o := by
  have : ∀ n : Nat, (n : Int) ≤ o → a * n ≤ z_sn f n ∧ z_sn f n ≤ b * n := by
    intro n
    induction n with
    | zero => intro _; constructor <;> simp [z_sn]
    | succ n ih =>
      intro hn
      have h1 := ih (by omega)
      have h2 := h n (by omega) (by omega)
      show a * ((n + 1 : Nat) : Int) ≤ z_sn f n + f n ∧ z_sn f n + f n ≤ b * ((n + 1 : Nat) : Int)
      rw [Int.natCast_add, Int.mul_add, Int.mul_add]
      constructor <;> omega
  have h3 := this o.toNat (by omega)
  rw [Int.toNat_of_nonneg ho] at h3
  exact h3
end MM
