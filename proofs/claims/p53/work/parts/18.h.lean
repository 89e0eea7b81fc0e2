/-! THE MODEL's tape and its reader (laid by wip/whole/gen/gm6.py). -/
section M6
theorem z_u_c {σ : z_S} {k k' : Nat} {i i' v v' : Int} (h : k ≠ k') : z_u (z_u σ k i v) k' i' v' = z_u (z_u σ k' i' v') k i v := by
  funext q j
  unfold z_u
  by_cases h1 : q = k
  · by_cases h2 : q = k'
    · exact absurd (h1.symm.trans h2) h
    · rw [if_neg h2, if_pos h1, if_pos h1, if_neg h2]
  · by_cases h2 : q = k'
    · rw [if_pos h2, if_neg h1, if_neg h1, if_pos h2]
    · rw [if_neg h2, if_neg h1, if_neg h1, if_neg h2]
theorem zN4 {σ : z_S} {a b c w t : Int} : z_u (z_u (z_u (z_u (z_u σ 7 0 a) 5 0 b) 4 0 c) 6 0 w) 4 0 t = z_u (z_u (z_u (z_u σ 7 0 a) 5 0 b) 4 0 t) 6 0 w := by
  rw [z_u_c (k := 6) (k' := 4) (by decide), z_u_u]
theorem zN3 {σ : z_S} {a b c w f : Int} : z_u (z_u (z_u (z_u (z_u σ 7 0 a) 5 0 b) 4 0 c) 6 0 w) 7 0 f = z_u (z_u (z_u (z_u σ 7 0 f) 5 0 b) 4 0 c) 6 0 w := by
  rw [z_u_c (k := 6) (k' := 7) (by decide), z_u_c (k := 4) (k' := 7) (by decide), z_u_c (k := 5) (k' := 7) (by decide), z_u_u]
theorem zN2 {σ : z_S} {a b c w w' f : Int} : z_u (z_u (z_u (z_u (z_u (z_u σ 7 0 a) 5 0 b) 4 0 c) 6 0 w) 6 0 w') 7 0 f = z_u (z_u (z_u (z_u σ 7 0 f) 5 0 b) 4 0 c) 6 0 w' := by
  rw [z_u_u, zN3]
theorem zN1 {σ : z_S} {a b c w t f : Int} : z_u (z_u (z_u (z_u (z_u (z_u σ 7 0 a) 5 0 b) 4 0 c) 6 0 w) 4 0 t) 7 0 f = z_u (z_u (z_u (z_u σ 7 0 f) 5 0 b) 4 0 t) 6 0 w := by
  rw [zN4, zN3]
/-- what holds while the model reads: at, the tape, the value, newCriteria, the token -/
def mP0 (σ : z_S) : Prop := (0 ≤ σ 7 0 ∧ σ 7 0 ≤ σ 2 0 ∧ σ 2 0 ≤ 100) ∧ (∀ i : Int, 0 ≤ σ 1 i ∧ σ 1 i ≤ 255) ∧ (0 ≤ σ 13 0 ∧ σ 13 0 ≤ 4)
def mP (σ : z_S) : Prop := mP0 σ ∧ (-1000000 ≤ σ 6 0 ∧ σ 6 0 ≤ 1000000) ∧ (0 ≤ σ 4 0 ∧ σ 4 0 ≤ 4) ∧ (σ 4 0 = 3 → 97 ≤ σ 6 0 ∧ σ 6 0 ≤ 100)
/-- behind the blanks; behind the digits; what the first three digits say -/
def ySk (σ : z_S) : Nat → Int → Int
  | 0, i => i
  | f + 1, i => if σ 1 i = 32 ∨ σ 1 i = 10 then ySk σ f (i + 1) else i
abbrev yDi (σ : z_S) (i : Int) : Prop := 48 ≤ σ 1 i ∧ σ 1 i ≤ 57
def yDe (σ : z_S) : Nat → Int → Int
  | 0, i => i
  | f + 1, i => if yDi σ i then yDe σ f (i + 1) else i
def yDv (σ : z_S) : Nat → Int → Int → Int → Int
  | 0, _, _, v => v
  | f + 1, i, d, v => if yDi σ i then yDv σ f (i + 1) (d + 1) (if d < 3 then 10 * v + σ 1 i - 48 else v) else v
def yA (σ : z_S) : Int := ySk σ (σ 2 0 - σ 7 0).toNat (σ 7 0)
def yE (σ : z_S) : Int := yDe σ (σ 2 0 - yA σ).toNat (yA σ)
def yW (σ : z_S) : Int := yDv σ (σ 2 0 - yA σ).toNat (yA σ) 0 0
/-- the token's kind at a byte that is no digit -/
def yTo (b : Int) : Int := if sgn b then 1 else if 97 ≤ b ∧ b ≤ 100 then 3 else 4
/-- the state behind reads() -/
def yRd (σ : z_S) : z_S := if yA σ = σ 2 0 then z_u (z_u (z_u σ 7 0 (yA σ)) 5 0 (yA σ)) 4 0 0
  else if 48 ≤ σ 1 (yA σ) ∧ σ 1 (yA σ) ≤ 57 then z_u (z_u (z_u (z_u σ 7 0 (yE σ)) 5 0 (yA σ)) 4 0 (if yE σ - yA σ ≤ 3 then 2 else 4)) 6 0 (yW σ)
  else z_u (z_u (z_u (z_u σ 7 0 (yA σ + 1)) 5 0 (yA σ)) 4 0 (yTo (σ 1 (yA σ)))) 6 0 (σ 1 (yA σ))
theorem ySk_t {σ : z_S} {m i : Int} (h : i < m) (hp : σ 1 i = 32 ∨ σ 1 i = 10) : ySk σ (m - i).toNat i = ySk σ (m - (i + 1)).toNat (i + 1) := by
  rw [show (m - i).toNat = (m - (i + 1)).toNat + 1 by omega]
  exact if_pos hp
theorem ySk_f {σ : z_S} {m i : Int} (h : m ≤ i ∨ ¬ (σ 1 i = 32 ∨ σ 1 i = 10)) : ySk σ (m - i).toNat i = i := by
  by_cases hm : m ≤ i
  · rw [show (m - i).toNat = 0 by omega]; rfl
  · rw [show (m - i).toNat = (m - (i + 1)).toNat + 1 by omega]
    exact if_neg (h.resolve_left hm)
theorem yDe_t {σ : z_S} {m i : Int} (h : i < m) (hp : yDi σ i) : yDe σ (m - i).toNat i = yDe σ (m - (i + 1)).toNat (i + 1) := by
  rw [show (m - i).toNat = (m - (i + 1)).toNat + 1 by omega]
  exact if_pos hp
theorem yDe_f {σ : z_S} {m i : Int} (h : m ≤ i ∨ ¬ yDi σ i) : yDe σ (m - i).toNat i = i := by
  by_cases hm : m ≤ i
  · rw [show (m - i).toNat = 0 by omega]; rfl
  · rw [show (m - i).toNat = (m - (i + 1)).toNat + 1 by omega]
    exact if_neg (h.resolve_left hm)
theorem yDv_t {σ : z_S} {m i d v : Int} (h : i < m) (hp : yDi σ i) : yDv σ (m - i).toNat i d v = yDv σ (m - (i + 1)).toNat (i + 1) (d + 1) (if d < 3 then 10 * v + σ 1 i - 48 else v) := by
  rw [show (m - i).toNat = (m - (i + 1)).toNat + 1 by omega]
  exact if_pos hp
theorem yDv_f {σ : z_S} {m i d v : Int} (h : m ≤ i ∨ ¬ yDi σ i) : yDv σ (m - i).toNat i d v = v := by
  by_cases hm : m ≤ i
  · rw [show (m - i).toNat = 0 by omega]; rfl
  · rw [show (m - i).toNat = (m - (i + 1)).toNat + 1 by omega]
    exact if_neg (h.resolve_left hm)
theorem ySk_b {σ : z_S} : ∀ (f : Nat) (i : Int), i ≤ ySk σ f i ∧ ySk σ f i ≤ i + f := by
  intro f
  induction f with
  | zero => intro i; exact ⟨by show i ≤ i; omega, by show i ≤ i + ((0 : Nat) : Int); omega⟩
  | succ f ih =>
    intro i
    show i ≤ ite _ _ _ ∧ ite _ _ _ ≤ _
    have := ih (i + 1)
    split <;> omega
theorem yDe_b {σ : z_S} : ∀ (f : Nat) (i : Int), i ≤ yDe σ f i ∧ yDe σ f i ≤ i + f := by
  intro f
  induction f with
  | zero => intro i; exact ⟨by show i ≤ i; omega, by show i ≤ i + ((0 : Nat) : Int); omega⟩
  | succ f ih =>
    intro i
    show i ≤ ite _ _ _ ∧ ite _ _ _ ≤ _
    have := ih (i + 1)
    split <;> omega
theorem yDv_b {σ : z_S} : ∀ (f : Nat) (i d v : Int), 0 ≤ d → 0 ≤ v → v ≤ 10 ^ (min d 3).toNat - 1 → 0 ≤ yDv σ f i d v ∧ yDv σ f i d v ≤ 999 := by
  intro f
  induction f with
  | zero =>
    intro i d v h0 h1 h2
    show 0 ≤ v ∧ v ≤ 999
    refine ⟨h1, Int.le_trans h2 ?_⟩
    rcases (show (min d 3).toNat = 0 ∨ (min d 3).toNat = 1 ∨ (min d 3).toNat = 2 ∨ (min d 3).toNat = 3 by omega) with e | e | e | e <;> rw [e] <;> decide
  | succ f ih =>
    intro i d v h0 h1 h2
    show 0 ≤ ite _ _ _ ∧ ite _ _ _ ≤ _
    split
    · rename_i hd
      refine ih _ _ _ (by omega) (by split <;> omega) ?_
      rcases (show d = 0 ∨ d = 1 ∨ d = 2 ∨ 3 ≤ d by omega) with rfl | rfl | rfl | e
      · rw [if_pos (by omega)]
        have h3 : v ≤ 0 := h2
        show _ ≤ (10 : Int) - 1
        omega
      · rw [if_pos (by omega)]
        have h3 : v ≤ 9 := h2
        show _ ≤ (100 : Int) - 1
        omega
      · rw [if_pos (by omega)]
        have h3 : v ≤ 99 := h2
        show _ ≤ (1000 : Int) - 1
        omega
      · rw [if_neg (by omega), show min (d + 1) 3 = 3 by omega]
        rw [show min d 3 = 3 by omega] at h2
        exact h2
    · refine ⟨h1, Int.le_trans h2 ?_⟩
      rcases (show (min d 3).toNat = 0 ∨ (min d 3).toNat = 1 ∨ (min d 3).toNat = 2 ∨ (min d 3).toNat = 3 by omega) with e | e | e | e <;> rw [e] <;> decide
theorem yA_b {σ : z_S} (hP : mP0 σ) : σ 7 0 ≤ yA σ ∧ yA σ ≤ σ 2 0 := by
  have := ySk_b (σ := σ) (σ 2 0 - σ 7 0).toNat (σ 7 0)
  have := hP.1
  unfold yA
  omega
theorem yE_b {σ : z_S} (hP : mP0 σ) : yA σ ≤ yE σ ∧ yE σ ≤ σ 2 0 := by
  have := yDe_b (σ := σ) (σ 2 0 - yA σ).toNat (yA σ)
  have := yA_b hP
  unfold yE
  omega
theorem yW_b {σ : z_S} : 0 ≤ yW σ ∧ yW σ ≤ 999 := yDv_b _ _ _ _ (by omega) (by omega) (by decide)
theorem mP_yRd {σ : z_S} (hP : mP0 σ) (q3 : -1000000 ≤ σ 6 0 ∧ σ 6 0 ≤ 1000000) : mP (yRd σ) := by
  have ha := yA_b hP
  have he := yE_b hP
  have hw := yW_b (σ := σ)
  obtain ⟨q1, q2, q4⟩ := hP
  have hb := q2 (yA σ)
  unfold yRd
  split
  · rename_i q0
    refine ⟨⟨?_, q2, q4⟩, ?_, ?_, ?_⟩
    · show 0 ≤ yA σ ∧ yA σ ≤ σ 2 0 ∧ σ 2 0 ≤ 100
      omega
    · exact q3
    · show (0 : Int) ≤ 0 ∧ (0 : Int) ≤ 4
      omega
    · intro (h : (0 : Int) = 3)
      omega
  · split
    · refine ⟨⟨?_, q2, q4⟩, ?_, ?_, ?_⟩
      · show 0 ≤ yE σ ∧ yE σ ≤ σ 2 0 ∧ σ 2 0 ≤ 100
        omega
      · show -1000000 ≤ yW σ ∧ yW σ ≤ 1000000
        omega
      · show 0 ≤ (if yE σ - yA σ ≤ 3 then (2 : Int) else 4) ∧ (if yE σ - yA σ ≤ 3 then (2 : Int) else 4) ≤ 4
        split <;> omega
      · intro (h : (if yE σ - yA σ ≤ 3 then (2 : Int) else 4) = 3)
        split at h <;> omega
    · refine ⟨⟨?_, q2, q4⟩, ?_, ?_, ?_⟩
      · show 0 ≤ yA σ + 1 ∧ yA σ + 1 ≤ σ 2 0 ∧ σ 2 0 ≤ 100
        omega
      · show -1000000 ≤ σ 1 (yA σ) ∧ σ 1 (yA σ) ≤ 1000000
        omega
      · show 0 ≤ yTo (σ 1 (yA σ)) ∧ yTo (σ 1 (yA σ)) ≤ 4
        unfold yTo
        split
        · omega
        · split <;> omega
      · intro (h : yTo (σ 1 (yA σ)) = 3)
        show 97 ≤ σ 1 (yA σ) ∧ σ 1 (yA σ) ≤ 100
        unfold yTo at h
        split at h
        · omega
        · split at h <;> omega
theorem yRd_k {σ : z_S} {k : Nat} (hk : k ≠ 4 ∧ k ≠ 5 ∧ k ≠ 6 ∧ k ≠ 7) : yRd σ k = σ k := by
  unfold yRd
  split
  · rw [z_u_ne hk.1, z_u_ne hk.2.1, z_u_ne hk.2.2.2]
  · split
    · rw [z_u_ne hk.2.2.1, z_u_ne hk.1, z_u_ne hk.2.1, z_u_ne hk.2.2.2]
    · rw [z_u_ne hk.2.2.1, z_u_ne hk.1, z_u_ne hk.2.1, z_u_ne hk.2.2.2]
/-- readsTerm(s): whether it holds, and the state behind it -/
def yTt (σ : z_S) (s t : Int) : Int × z_S := if σ 4 0 ≠ 3 then (0, σ) else (1, yRd (z_u σ 9 (4 * σ 13 0 + σ 6 0 - 97) (σ 9 (4 * σ 13 0 + σ 6 0 - 97) + s * t)))
def yRt (σ : z_S) (s : Int) : Int × z_S := if σ 4 0 = 2 then (if yRd σ 4 0 = 1 ∧ yRd σ 6 0 = 42 then yTt (yRd (yRd σ)) s (σ 6 0) else (0, yRd σ)) else yTt σ s 1
theorem mP_u9 {σ : z_S} (hP : mP σ) {i v : Int} : mP (z_u σ 9 i v) := hP
theorem mP_r {σ : z_S} (hP : mP σ) : mP (yRd σ) := mP_yRd hP.1 hP.2.1
theorem mP_u11 {σ : z_S} (hP : mP σ) {i v : Int} : mP (z_u σ 11 i v) := hP
theorem mP_yTt {σ : z_S} (hP : mP σ) (s t : Int) : mP (yTt σ s t).2 := by
  unfold yTt
  split
  · exact hP
  · exact mP_yRd (mP_u9 hP).1 (mP_u9 hP).2.1
theorem mP_yRt {σ : z_S} (hP : mP σ) (s : Int) : mP (yRt σ s).2 := by
  unfold yRt
  split
  · split
    · exact mP_yTt (mP_yRd (mP_yRd hP.1 hP.2.1).1 (mP_yRd hP.1 hP.2.1).2.1) _ _
    · exact mP_yRd hP.1 hP.2.1
  · exact mP_yTt hP _ _
theorem yRt_01 (σ : z_S) (s : Int) : (yRt σ s).1 = 0 ∨ (yRt σ s).1 = 1 := by
  unfold yRt yTt
  (repeat' split) <;> first | exact Or.inl rfl | exact Or.inr rfl
theorem yRt_k {σ : z_S} {s : Int} {k : Nat} (hk : k ≠ 4 ∧ k ≠ 5 ∧ k ≠ 6 ∧ k ≠ 7 ∧ k ≠ 9) : (yRt σ s).2 k = σ k := by
  have h4 : k ≠ 4 ∧ k ≠ 5 ∧ k ≠ 6 ∧ k ≠ 7 := ⟨hk.1, hk.2.1, hk.2.2.1, hk.2.2.2.1⟩
  have ht : ∀ ρ t, (yTt ρ s t).2 k = ρ k := by
    intro ρ t
    unfold yTt
    split
    · rfl
    · exact (yRd_k h4).trans (z_u_ne hk.2.2.2.2)
  unfold yRt
  split
  · split
    · rw [ht, yRd_k h4, yRd_k h4]
    · exact yRd_k h4
  · exact ht _ _
/-- the sign that a token + or - means -/
def ySg (σ : z_S) : Int := if σ 6 0 = 43 then 1 else -1
/-- the terms behind the first one -/
def yTl : Nat → z_S → Int × z_S
  | 0, σ => if σ 4 0 = 1 ∧ (σ 6 0 = 43 ∨ σ 6 0 = 45) then (0, yRd σ) else (1, σ)
  | f + 1, σ => if σ 4 0 = 1 ∧ (σ 6 0 = 43 ∨ σ 6 0 = 45) then (if (yRt (yRd σ) (ySg σ)).1 = 0 then yRt (yRd σ) (ySg σ) else yTl f (yRt (yRd σ) (ySg σ)).2) else (1, σ)
def yC0 (σ : z_S) : z_S := z_u (z_u (z_u (z_u (z_u σ 11 (σ 13 0) (if σ 6 0 = 62 then 1 else 0)) 9 (4 * σ 13 0) 0) 9 (4 * σ 13 0 + 1) 0) 9 (4 * σ 13 0 + 2) 0) 9 (4 * σ 13 0 + 3) 0
def yNc (q : Int × z_S) : Int × z_S := if q.1 = 0 then q else (1, z_u q.2 13 0 (q.2 13 0 + 1))
abbrev yGo (σ : z_S) : Prop := σ 4 0 = 1 ∧ (σ 6 0 = 62 ∨ σ 6 0 = 60) ∧ σ 13 0 ≠ 4
/-- readsCriterion() -/
def yRc (σ : z_S) : Int × z_S := if yGo σ then yNc (if (yRt (yRd (yC0 σ)) 1).1 = 0 then yRt (yRd (yC0 σ)) 1 else yTl 3 (yRt (yRd (yC0 σ)) 1).2) else (0, σ)
/-- the criteria behind the first one -/
def yCl2 : Nat → z_S → Int × z_S
  | 0, σ => (0, σ)
  | f + 1, σ => if σ 4 0 = 1 ∧ σ 6 0 = 59 then (if (yRc (yRd σ)).1 = 0 then yRc (yRd σ) else yCl2 f (yRc (yRd σ)).2) else (if σ 4 0 = 0 then 1 else 0, σ)
def yRo0 (σ : z_S) : z_S := yRd (z_u (z_u σ 7 0 0) 13 0 0)
/-- readsOrder() -/
def yRo (σ : z_S) : Int × z_S := if (yRc (yRo0 σ)).1 = 0 then yRc (yRo0 σ) else yCl2 5 (yRc (yRo0 σ)).2
theorem yTl_e {f : Nat} {σ : z_S} (h : ¬ (σ 4 0 = 1 ∧ (σ 6 0 = 43 ∨ σ 6 0 = 45))) : yTl f σ = (1, σ) := by
  cases f <;> exact if_neg h
theorem yTl_4 {t : Int} {σ : z_S} (ht : 4 ≤ t) (h : σ 4 0 = 1 ∧ (σ 6 0 = 43 ∨ σ 6 0 = 45)) : yTl (4 - t).toNat σ = (0, yRd σ) := by
  rw [show (4 - t).toNat = 0 by omega]
  exact if_pos h
theorem yTl_c {t : Int} {σ : z_S} (ht : t < 4) (h : σ 4 0 = 1 ∧ (σ 6 0 = 43 ∨ σ 6 0 = 45)) (h1 : (yRt (yRd σ) (ySg σ)).1 ≠ 0) : yTl (4 - t).toNat σ = yTl (4 - (t + 1)).toNat (yRt (yRd σ) (ySg σ)).2 := by
  rw [show (4 - t).toNat = (4 - (t + 1)).toNat + 1 by omega]
  exact (if_pos h).trans (if_neg h1)
theorem yTl_f {t : Int} {σ : z_S} (ht : t < 4) (h : σ 4 0 = 1 ∧ (σ 6 0 = 43 ∨ σ 6 0 = 45)) (h1 : (yRt (yRd σ) (ySg σ)).1 = 0) : yTl (4 - t).toNat σ = (0, (yRt (yRd σ) (ySg σ)).2) := by
  rw [show (4 - t).toNat = (4 - (t + 1)).toNat + 1 by omega]
  exact ((if_pos h).trans (if_pos h1)).trans (Prod.ext h1 rfl)
theorem mP_yTl : ∀ (f : Nat) {σ : z_S}, mP σ → mP (yTl f σ).2 := by
  intro f
  induction f with
  | zero => intro σ hP; unfold yTl; split; exact mP_r hP; exact hP
  | succ f ih =>
    intro σ hP
    unfold yTl
    split
    · split
      · exact mP_yRt (mP_r hP) _
      · exact ih (mP_yRt (mP_r hP) _)
    · exact hP
theorem yTl_k {k : Nat} (hk : k ≠ 4 ∧ k ≠ 5 ∧ k ≠ 6 ∧ k ≠ 7 ∧ k ≠ 9) : ∀ (f : Nat) (σ : z_S), (yTl f σ).2 k = σ k := by
  have h4 : k ≠ 4 ∧ k ≠ 5 ∧ k ≠ 6 ∧ k ≠ 7 := ⟨hk.1, hk.2.1, hk.2.2.1, hk.2.2.2.1⟩
  intro f
  induction f with
  | zero => intro σ; unfold yTl; split; exact yRd_k h4; rfl
  | succ f ih =>
    intro σ
    unfold yTl
    split
    · split
      · exact (yRt_k hk).trans (yRd_k h4)
      · exact (ih _).trans ((yRt_k hk).trans (yRd_k h4))
    · rfl
theorem yRc_s {σ : z_S} (hP : mP σ) : mP (yRc σ).2 ∧ ((yRc σ).1 = 0 ∨ ((yRc σ).1 = 1 ∧ (yRc σ).2 13 0 = σ 13 0 + 1 ∧ σ 13 0 ≤ 3)) := by
  have h13 : (13 : Nat) ≠ 4 ∧ (13 : Nat) ≠ 5 ∧ (13 : Nat) ≠ 6 ∧ (13 : Nat) ≠ 7 ∧ (13 : Nat) ≠ 9 := by decide
  have hnc := hP.1.2.2
  have hP0 : mP (yC0 σ) := hP
  have e0 : (yRt (yRd (yC0 σ)) 1).2 13 = σ 13 := (yRt_k h13).trans (yRd_k (by decide))
  have hP1 := mP_yRt (mP_r hP0) 1
  unfold yRc
  by_cases hg : yGo σ
  · rw [if_pos hg]
    have hq13 : σ 13 0 ≠ 4 := hg.2.2
    by_cases h1 : (yRt (yRd (yC0 σ)) 1).1 = 0
    · rw [if_pos h1]
      unfold yNc
      rw [if_pos h1]
      exact ⟨hP1, Or.inl h1⟩
    · rw [if_neg h1]
      have e1 : (yTl 3 (yRt (yRd (yC0 σ)) 1).2).2 13 = σ 13 := (yTl_k h13 _ _).trans e0
      have hP2 := mP_yTl 3 hP1
      unfold yNc
      by_cases h2 : (yTl 3 (yRt (yRd (yC0 σ)) 1).2).1 = 0
      · rw [if_pos h2]
        exact ⟨hP2, Or.inl h2⟩
      · rw [if_neg h2]
        generalize yTl 3 (yRt (yRd (yC0 σ)) 1).2 = q at *
        have e2 : z_u q.2 13 0 (q.2 13 0 + 1) 13 0 = σ 13 0 + 1 := z_u_at.trans (by rw [e1])
        have e3 : 0 ≤ z_u q.2 13 0 (q.2 13 0 + 1) 13 0 ∧ z_u q.2 13 0 (q.2 13 0 + 1) 13 0 ≤ 4 := by rw [e2]; omega
        exact ⟨⟨⟨hP2.1.1, hP2.1.2.1, e3⟩, hP2.2⟩, Or.inr ⟨rfl, e2, by omega⟩⟩
  · rw [if_neg hg]
    exact ⟨hP, Or.inl rfl⟩
theorem yCl2_c {g : Int} {σ : z_S} (hg : 0 < g) (h : σ 4 0 = 1 ∧ σ 6 0 = 59) (h1 : (yRc (yRd σ)).1 ≠ 0) : yCl2 g.toNat σ = yCl2 (g - 1).toNat (yRc (yRd σ)).2 := by
  rw [show g.toNat = (g - 1).toNat + 1 by omega]
  exact (if_pos h).trans (if_neg h1)
theorem yCl2_f {g : Int} {σ : z_S} (hg : 0 < g) (h : σ 4 0 = 1 ∧ σ 6 0 = 59) (h1 : (yRc (yRd σ)).1 = 0) : yCl2 g.toNat σ = (0, (yRc (yRd σ)).2) := by
  rw [show g.toNat = (g - 1).toNat + 1 by omega]
  exact ((if_pos h).trans (if_pos h1)).trans (Prod.ext h1 rfl)
theorem yCl2_e {g : Int} {σ : z_S} (hg : 0 < g) (h : ¬ (σ 4 0 = 1 ∧ σ 6 0 = 59)) : yCl2 g.toNat σ = (if σ 4 0 = 0 then 1 else 0, σ) := by
  rw [show g.toNat = (g - 1).toNat + 1 by omega]
  exact if_neg h

def S_append (σ : z_S) (a b k d e : Int) (c r : Int) (ρ : z_S) : Prop := if σ 2 0 + (yBy a + yBy b + yBy k + yBy d + yBy e) ≤ 100 then c = 0 ∧ r = σ 2 0 + (yBy a + yBy b + yBy k + yBy d + yBy e) ∧ ρ = yTk (yTk (yTk (yTk (yTk σ a) b) k) d) e else c = 1 ∧ ρ = z_u σ 0 0 1
theorem yRc_k {k : Nat} (hk : k ≠ 4 ∧ k ≠ 5 ∧ k ≠ 6 ∧ k ≠ 7 ∧ k ≠ 9) (h11 : k ≠ 11) (h13 : k ≠ 13) (σ : z_S) : (yRc σ).2 k = σ k := by
  have h4 : k ≠ 4 ∧ k ≠ 5 ∧ k ≠ 6 ∧ k ≠ 7 := ⟨hk.1, hk.2.1, hk.2.2.1, hk.2.2.2.1⟩
  have e0 : (yC0 σ) k = σ k := by unfold yC0; rw [z_u_ne hk.2.2.2.2, z_u_ne hk.2.2.2.2, z_u_ne hk.2.2.2.2, z_u_ne hk.2.2.2.2, z_u_ne h11]
  have e1 : (yRt (yRd (yC0 σ)) 1).2 k = σ k := ((yRt_k hk).trans (yRd_k h4)).trans e0
  have hN : ∀ q : Int × z_S, q.2 k = σ k → (yNc q).2 k = σ k := by
    intro q hq
    unfold yNc
    split
    · exact hq
    · exact (z_u_ne h13).trans hq
  unfold yRc
  split
  · apply hN
    split
    · exact e1
    · exact (yTl_k hk _ _).trans e1
  · rfl
theorem yCl2_k {k : Nat} (hk : k ≠ 4 ∧ k ≠ 5 ∧ k ≠ 6 ∧ k ≠ 7 ∧ k ≠ 9) (h11 : k ≠ 11) (h13 : k ≠ 13) : ∀ (f : Nat) (σ : z_S), (yCl2 f σ).2 k = σ k := by
  have h4 : k ≠ 4 ∧ k ≠ 5 ∧ k ≠ 6 ∧ k ≠ 7 := ⟨hk.1, hk.2.1, hk.2.2.1, hk.2.2.2.1⟩
  intro f
  induction f with
  | zero => intro σ; rfl
  | succ f ih =>
    intro σ
    unfold yCl2
    split
    · split
      · exact (yRc_k hk h11 h13 _).trans (yRd_k h4)
      · exact (ih _).trans ((yRc_k hk h11 h13 _).trans (yRd_k h4))
    · rfl
theorem yRo_k {k : Nat} (hk : k ≠ 4 ∧ k ≠ 5 ∧ k ≠ 6 ∧ k ≠ 7 ∧ k ≠ 9) (h11 : k ≠ 11) (h13 : k ≠ 13) (σ : z_S) : (yRo σ).2 k = σ k := by
  have h4 : k ≠ 4 ∧ k ≠ 5 ∧ k ≠ 6 ∧ k ≠ 7 := ⟨hk.1, hk.2.1, hk.2.2.1, hk.2.2.2.1⟩
  have e0 : yRo0 σ k = σ k := by unfold yRo0; rw [yRd_k h4, z_u_ne h13, z_u_ne hk.2.2.2.1]
  unfold yRo
  split
  · exact (yRc_k hk h11 h13 _).trans e0
  · exact (yCl2_k hk h11 h13 _ _).trans ((yRc_k hk h11 h13 _).trans e0)
theorem yCl2_s : ∀ (f : Nat) (σ : z_S), mP σ → 1 ≤ σ 13 0 → mP (yCl2 f σ).2 ∧ ((yCl2 f σ).1 = 0 ∨ ((yCl2 f σ).1 = 1 ∧ 1 ≤ (yCl2 f σ).2 13 0)) := by
  intro f
  induction f with
  | zero => intro σ hP _; exact ⟨hP, Or.inl rfl⟩
  | succ f ih =>
    intro σ hP h1
    have e13 : (yRd σ) 13 0 = σ 13 0 := congrFun (yRd_k (by decide)) 0
    obtain ⟨q1, q2⟩ := yRc_s (mP_r hP)
    unfold yCl2
    split
    · split
      · rename_i h2; exact ⟨q1, Or.inl h2⟩
      · rename_i h2
        exact ih _ q1 (by omega)
    · refine ⟨hP, ?_⟩
      show (if σ 4 0 = 0 then (1 : Int) else 0) = 0 ∨ ((if σ 4 0 = 0 then (1 : Int) else 0) = 1 ∧ 1 ≤ σ 13 0)
      split <;> omega
theorem yRo_s {σ : z_S} (hP : mP (yRo0 σ)) : mP (yRo σ).2 ∧ ((yRo σ).1 = 0 ∨ ((yRo σ).1 = 1 ∧ 1 ≤ (yRo σ).2 13 0)) := by
  have e13 : (yRo0 σ) 13 0 = 0 := congrFun (yRd_k (by decide)) 0
  obtain ⟨q1, q2⟩ := yRc_s hP
  unfold yRo
  split
  · rename_i h2; exact ⟨q1, Or.inl h2⟩
  · exact yCl2_s _ _ q1 (by omega)
-- isNewGreater has truth values
def m11 (σ : z_S) : Prop := ∀ i, σ 11 i = 0 ∨ σ 11 i = 1
theorem m11_of {ρ σ : z_S} (h : m11 σ) (e : ρ 11 = σ 11) : m11 ρ := fun i => by rw [e]; exact h i
theorem m11_c {σ : z_S} (h : m11 σ) : m11 (yC0 σ) := by
  intro i
  unfold yC0
  rw [z_u_ne (by decide), z_u_ne (by decide), z_u_ne (by decide), z_u_ne (by decide), z_u_eq]
  unfold z_up
  split
  · split
    · exact Or.inr rfl
    · exact Or.inl rfl
  · exact h i
theorem m11_rc {σ : z_S} (h : m11 σ) : m11 (yRc σ).2 := by
  have hk : (11 : Nat) ≠ 4 ∧ (11 : Nat) ≠ 5 ∧ (11 : Nat) ≠ 6 ∧ (11 : Nat) ≠ 7 ∧ (11 : Nat) ≠ 9 := by decide
  have h1 : m11 (yRt (yRd (yC0 σ)) 1).2 := m11_of (m11_c h) ((yRt_k hk).trans (yRd_k (by decide)))
  have h2 : m11 (yTl 3 (yRt (yRd (yC0 σ)) 1).2).2 := m11_of h1 (yTl_k hk _ _)
  have hN : ∀ q : Int × z_S, m11 q.2 → m11 (yNc q).2 := by
    intro q hq
    unfold yNc
    split
    · exact hq
    · exact hq
  unfold yRc
  split
  · apply hN
    split
    · exact h1
    · exact h2
  · exact h
theorem m11_cl : ∀ (f : Nat) (σ : z_S), m11 σ → m11 (yCl2 f σ).2 := by
  intro f
  induction f with
  | zero => intro σ h; exact h
  | succ f ih =>
    intro σ h
    have h1 : m11 (yRc (yRd σ)).2 := m11_rc (m11_of h (yRd_k (by decide)))
    unfold yCl2
    split
    · split
      · exact h1
      · exact ih _ h1
    · exact h
theorem m11_ro {σ : z_S} (h : m11 σ) : m11 (yRo σ).2 := by
  have h0 : m11 (yRc (yRo0 σ)).2 := m11_rc (m11_of h (show yRo0 σ 11 = σ 11 from yRd_k (by decide)))
  unfold yRo
  split
  · exact h0
  · exact m11_cl _ _ h0
def ySo (σ : z_S) : z_S := z_ur (z_ur (z_u (z_u (z_u (yRo σ).2 3 0 (-1)) 2 0 0) 12 0 ((yRo σ).2 13 0)) 8 (fun i => if 0 ≤ i ∧ i < 4 * (yRo σ).2 13 0 then (yRo σ).2 9 i else (yRo σ).2 8 i)) 10 (fun i => if 0 ≤ i ∧ i < (yRo σ).2 13 0 then (yRo σ).2 11 i else (yRo σ).2 10 i)
def ySf (σ : z_S) : z_S := z_u (z_u (z_u (yRo σ).2 3 0 ((yRo σ).2 5 0)) 2 0 0) 0 0 1
def S_setOrder (σ : z_S)  (c r : Int) (ρ : z_S) : Prop := if (yRo σ).1 ≠ 0 then c = 0 ∧ r = (yRo σ).2 13 0 ∧ ρ = ySo σ else c = 1 ∧ ρ = ySf σ
end M6
